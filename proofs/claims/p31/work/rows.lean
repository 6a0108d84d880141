section
-- ===== PART A: goes FIRST, ahead of the names: the tables' words, and 'selects' of the private methods out of them =====
/-- a private method of a class that the tables say can be made, by its rows of tables_1 -/
def lw_okq (q : MethodName × Nat) : Prop := (q.1.cls ≠ "java/lang/invoke/MethodHandle" ∧ q.1.cls ≠ "java/lang/invoke/VarHandle") ∧ Cond.instantiable q.1.cls q.2 ∈ tables_1 ∧ Cond.privateMethod q.1 ∈ tables_1 ∧ Cond.instanceMethod q.1 ∈ tables_1
theorem lw_p0 : lw_okq (⟨"java/lang/Throwable", "fillInStackTrace", "(I)Ljava/lang/Throwable;"⟩, 6) := ⟨⟨by decide +kernel, by decide +kernel⟩, List.mem_of_getElem? (i := 222) (by decide +kernel), List.mem_of_getElem? (i := 220) (by decide +kernel), List.mem_of_getElem? (i := 221) (by decide +kernel)⟩
theorem lw_p1 : lw_okq (⟨"EchoRegistry$Chart", "reach", "(II)I"⟩, 8) := ⟨⟨by decide +kernel, by decide +kernel⟩, List.mem_of_getElem? (i := 33) (by decide +kernel), List.mem_of_getElem? (i := 290) (by decide +kernel), List.mem_of_getElem? (i := 291) (by decide +kernel)⟩
theorem lw_p2 : lw_okq (⟨"EchoRegistry$Chart", "tellShape", "(II)V"⟩, 8) := ⟨⟨by decide +kernel, by decide +kernel⟩, List.mem_of_getElem? (i := 33) (by decide +kernel), List.mem_of_getElem? (i := 297) (by decide +kernel), List.mem_of_getElem? (i := 298) (by decide +kernel)⟩
theorem lw_p3 : lw_okq (⟨"EchoRegistry$Chart", "isIn", "(II)Z"⟩, 8) := ⟨⟨by decide +kernel, by decide +kernel⟩, List.mem_of_getElem? (i := 33) (by decide +kernel), List.mem_of_getElem? (i := 330) (by decide +kernel), List.mem_of_getElem? (i := 331) (by decide +kernel)⟩
theorem lw_p4 : lw_okq (⟨"EchoRegistry", "finderOfShape", "(I)I"⟩, 6) := ⟨⟨by decide +kernel, by decide +kernel⟩, List.mem_of_getElem? (i := 25) (by decide +kernel), List.mem_of_getElem? (i := 404) (by decide +kernel), List.mem_of_getElem? (i := 405) (by decide +kernel)⟩
theorem lw_p5 : lw_okq (⟨"EchoRegistry", "claimOnShape", "(I)I"⟩, 6) := ⟨⟨by decide +kernel, by decide +kernel⟩, List.mem_of_getElem? (i := 25) (by decide +kernel), List.mem_of_getElem? (i := 408) (by decide +kernel), List.mem_of_getElem? (i := 409) (by decide +kernel)⟩
theorem lw_p6 : lw_okq (⟨"EchoRegistry", "requireClaim", "(I)V"⟩, 6) := ⟨⟨by decide +kernel, by decide +kernel⟩, List.mem_of_getElem? (i := 25) (by decide +kernel), List.mem_of_getElem? (i := 440) (by decide +kernel), List.mem_of_getElem? (i := 441) (by decide +kernel)⟩
theorem lw_p7 : lw_okq (⟨"EchoRegistry", "requireThing", "(I)V"⟩, 6) := ⟨⟨by decide +kernel, by decide +kernel⟩, List.mem_of_getElem? (i := 25) (by decide +kernel), List.mem_of_getElem? (i := 462) (by decide +kernel), List.mem_of_getElem? (i := 463) (by decide +kernel)⟩
theorem lw_p8 : lw_okq (⟨"EchoRegistry", "requireDive", "(III)V"⟩, 6) := ⟨⟨by decide +kernel, by decide +kernel⟩, List.mem_of_getElem? (i := 25) (by decide +kernel), List.mem_of_getElem? (i := 500) (by decide +kernel), List.mem_of_getElem? (i := 501) (by decide +kernel)⟩
theorem lw_p9 : lw_okq (⟨"EchoRegistry", "requireFree", "(I)V"⟩, 6) := ⟨⟨by decide +kernel, by decide +kernel⟩, List.mem_of_getElem? (i := 25) (by decide +kernel), List.mem_of_getElem? (i := 504) (by decide +kernel), List.mem_of_getElem? (i := 505) (by decide +kernel)⟩
theorem lw_p10 : lw_okq (⟨"EchoRegistry", "requireOpenShape", "(I)V"⟩, 6) := ⟨⟨by decide +kernel, by decide +kernel⟩, List.mem_of_getElem? (i := 25) (by decide +kernel), List.mem_of_getElem? (i := 532) (by decide +kernel), List.mem_of_getElem? (i := 533) (by decide +kernel)⟩
theorem lw_p11 : lw_okq (⟨"EchoRegistry$Ledger", "share", "(III)V"⟩, 5) := ⟨⟨by decide +kernel, by decide +kernel⟩, List.mem_of_getElem? (i := 101) (by decide +kernel), List.mem_of_getElem? (i := 548) (by decide +kernel), List.mem_of_getElem? (i := 549) (by decide +kernel)⟩
theorem lw_p12 : lw_okq (⟨"EchoRegistry", "writeTitle", "(I)V"⟩, 6) := ⟨⟨by decide +kernel, by decide +kernel⟩, List.mem_of_getElem? (i := 25) (by decide +kernel), List.mem_of_getElem? (i := 628) (by decide +kernel), List.mem_of_getElem? (i := 629) (by decide +kernel)⟩
def lw_privs_1 : List (MethodName × Nat) := [(⟨"java/lang/Throwable", "fillInStackTrace", "(I)Ljava/lang/Throwable;"⟩, 6), (⟨"EchoRegistry$Chart", "reach", "(II)I"⟩, 8), (⟨"EchoRegistry$Chart", "tellShape", "(II)V"⟩, 8), (⟨"EchoRegistry$Chart", "isIn", "(II)Z"⟩, 8), (⟨"EchoRegistry", "finderOfShape", "(I)I"⟩, 6), (⟨"EchoRegistry", "claimOnShape", "(I)I"⟩, 6), (⟨"EchoRegistry", "requireClaim", "(I)V"⟩, 6), (⟨"EchoRegistry", "requireThing", "(I)V"⟩, 6), (⟨"EchoRegistry", "requireDive", "(III)V"⟩, 6), (⟨"EchoRegistry", "requireFree", "(I)V"⟩, 6), (⟨"EchoRegistry", "requireOpenShape", "(I)V"⟩, 6), (⟨"EchoRegistry$Ledger", "share", "(III)V"⟩, 5), (⟨"EchoRegistry", "writeTitle", "(I)V"⟩, 6)]
theorem lw_r1 : ∀ q ∈ lw_privs_1, lw_okq q := List.forall_mem_cons.mpr ⟨lw_p0, List.forall_mem_cons.mpr ⟨lw_p1, List.forall_mem_cons.mpr ⟨lw_p2, List.forall_mem_cons.mpr ⟨lw_p3, List.forall_mem_cons.mpr ⟨lw_p4, List.forall_mem_cons.mpr ⟨lw_p5, List.forall_mem_cons.mpr ⟨lw_p6, List.forall_mem_cons.mpr ⟨lw_p7, List.forall_mem_cons.mpr ⟨lw_p8, List.forall_mem_cons.mpr ⟨lw_p9, List.forall_mem_cons.mpr ⟨lw_p10, List.forall_mem_cons.mpr ⟨lw_p11, List.forall_mem_cons.mpr ⟨lw_p12, fun _ h => absurd h List.not_mem_nil⟩⟩⟩⟩⟩⟩⟩⟩⟩⟩⟩⟩⟩
def lw_privs : List (MethodName × Nat) := lw_privs_1
def lw_tbl : List Cond := k2_sels lw_privs ++ tables_1
theorem lw_privs_ok : ∀ q ∈ lw_privs, lw_okq q := lw_r1
end
section
/-! ===== BEGIN words of one list among another's, by their places ===== -/
theorem goodIn_r {big : List Cond} (ws : List Cond) (ps : List Nat) (hp : ws = ps.filterMap (fun i => big[i]?)) (h : ws.all goodWord = true) : GoodIn big ws := by
  intro w hw
  have h1 := List.all_eq_true.mp h w hw
  rw [hp] at hw
  obtain ⟨i, -, hi⟩ := List.mem_filterMap.mp hw
  have hm : w ∈ big := by first | exact List.mem_of_getElem? hi | exact List.getElem?_mem hi
  exact ⟨hm, good_of_word h1⟩
theorem goodIn_app {big a b : List Cond} (ha : GoodIn big a) (hb : GoodIn big b) : GoodIn big (a ++ b) := fun w h => (List.mem_append.mp h).elim (ha w) (hb w)
theorem goodIn_ca {big a b : List Cond} {c : Cond} (ha : GoodIn big (c :: a)) (hb : GoodIn big b) : GoodIn big (c :: (a ++ b)) := fun w h => (List.mem_cons.mp h).elim (fun e => ha w (List.mem_cons.mpr (Or.inl e))) (fun h => (List.mem_append.mp h).elim (fun h => ha w (List.mem_cons.mpr (Or.inr h))) (hb w))
theorem goodIn_sub {big ws : List Cond} (hm : ∀ w ∈ ws, w ∈ big) (h : ws.all goodWord = true) : GoodIn big ws := fun w hw => ⟨hm w hw, good_of_word (List.all_eq_true.mp h w hw)⟩
/-! ===== END ===== -/
/-! ===== BEGIN exceptions that leave a method, and their catching by the caller (launches without stack traces) ===== -/
section VXA
/-! The laws vx_back, vx_callV, vx_callS, vx_callSW, vx_throw0, vx_throwS follow proofs of the library, with one case more: JvmDerived/Free/Laws.lean (Back.of_free), Shelf42/LK1.lean (callV, callS), Shelf/KitTraced.lean (throwNew0V, throwNewS). -/
/-- where a method has thrown q: the class by its name, the cell, what was written, the world -/
def vx_T (XC : String → State → State → Prop) (st : State) (q : Addr) (t : State) (mc ms : Nat) (free : Addr → Prop) : Prop :=
  ∃ (E : String) (ce : Cell) (L : List Loc), XC E st t ∧ t.heap[q]? = some ce ∧ ce.vm = .none ∧ st.vm.findClass E = some ce.cls ∧ st.WarmedH t.vm ∧ st.sameButNew ({ t with vm := st.vm } : State) L mc ms ∧ ∀ z ∈ L, free z.base
def vx_Q (Qc : Array Value → State → Outcome → State → Prop) (XC : String → State → State → Prop) (mc ms : Nat) (free : Addr → Prop) : Array Value → State → Outcome → State → Prop := fun a st o t =>
  (Qc a st o t ∧ ∃ L, FrameEnd st o t L mc ms ∧ ∀ q ∈ L, free q.base) ∨ ∃ q, o = .threw q ∧ vx_T XC st q t mc ms free
/-- a callee that returns or throws -/
def vx_Met (l : Launch) (y : MethodName) (ws : List Cond) (rm : Room) (Pc : Array Value → State → Prop) (Qc : Array Value → State → Outcome → State → Prop) (XC : String → State → State → Prop) (mc ms : Nat) (free : Addr → Prop) : Prop :=
  MetFree l y (headSpec ws rm) Pc (fun _ _ _ _ _ => True) (vx_Q Qc XC mc ms free)
def vx_Post (XC : String → State → State → Prop) (mc ms : Nat) (free : Addr → Prop) : Pt → Array Value → Addr → Pt → Prop := fun A a q B =>
  ∃ (g : JFrame) (mk : MethodId) (t : State) (L : List Loc) (E : String) (ce : Cell), B.U.heap = t.heap ∧ B.U.vm = t.vm ∧ XC E (A.U.calling g mk a) t ∧ t.heap[q]? = some ce ∧ ce.vm = .none ∧ A.U.vm.findClass E = some ce.cls ∧ B.locs = A.locs ++ L ∧ (∀ z ∈ L, free z.base) ∧ B.cells = A.cells + mc ∧ B.slots = A.slots + ms
def vx_Back (l : Launch) (R : Room) (p : Program) (e : Env) (below : List Frame) (s : State) (sargs : Array Value) (y : MethodName) (len W9 : Nat)
    (Pre : Pt → Array Value → Prop) (Post : Pt → Array Value → Option Value → Pt → Prop) (PostX : Pt → Array Value → Addr → Pt → Prop) : Prop :=
  ∀ (m : MethodId) (meth : Method) (c : Code) (A : Pt) (g : JFrame) (ig : Instr) (mk : MethodId) (a : Array Value),
    Stand p l e R s m sargs below meth c A.U A.locs A.cells A.slots → g.method = m → g.locals.size = c.maxLocals → decode c.code g.pc = .ok (ig, len) →
    2 * g.monitorRoom + (g.stack.map fun v => v.category).sum ≤ W9 → A.U.methodNamed? y = some mk → Pre A a →
    (∃ (v : Option Value) (B : Pt), Stand p l e R s m sargs below meth c B.U B.locs B.cells B.slots ∧ Post A a v B ∧
      Steps p.tables e below (doInvoke e (A.U.setTop g) [] mk a).1 (B.U.setTop { g with pc := g.pc + len, stack := v.toList ++ g.stack })) ∨
    (∃ (q : Addr) (B : Pt), Stand p l e R s m sargs below meth c B.U B.locs B.cells B.slots ∧ PostX A a q B ∧
      Steps p.tables e below (doInvoke e (A.U.setTop g) [] mk a).1 ((B.U.setTop g).pushFrame (.throwing q)))
section Payer
variable {l : Launch} {R : Room} {p : Program} {e : Env} {below : List Frame} {s : State} {sargs : Array Value} {y : MethodName} {len W9 : Nat}
theorem vx_back {ws : List Cond} {rm : Room} {Pc : Array Value → State → Prop} {Qc : Array Value → State → Outcome → State → Prop} {XC : String → State → State → Prop} {mc ms : Nat} {free : Addr → Prop} {bytes : ByteArray} {maxL : Nat} {ret : Option FieldType}
    (hM : vx_Met l y ws rm Pc Qc XC mc ms free) (hblind : FrameBlind Pc) (hrc : rm.cells = mc) (hrs : rm.slots = ms)
    (hframes : rm.frames + 1 ≤ R.frames) (hlocals : W9 + (maxL + 11) + rm.locals ≤ R.locals)
    (hws : ∀ w ∈ ws, ∀ a' U, s.WarmedH U.vm → w.before a' U = true) (hcode : Cond.code y bytes maxL ret ∈ ws) (hinit : ∀ a' U, s.WarmedH U.vm → (Cond.initialized y.cls).before a' U = true) :
    vx_Back l R p e below s sargs y len W9 (PreOf R mc ms Pc) (PostOf Qc mc ms free) (vx_Post XC mc ms free) := by
  intro m meth c A g ig mk a X hg hsize hdg hW hn hp
  have h1 : (headSpec ws rm).pre.before a A.U = true := atoms_intro fun w hw => hws w hw _ _ X.warmed
  have h2 : (Cond.code y bytes maxL ret).before a A.U = true := hws _ hcode _ _ X.warmed
  have h3 : (Cond.initialized y.cls).before a A.U = true := hinit _ _ X.warmed
  have h4 : A.cells + (headSpec ws rm).room.cells ≤ R.cells := by rw [show (headSpec ws rm).room.cells = mc from hrc]; exact hp.1
  have h5 : A.slots + (headSpec ws rm).room.slots ≤ R.slots := by rw [show (headSpec ws rm).room.slots = ms from hrs]; exact hp.2.1
  have hPc : Pc a (A.U.calling g mk a) := hblind _ _ _ _ hp.2.2
  obtain ⟨U, Ls, c0, s0⟩ := A
  dsimp only [Pt.U, Pt.locs, Pt.cells, Pt.slots] at h1 h2 h3 h4 h5 X hn hPc ⊢
  obtain ⟨methY, cY, hmY, hcY, -, hlY, -, -, -, -⟩ := Cond.code_spec hn h2
  obtain ⟨kY, hkY, -⟩ := className_of_methodNamed hn
  have hinitY : kY.init = .initialized := Cond.initialized_spec (findClass_of_methodNamed hn) hkY h3
  have h : At U g.method c below := by rw [hg]; exact X.here
  have hlocals9 : W9 + (maxL + 11) + (headSpec ws rm).room.locals ≤ R.locals := hlocals
  have happ : (headSpec ws rm).appliesLoose y e.platform (U.calling g mk a) = true :=
    Spec.appliesLoose_calling (g := g) h hdg hn hkY hinitY
      (X.room_calling (g := g) (R' := (headSpec ws rm).room) hsize hmY hcY hframes (by rw [hlY]; omega) h4 h5) h1
  obtain ⟨mid, hmid⟩ := h.above
  have hfr : (U.setTop g).frames = (.java g :: mid) ++ below := by rw [State.frames_setTop' g h.top, hmid]; rfl
  obtain ⟨o, s₂, hsteps, -, hend, hq⟩ := Steps.callFree hM p X.admits X.cas X.clock (acts := []) hfr happ hPc trivial
  have hq' : vx_Q Qc XC mc ms free a (U.calling g mk a) o s₂ := hq
  rw [State.frames_setTop' g h.top] at hend
  obtain ⟨g₀, hg0⟩ := Option.isSome_iff_exists.mp h.top
  obtain ⟨r, hr⟩ := State.topJava?_eq_some.mp hg0
  have hr' : (({ U with heap := s₂.heap, slotsUsed := s₂.slotsUsed } : State).setVm s₂.vm).frames = .java g₀ :: r := hr
  rcases hq' with ⟨hqc, L, hfe, hL⟩ | ⟨q, rfl, E, ce, L, hx, hce, hcv, hcl, hW₂, hsm, hL⟩
  · obtain ⟨⟨v, rfl⟩, hW₂, e2, q2, q3, q4, q5, q6⟩ := id hfe
    have e3 : s₂ = ({ (U.calling g mk a).setFrames s₂.frames with heap := s₂.heap, slotsUsed := s₂.slotsUsed } : State).setVm s₂.vm := by
      have : s₂ = ({ s₂ with vm := (U.calling g mk a).vm } : State).setVm s₂.vm := rfl
      rw [e2] at this
      exact this
    obtain ⟨c₂, i₂, len₂, hc₂, hd₂, hf₂⟩ := hend
    have hW' : U.WarmedH s₂.vm := hW₂
    have hcc : c₂ = c := by
      have h1 : s₂.code? g.method = U.code? g.method := by
        rw [State.code?_eq, State.code?_eq, hW'.alike.method?]
      exact Option.some.inj (hc₂.symm.trans (h1.trans h.code))
    subst hcc
    have hlen : len₂ = len := by rw [hdg] at hd₂; cases hd₂; rfl
    subst hlen
    have hs₂ : s₂ = (({ U with heap := s₂.heap, slotsUsed := s₂.slotsUsed } : State).setVm s₂.vm).setTop { g with pc := g.pc + len₂, stack := v.toList ++ g.stack } := by
      refine e3.trans ?_
      rw [hf₂, State.calling_eq h.top, State.setFrames_setFrames, State.setTop_of_frames _ hr', hr]
      rfl
    have hsame : U.sameButNew ({ U with heap := s₂.heap, slotsUsed := s₂.slotsUsed } : State) L mc ms := by
      refine ⟨?_, q2, q3, q4, q5, q6⟩
      obtain ⟨t, ht, -⟩ := State.frames_cons hr
      show ({ U with heap := s₂.heap, slotsUsed := s₂.slotsUsed } : State) = { U.setFrames U.frames with heap := s₂.heap, slotsUsed := s₂.slotsUsed }
      rw [State.setFrames_self ht]
    subst hg
    refine Or.inl ⟨v, ⟨(({ U with heap := s₂.heap, slotsUsed := s₂.slotsUsed } : State).setVm s₂.vm), Ls ++ L, c0 + mc, s0 + ms⟩,
      ⟨X.admits, X.cas, X.clock, X.frames, X.room, X.hears, X.method, X.code, (X.here.setHeapUsed s₂.heap s₂.slotsUsed).setVm hW'.alike, X.tail, State.WarmedH.trans X.warmed hW', X.limits, X.bytes, X.same.trans (hsame.setVm s.vm)⟩,
      ⟨g, mk, s₂, L, rfl, rfl, hqc, rfl, hL, rfl, rfl⟩, ?_⟩
    show Steps p.tables e below _ ((({ U with heap := s₂.heap, slotsUsed := s₂.slotsUsed } : State).setVm s₂.vm).setTop { g with pc := g.pc + len₂, stack := v.toList ++ g.stack })
    rw [← hs₂]
    exact hsteps
  · obtain ⟨e2, q2, q3, q4, q5, q6⟩ := id hsm
    have e3 : s₂ = ({ (U.calling g mk a).setFrames s₂.frames with heap := s₂.heap, slotsUsed := s₂.slotsUsed } : State).setVm s₂.vm := by
      have : s₂ = ({ s₂ with vm := (U.calling g mk a).vm } : State).setVm s₂.vm := rfl
      rw [e2] at this
      exact this
    have hf₂ : s₂.frames = .throwing q :: .java g :: U.frames.tail := hend
    have hW' : U.WarmedH s₂.vm := hW₂
    have hs₂ : s₂ = ((({ U with heap := s₂.heap, slotsUsed := s₂.slotsUsed } : State).setVm s₂.vm).setTop g).pushFrame (.throwing q) := by
      refine e3.trans ?_
      rw [hf₂, State.calling_eq h.top, State.setFrames_setFrames, State.pushFrame, State.frames_setTop _ hr', State.setTop_of_frames _ hr', State.setFrames_setFrames, hr]
      rfl
    have hsame : U.sameButNew ({ U with heap := s₂.heap, slotsUsed := s₂.slotsUsed } : State) L mc ms := by
      refine ⟨?_, q2, q3, q4, q5, q6⟩
      obtain ⟨t, ht, -⟩ := State.frames_cons hr
      show ({ U with heap := s₂.heap, slotsUsed := s₂.slotsUsed } : State) = { U.setFrames U.frames with heap := s₂.heap, slotsUsed := s₂.slotsUsed }
      rw [State.setFrames_self ht]
    subst hg
    refine Or.inr ⟨q, ⟨(({ U with heap := s₂.heap, slotsUsed := s₂.slotsUsed } : State).setVm s₂.vm), Ls ++ L, c0 + mc, s0 + ms⟩,
      ⟨X.admits, X.cas, X.clock, X.frames, X.room, X.hears, X.method, X.code, (X.here.setHeapUsed s₂.heap s₂.slotsUsed).setVm hW'.alike, X.tail, State.WarmedH.trans X.warmed hW', X.limits, X.bytes, X.same.trans (hsame.setVm s.vm)⟩,
      ⟨g, mk, s₂, L, E, ce, rfl, rfl, hx, hce, hcv, hcl, rfl, hL, rfl, rfl⟩, ?_⟩
    show Steps p.tables e below _ (((({ U with heap := s₂.heap, slotsUsed := s₂.slotsUsed } : State).setVm s₂.vm).setTop g).pushFrame (.throwing q))
    rw [← hs₂]
    exact hsteps
end Payer
section Calls
variable {p : Program} {l : Launch} {e : Env} {R : Room} {s : State} {m : MethodId} {args : Array Value} {below : List Frame} {meth : Method} {c : Code} {T : State} {locs : List Loc} {cells slots : Nat}
theorem vx_callV (X : Stand p l e R s m args below meth c T locs cells slots) (hexec : p.tables.exec = Jvm.exec) {own C : String} {index : Nat} {y : MethodName} {bytes : ByteArray} {maxL : Nat} {ret : Option FieldType}
    (hown : s.vm.findClass own = some m.cls) (hlink : (Cond.methodLink own index y).before args s = true) (hinst : (Cond.instanceMethod y).before args s = true) (hsel : (Cond.selects C y y).before args s = true)
    (hcode : (Cond.code y bytes maxL ret).before args s = true) (hy : y.cls ≠ "java/lang/invoke/MethodHandle" ∧ y.cls ≠ "java/lang/invoke/VarHandle")
    {W9 : Nat} {Pre : Pt → Array Value → Prop} {Post : Pt → Array Value → Option Value → Pt → Prop} {PostX : Pt → Array Value → Addr → Pt → Prop} (hK : vx_Back l R p e below s args y 3 W9 Pre Post PostX)
    {b : Addr} {cellB : Cell} (hcell : T.heap[b]? = some cellB) (hobj : cellB.vm.isStatics = false) (hcls : s.vm.findClass C = some cellB.cls)
    {g : JFrame} (hg : g.method = m) (hsize : g.locals.size = c.maxLocals) {argsL rest : List Value} (hlen : ∀ sig, parseMethodDescriptor y.desc = some sig → argsL.length = sig.parameters.length)
    (hstack : g.stack = argsL.reverse ++ .ref b :: rest) (hW : 2 * g.monitorRoom + (rest.map fun v => v.category).sum ≤ W9) (hdg : decode c.code g.pc = .ok (.invokevirtual index, 3))
    (hpre : ∀ vm₁, s.WarmedH vm₁ → Pre ⟨T.setVm vm₁, locs, cells, slots⟩ (Value.ref b :: argsL).toArray) :
    (∃ (v : Option Value) (vm₁ : Vm) (B : Pt), s.WarmedH vm₁ ∧ Stand p l e R s m args below meth c B.U B.locs B.cells B.slots ∧ Post ⟨T.setVm vm₁, locs, cells, slots⟩ (Value.ref b :: argsL).toArray v B ∧
      ∀ target, Steps p.tables e below (B.U.setTop { g with pc := g.pc + 3, stack := v.toList ++ rest }) target → Steps p.tables e below (T.setTop g) target) ∨
    (∃ (q : Addr) (vm₁ : Vm) (B : Pt), s.WarmedH vm₁ ∧ Stand p l e R s m args below meth c B.U B.locs B.cells B.slots ∧ PostX ⟨T.setVm vm₁, locs, cells, slots⟩ (Value.ref b :: argsL).toArray q B ∧
      Steps p.tables e below (T.setTop g) ((B.U.setTop { g with stack := rest }).pushFrame (.throwing q))) := by
  obtain ⟨mk, methM, hnamed, hmethM, hstM, habM⟩ := Cond.instanceMethod_spec hinst
  obtain ⟨methM', cM, hmethM', -, -, -, -, -, -, hsigM⟩ := Cond.code_spec hnamed hcode
  cases hmethM.symm.trans hmethM'
  obtain ⟨c2, r2, m2, q1, q2, q3, q4, kP, hkP, hkPi⟩ := Cond.selects_spec hsel
  cases hcls.symm.trans q1
  cases (State.methodFound?_of_named hnamed hy).symm.trans q2
  cases hnamed.symm.trans q3
  have hselP : selectMethod e.platform s.vm cellB.cls mk = .method mk := by rw [Launch.admits_selectMethod X.admits]; exact q4
  obtain ⟨vm₁, X₁, hstep₁⟩ := X.invokevirtual hexec hown hlink hnamed hmethM hstM hkP hkPi hy (a := b) (cell := cellB) hcell
    (fun z h => by rw [h] at hobj; cases hobj) hselP hmethM habM hkP hkPi (g := g) hg (argsL := argsL) (rest := rest) (hlen _ hsigM) hstack hdg
  rcases hK m meth c ⟨T.setVm vm₁, locs, cells, slots⟩ { g with stack := rest } (.invokevirtual index) mk (Value.ref b :: argsL).toArray X₁ hg hsize hdg hW (X₁.named hnamed) (hpre vm₁ X₁.warmed) with ⟨v, B, X', hpost, hsteps⟩ | ⟨q, B, X', hpost, hsteps⟩
  · exact Or.inl ⟨v, vm₁, B, X₁.warmed, X', hpost, fun target h => hstep₁ _ fun acts => by rw [doInvoke_state]; exact hsteps.trans h⟩
  · exact Or.inr ⟨q, vm₁, B, X₁.warmed, X', hpost, hstep₁ _ fun acts => by rw [doInvoke_state]; exact hsteps⟩
theorem vx_callS (X : Stand p l e R s m args below meth c T locs cells slots) (hexec : p.tables.exec = Jvm.exec) {own : String} {index : Nat} {y : MethodName} {bytes : ByteArray} {maxL : Nat} {ret : Option FieldType}
    (hown : s.vm.findClass own = some m.cls) (hlink : (Cond.methodLink own index y).before args s = true) (hstat : (Cond.static y).before args s = true) (hinit : (Cond.initialized y.cls).before args s = true)
    (hcode : (Cond.code y bytes maxL ret).before args s = true) (hy : y.cls ≠ "java/lang/invoke/MethodHandle" ∧ y.cls ≠ "java/lang/invoke/VarHandle")
    {W9 : Nat} {Pre : Pt → Array Value → Prop} {Post : Pt → Array Value → Option Value → Pt → Prop} {PostX : Pt → Array Value → Addr → Pt → Prop} (hK : vx_Back l R p e below s args y 3 W9 Pre Post PostX)
    {g : JFrame} (hg : g.method = m) (hsize : g.locals.size = c.maxLocals) {argsL rest : List Value} (hlen : ∀ sig, parseMethodDescriptor y.desc = some sig → argsL.length = sig.parameters.length)
    (hstack : g.stack = argsL.reverse ++ rest) (hW : 2 * g.monitorRoom + (rest.map fun v => v.category).sum ≤ W9) (hdg : decode c.code g.pc = .ok (.invokestatic index, 3))
    (hpre : ∀ vm₁, s.WarmedH vm₁ → Pre ⟨T.setVm vm₁, locs, cells, slots⟩ argsL.toArray) :
    (∃ (v : Option Value) (vm₁ : Vm) (B : Pt), s.WarmedH vm₁ ∧ Stand p l e R s m args below meth c B.U B.locs B.cells B.slots ∧ Post ⟨T.setVm vm₁, locs, cells, slots⟩ argsL.toArray v B ∧
      ∀ target, Steps p.tables e below (B.U.setTop { g with pc := g.pc + 3, stack := v.toList ++ rest }) target → Steps p.tables e below (T.setTop g) target) ∨
    (∃ (q : Addr) (vm₁ : Vm) (B : Pt), s.WarmedH vm₁ ∧ Stand p l e R s m args below meth c B.U B.locs B.cells B.slots ∧ PostX ⟨T.setVm vm₁, locs, cells, slots⟩ argsL.toArray q B ∧
      Steps p.tables e below (T.setTop g) ((B.U.setTop { g with stack := rest }).pushFrame (.throwing q))) := by
  obtain ⟨mk, hnamed⟩ := Cond.code_named hcode
  obtain ⟨methM, cM, hmethM, -, -, -, -, -, -, hsigM⟩ := Cond.code_spec hnamed hcode
  have hstatic : methM.isStatic = true := Cond.static_spec hnamed hmethM hstat
  obtain ⟨kP, hkP, -⟩ := className_of_methodNamed hnamed
  have hinitP : kP.init = .initialized := Cond.initialized_spec (findClass_of_methodNamed hnamed) hkP hinit
  obtain ⟨vm₁, X₁, hstep₁⟩ := X.invokestatic hexec hown hlink hnamed hmethM hstatic hkP hinitP hy (g := g) hg (argsL := argsL) (rest := rest) (hlen _ hsigM) hstack hdg
  rcases hK m meth c ⟨T.setVm vm₁, locs, cells, slots⟩ { g with stack := rest } (.invokestatic index) mk argsL.toArray X₁ hg hsize hdg hW (X₁.named hnamed) (hpre vm₁ X₁.warmed) with ⟨v, B, X', hpost, hsteps⟩ | ⟨q, B, X', hpost, hsteps⟩
  · exact Or.inl ⟨v, vm₁, B, X₁.warmed, X', hpost, fun target h => hstep₁ _ fun acts => by rw [doInvoke_state]; exact hsteps.trans h⟩
  · exact Or.inr ⟨q, vm₁, B, X₁.warmed, X', hpost, hstep₁ _ fun acts => by rw [doInvoke_state]; exact hsteps⟩
end Calls
theorem vx_cls {s : State} {T : State} {vm₁ : Vm} {E : String} {k : ClassId} (hW : s.WarmedH vm₁) (h : (T.setVm vm₁).vm.findClass E = some k) : s.vm.findClass E = some k := by
  have h1 : vm₁.findClass E = some k := h
  rw [hW.alike.findClass] at h1
  exact h1
/-- the method's frame g, with q thrown over it -/
def vx_W (p : Program) (l : Launch) (e : Env) (R : Room) (s : State) (m : MethodId) (args : Array Value) (below : List Frame) (meth : Method) (c : Code) (H : Heap) (locs : List Loc) (cells slots : Nat) (Q : State → Prop) (g : JFrame) (q : Addr) : Prop :=
  ∀ T : State, T.heap = H → Stand p l e R s m args below meth c T locs cells slots → ∃ t, Steps p.tables e below ((T.setTop g).pushFrame (.throwing q)) t ∧ Q t
def vx_Run (p : Program) (l : Launch) (e : Env) (R : Room) (s : State) (m : MethodId) (args : Array Value) (below : List Frame) (meth : Method) (c : Code) (H : Heap) (locs : List Loc) (cells slots mc ms : Nat) (g : JFrame) (rest : List Value) (Qa : State → Outcome → State → Prop) (XC : String → State → State → Prop) (free : Addr → Prop) : Prop :=
  ∀ T : State, T.heap = H → Stand p l e R s m args below meth c T locs cells slots →
    (∃ (v : Option Value) (st₀ t T' : State) (L : List Loc), st₀.heap = H ∧ Stand p l e R s m args below meth c T' (locs ++ L) (cells + mc) (slots + ms) ∧ (∀ q ∈ L, free q.base) ∧ T'.heap = t.heap ∧ T'.vm = t.vm ∧ Qa st₀ (.returned v) t ∧
      Goes p e below T g T' { g with pc := g.pc + 3, stack := v.toList ++ rest }) ∨
    (∃ (q : Addr) (st₀ t T' : State) (L : List Loc) (E : String) (ce : Cell), st₀.heap = H ∧ Stand p l e R s m args below meth c T' (locs ++ L) (cells + mc) (slots + ms) ∧ (∀ z ∈ L, free z.base) ∧ T'.heap = t.heap ∧ T'.vm = t.vm ∧ XC E st₀ t ∧ t.heap[q]? = some ce ∧ ce.vm = .none ∧ s.vm.findClass E = some ce.cls ∧
      Steps p.tables e below (T.setTop g) ((T'.setTop { g with stack := rest }).pushFrame (.throwing q)))
def vx_X {S : Type} (px : S → Prop) (B : String → S → State → Prop) (A : Nat → Prop) : String → State → State → Prop := fun E st t => ∃ u : S, px u ∧ B E u t ∧ va_F A st t
section Runs
variable {p : Program} {l : Launch} {e : Env} {R : Room} {s : State} {m : MethodId} {args : Array Value} {below : List Frame} {meth : Method} {c : Code} {H : Heap} {locs : List Loc} {cells slots : Nat}
variable {y : MethodName} {bytes cc : ByteArray} {maxL nL mc ms n index : Nat} {ret : Option FieldType} {ws : List Cond} {rm : Room} {Pc : Array Value → State → Prop} {Qc : Array Value → State → Outcome → State → Prop} {XC : String → State → State → Prop} {free : Addr → Prop} {Ts : List Cond} {own C : String} {b : Addr} {As rest : List Value} {g : JFrame}
theorem vx_callBack (cb : CallB R s args own index y bytes maxL ret ws rm mc ms n) (hM : vx_Met l y ws rm Pc Qc XC mc ms free) (hbl : FrameBlind Pc) : vx_Back l R p e below s args y 3 8 (PreOf R mc ms Pc) (PostOf Qc mc ms free) (vx_Post XC mc ms free) := by
  obtain ⟨hrc, hrs, hfr, hlo, hws, hcw, -, hini, -⟩ := cb
  exact vx_back (bytes := bytes) (maxL := maxL) (ret := ret) hM hbl hrc hrs hfr hlo hws hcw (fun a' U hW => word_at hW (Or.inl (by first | rfl | simp [Cond.onTables, Cond.keeps, Cond.steady])) hini)
theorem vx_runV (S : CallFix p m c cc nL s args Ts own) (hM : vx_Met l y ws rm Pc Qc XC mc ms free) (cw : CallW R s args own C index y bytes maxL ret ws rm mc ms n) (hp : PreV s H C b Pc As)
    (hg : g.method = m) (hn : As.length = n) (hsize : g.locals.size = nL) (hstack : g.stack = As.reverse ++ .ref b :: rest) (hW : 2 * g.monitorRoom + (rest.map fun v => v.category).sum ≤ 8) (hdg : decode cc g.pc = .ok (.invokevirtual index, 3)) (hf : cells + mc ≤ R.cells ∧ slots + ms ≤ R.slots) :
    vx_Run p l e R s m args below meth c H locs cells slots mc ms g rest (Qc (Value.ref b :: As).toArray) XC free := by
  have hK : vx_Back l R p e below s args y 3 8 (PreOf R mc ms Pc) (PostOf Qc mc ms free) (vx_Post XC mc ms free) := vx_callBack cw.1 hM hp.1
  obtain ⟨⟨-, -, -, -, -, -, hcode, -, hy, hlen, hl⟩, hin, hse⟩ := cw
  obtain ⟨hx, hb, hml, ho, -⟩ := S
  obtain ⟨-, ⟨cellB, hcB, hoB, hclB⟩, hPc⟩ := hp
  intro T hT X
  rcases vx_callV X hx (C := C) (bytes := bytes) (maxL := maxL) (ret := ret) ho hl hin hse hcode hy hK (by rw [hT]; exact hcB) hoB hclB hg (hsize.trans hml.symm) (argsL := As) (rest := rest) (fun sig h => hn.trans (hlen sig h)) hstack hW (by rw [hb]; exact hdg)
    (fun vm₁ hW₁ => ⟨hf.1, hf.2, hPc (T.setVm vm₁) hT hW₁⟩) with ⟨v, vm₁, ⟨U', l2, c2, s2⟩, hW₁, X', ⟨g', mk, t, L, e1, e2, hq, h1, hL, h2, h3⟩, st⟩ | ⟨q, vm₁, ⟨U', l2, c2, s2⟩, hW₁, X', ⟨g', mk, t, L, E, ce, e1, e2, hq, hce, hcv, hcl, h1, hL, h2, h3⟩, st⟩
  · dsimp only [Pt.U, Pt.locs, Pt.cells, Pt.slots] at X' e1 e2 h1 h2 h3 st
    subst h1; subst h2; subst h3
    exact Or.inl ⟨v, (T.setVm vm₁).calling g' mk (Value.ref b :: As).toArray, t, U', L, hT, X', hL, e1, e2, hq, st⟩
  · dsimp only [Pt.U, Pt.locs, Pt.cells, Pt.slots] at X' e1 e2 h1 h2 h3 st hcl
    subst h1; subst h2; subst h3
    exact Or.inr ⟨q, (T.setVm vm₁).calling g' mk (Value.ref b :: As).toArray, t, U', L, E, ce, hT, X', hL, e1, e2, hq, hce, hcv, vx_cls hW₁ hcl, st⟩
theorem vx_runS (S : CallFix p m c cc nL s args Ts own) (hM : vx_Met l y ws rm Pc Qc XC mc ms free) (cw : CallB R s args own index y bytes maxL ret ws rm mc ms n ∧ (Cond.static y).before args s = true) (hp : PreS s H Pc As)
    (hg : g.method = m) (hn : As.length = n) (hsize : g.locals.size = nL) (hstack : g.stack = As.reverse ++ rest) (hW : 2 * g.monitorRoom + (rest.map fun v => v.category).sum ≤ 8) (hdg : decode cc g.pc = .ok (.invokestatic index, 3)) (hf : cells + mc ≤ R.cells ∧ slots + ms ≤ R.slots) :
    vx_Run p l e R s m args below meth c H locs cells slots mc ms g rest (Qc As.toArray) XC free := by
  have hK : vx_Back l R p e below s args y 3 8 (PreOf R mc ms Pc) (PostOf Qc mc ms free) (vx_Post XC mc ms free) := vx_callBack cw.1 hM hp.1
  obtain ⟨⟨-, -, -, -, -, -, hcode, hini, hy, hlen, hl⟩, hstt⟩ := cw
  obtain ⟨hx, hb, hml, ho, -⟩ := S
  intro T hT X
  rcases vx_callS X hx (bytes := bytes) (maxL := maxL) (ret := ret) ho hl hstt hini hcode hy hK hg (hsize.trans hml.symm) (argsL := As) (rest := rest) (fun sig h => hn.trans (hlen sig h)) hstack hW (by rw [hb]; exact hdg)
    (fun vm₁ hW₁ => ⟨hf.1, hf.2, hp.2 (T.setVm vm₁) hT hW₁⟩) with ⟨v, vm₁, ⟨U', l2, c2, s2⟩, hW₁, X', ⟨g', mk, t, L, e1, e2, hq, h1, hL, h2, h3⟩, st⟩ | ⟨q, vm₁, ⟨U', l2, c2, s2⟩, hW₁, X', ⟨g', mk, t, L, E, ce, e1, e2, hq, hce, hcv, hcl, h1, hL, h2, h3⟩, st⟩
  · dsimp only [Pt.U, Pt.locs, Pt.cells, Pt.slots] at X' e1 e2 h1 h2 h3 st
    subst h1; subst h2; subst h3
    exact Or.inl ⟨v, (T.setVm vm₁).calling g' mk As.toArray, t, U', L, hT, X', hL, e1, e2, hq, st⟩
  · dsimp only [Pt.U, Pt.locs, Pt.cells, Pt.slots] at X' e1 e2 h1 h2 h3 st hcl
    subst h1; subst h2; subst h3
    exact Or.inr ⟨q, (T.setVm vm₁).calling g' mk As.toArray, t, U', L, E, ce, hT, X', hL, e1, e2, hq, hce, hcv, vx_cls hW₁ hcl, st⟩
end Runs
section Rows
variable {p : Program} {l : Launch} {e : Env} {R : Room} {s : State} {m : MethodId} {args : Array Value} {below : List Frame} {meth : Method} {c : Code} {H : Heap} {locs : List Loc} {cells slots : Nat} {Q : State → Prop}
variable {mc ms : Nat} {free : Addr → Prop} {A0 A1 : Nat → Prop} {H0 : Heap} {a : Array Value} {pc : Nat} {ls : Array Slot} {st0 rest : List Value}
theorem vx_keep {st₀ t T' : State} {L : List Loc} (h0 : st₀.heap = H) (e1 : T'.heap = t.heap) (hS : va_S A0 H0 H locs) (hA : ∀ q, q < H.size → A1 q → A0 q) (hf : ∀ q, free q → A0 q) (hL : ∀ q ∈ L, free q.base) (hF : va_F A1 st₀ t) :
    H.size ≤ T'.heap.size ∧ (∀ q : Nat, q < H.size → ¬ A1 q → T'.heap[q]? = H[q]?) ∧ va_S A0 H0 T'.heap (locs ++ L) := by
  obtain ⟨hz, hk⟩ := hF
  rw [h0] at hz hk
  exact ⟨by rw [e1]; exact hz, fun q h1 h2 => by rw [e1]; exact hk q h1 h2,
    ⟨Nat.le_trans hS.1 (by rw [e1]; exact hz), fun q h1 h2 => by rw [e1, hk q (Nat.lt_of_lt_of_le h1 hS.1) (fun z => h2 (hA q (Nat.lt_of_lt_of_le h1 hS.1) z))]; exact hS.2.1 q h1 h2, fun q hq => by
      rcases List.mem_append.mp hq with h | h
      · exact hS.2.2 q h
      · exact hf _ (hL q h)⟩⟩
theorem vx_calli {S SX : Type} {post : Int32 → S → Prop} {px : SX → Prop} {B : S → State → Prop} {BX : String → SX → State → Prop} {AX : Nat → Prop} (hr : vx_Run p l e R s m args below meth c H locs cells slots mc ms (F0 m pc ls st0) rest (va_Qi post B A1 a) (vx_X px BX AX) free) (hS : va_S A0 H0 H locs) (hA : ∀ q, q < H.size → A1 q → A0 q) (hf : ∀ q, free q → A0 q) (hAX : ∀ q, q < H.size → AX q → A0 q)
    (kx : ∀ (E : String) (ce : Cell) (q9 : Addr) (u : SX) (t : State) (H1 : Heap) (locs1 : List Loc), t.heap = H1 → s.vm.Alike t.vm → px u → BX E u t → H.size ≤ H1.size → (∀ q : Nat, q < H.size → ¬ AX q → H1[q]? = H[q]?) → va_S A0 H0 H1 locs1 → H1[q9]? = some ce → ce.vm = .none → s.vm.findClass E = some ce.cls → vx_W p l e R s m args below meth c H1 locs1 (cells + mc) (slots + ms) Q (F0 m pc ls rest) q9)
    (kk : ∀ (r : Int32) (u : S) (t : State) (H1 : Heap) (locs1 : List Loc), t.heap = H1 → s.vm.Alike t.vm → post r u → B u t → H.size ≤ H1.size → (∀ q : Nat, q < H.size → ¬ A1 q → H1[q]? = H[q]?) → va_S A0 H0 H1 locs1 → W p l e R s m args below meth c H1 locs1 (cells + mc) (slots + ms) Q (F0 m (pc + 3) ls (.int r :: rest))) : W p l e R s m args below meth c H locs cells slots Q (F0 m pc ls st0) := by
  intro T hT X
  rcases hr T hT X with ⟨v, st₀, t, T', L, h0, X', hL, e1, e2, ⟨⟨r, u, hv, hp, hb⟩, hF⟩, st⟩ | ⟨q, st₀, t, T', L, E, ce, h0, X', hL, e1, e2, ⟨u, hp, hb, hF⟩, hce, hcv, hcl, st⟩
  · cases hv
    obtain ⟨k1, k2, k3⟩ := vx_keep h0 e1 hS hA hf hL hF
    obtain ⟨t2, a1, b1⟩ := kk r u t T'.heap (locs ++ L) e1.symm (by rw [← e2]; exact X'.warmed.alike) hp hb k1 k2 k3 T' rfl X'
    exact ⟨t2, st t2 a1, b1⟩
  · obtain ⟨k1, k2, k3⟩ := vx_keep h0 e1 hS hAX hf hL hF
    obtain ⟨t2, a1, b1⟩ := kx E ce q u t T'.heap (locs ++ L) e1.symm (by rw [← e2]; exact X'.warmed.alike) hp hb k1 k2 k3 (by rw [e1]; exact hce) hcv hcl T' rfl X'
    exact ⟨t2, st.trans a1, b1⟩
theorem vx_calll {S SX : Type} {post : Int64 → S → Prop} {px : SX → Prop} {B : S → State → Prop} {BX : String → SX → State → Prop} {AX : Nat → Prop} (hr : vx_Run p l e R s m args below meth c H locs cells slots mc ms (F0 m pc ls st0) rest (va_Ql post B A1 a) (vx_X px BX AX) free) (hS : va_S A0 H0 H locs) (hA : ∀ q, q < H.size → A1 q → A0 q) (hf : ∀ q, free q → A0 q) (hAX : ∀ q, q < H.size → AX q → A0 q)
    (kx : ∀ (E : String) (ce : Cell) (q9 : Addr) (u : SX) (t : State) (H1 : Heap) (locs1 : List Loc), t.heap = H1 → s.vm.Alike t.vm → px u → BX E u t → H.size ≤ H1.size → (∀ q : Nat, q < H.size → ¬ AX q → H1[q]? = H[q]?) → va_S A0 H0 H1 locs1 → H1[q9]? = some ce → ce.vm = .none → s.vm.findClass E = some ce.cls → vx_W p l e R s m args below meth c H1 locs1 (cells + mc) (slots + ms) Q (F0 m pc ls rest) q9)
    (kk : ∀ (r : Int64) (u : S) (t : State) (H1 : Heap) (locs1 : List Loc), t.heap = H1 → s.vm.Alike t.vm → post r u → B u t → H.size ≤ H1.size → (∀ q : Nat, q < H.size → ¬ A1 q → H1[q]? = H[q]?) → va_S A0 H0 H1 locs1 → W p l e R s m args below meth c H1 locs1 (cells + mc) (slots + ms) Q (F0 m (pc + 3) ls (.long r :: rest))) : W p l e R s m args below meth c H locs cells slots Q (F0 m pc ls st0) := by
  intro T hT X
  rcases hr T hT X with ⟨v, st₀, t, T', L, h0, X', hL, e1, e2, ⟨⟨r, u, hv, hp, hb⟩, hF⟩, st⟩ | ⟨q, st₀, t, T', L, E, ce, h0, X', hL, e1, e2, ⟨u, hp, hb, hF⟩, hce, hcv, hcl, st⟩
  · cases hv
    obtain ⟨k1, k2, k3⟩ := vx_keep h0 e1 hS hA hf hL hF
    obtain ⟨t2, a1, b1⟩ := kk r u t T'.heap (locs ++ L) e1.symm (by rw [← e2]; exact X'.warmed.alike) hp hb k1 k2 k3 T' rfl X'
    exact ⟨t2, st t2 a1, b1⟩
  · obtain ⟨k1, k2, k3⟩ := vx_keep h0 e1 hS hAX hf hL hF
    obtain ⟨t2, a1, b1⟩ := kx E ce q u t T'.heap (locs ++ L) e1.symm (by rw [← e2]; exact X'.warmed.alike) hp hb k1 k2 k3 (by rw [e1]; exact hce) hcv hcl T' rfl X'
    exact ⟨t2, st.trans a1, b1⟩
theorem vx_callf {S SX : Type} {post : UInt32 → S → Prop} {px : SX → Prop} {B : S → State → Prop} {BX : String → SX → State → Prop} {AX : Nat → Prop} (hr : vx_Run p l e R s m args below meth c H locs cells slots mc ms (F0 m pc ls st0) rest (va_Qf post B A1 a) (vx_X px BX AX) free) (hS : va_S A0 H0 H locs) (hA : ∀ q, q < H.size → A1 q → A0 q) (hf : ∀ q, free q → A0 q) (hAX : ∀ q, q < H.size → AX q → A0 q)
    (kx : ∀ (E : String) (ce : Cell) (q9 : Addr) (u : SX) (t : State) (H1 : Heap) (locs1 : List Loc), t.heap = H1 → s.vm.Alike t.vm → px u → BX E u t → H.size ≤ H1.size → (∀ q : Nat, q < H.size → ¬ AX q → H1[q]? = H[q]?) → va_S A0 H0 H1 locs1 → H1[q9]? = some ce → ce.vm = .none → s.vm.findClass E = some ce.cls → vx_W p l e R s m args below meth c H1 locs1 (cells + mc) (slots + ms) Q (F0 m pc ls rest) q9)
    (kk : ∀ (r : UInt32) (u : S) (t : State) (H1 : Heap) (locs1 : List Loc), t.heap = H1 → s.vm.Alike t.vm → post r u → B u t → H.size ≤ H1.size → (∀ q : Nat, q < H.size → ¬ A1 q → H1[q]? = H[q]?) → va_S A0 H0 H1 locs1 → W p l e R s m args below meth c H1 locs1 (cells + mc) (slots + ms) Q (F0 m (pc + 3) ls (.float r :: rest))) : W p l e R s m args below meth c H locs cells slots Q (F0 m pc ls st0) := by
  intro T hT X
  rcases hr T hT X with ⟨v, st₀, t, T', L, h0, X', hL, e1, e2, ⟨⟨r, u, hv, hp, hb⟩, hF⟩, st⟩ | ⟨q, st₀, t, T', L, E, ce, h0, X', hL, e1, e2, ⟨u, hp, hb, hF⟩, hce, hcv, hcl, st⟩
  · cases hv
    obtain ⟨k1, k2, k3⟩ := vx_keep h0 e1 hS hA hf hL hF
    obtain ⟨t2, a1, b1⟩ := kk r u t T'.heap (locs ++ L) e1.symm (by rw [← e2]; exact X'.warmed.alike) hp hb k1 k2 k3 T' rfl X'
    exact ⟨t2, st t2 a1, b1⟩
  · obtain ⟨k1, k2, k3⟩ := vx_keep h0 e1 hS hAX hf hL hF
    obtain ⟨t2, a1, b1⟩ := kx E ce q u t T'.heap (locs ++ L) e1.symm (by rw [← e2]; exact X'.warmed.alike) hp hb k1 k2 k3 (by rw [e1]; exact hce) hcv hcl T' rfl X'
    exact ⟨t2, st.trans a1, b1⟩
theorem vx_calld {S SX : Type} {post : UInt64 → S → Prop} {px : SX → Prop} {B : S → State → Prop} {BX : String → SX → State → Prop} {AX : Nat → Prop} (hr : vx_Run p l e R s m args below meth c H locs cells slots mc ms (F0 m pc ls st0) rest (va_Qd post B A1 a) (vx_X px BX AX) free) (hS : va_S A0 H0 H locs) (hA : ∀ q, q < H.size → A1 q → A0 q) (hf : ∀ q, free q → A0 q) (hAX : ∀ q, q < H.size → AX q → A0 q)
    (kx : ∀ (E : String) (ce : Cell) (q9 : Addr) (u : SX) (t : State) (H1 : Heap) (locs1 : List Loc), t.heap = H1 → s.vm.Alike t.vm → px u → BX E u t → H.size ≤ H1.size → (∀ q : Nat, q < H.size → ¬ AX q → H1[q]? = H[q]?) → va_S A0 H0 H1 locs1 → H1[q9]? = some ce → ce.vm = .none → s.vm.findClass E = some ce.cls → vx_W p l e R s m args below meth c H1 locs1 (cells + mc) (slots + ms) Q (F0 m pc ls rest) q9)
    (kk : ∀ (r : UInt64) (u : S) (t : State) (H1 : Heap) (locs1 : List Loc), t.heap = H1 → s.vm.Alike t.vm → post r u → B u t → H.size ≤ H1.size → (∀ q : Nat, q < H.size → ¬ A1 q → H1[q]? = H[q]?) → va_S A0 H0 H1 locs1 → W p l e R s m args below meth c H1 locs1 (cells + mc) (slots + ms) Q (F0 m (pc + 3) ls (.double r :: rest))) : W p l e R s m args below meth c H locs cells slots Q (F0 m pc ls st0) := by
  intro T hT X
  rcases hr T hT X with ⟨v, st₀, t, T', L, h0, X', hL, e1, e2, ⟨⟨r, u, hv, hp, hb⟩, hF⟩, st⟩ | ⟨q, st₀, t, T', L, E, ce, h0, X', hL, e1, e2, ⟨u, hp, hb, hF⟩, hce, hcv, hcl, st⟩
  · cases hv
    obtain ⟨k1, k2, k3⟩ := vx_keep h0 e1 hS hA hf hL hF
    obtain ⟨t2, a1, b1⟩ := kk r u t T'.heap (locs ++ L) e1.symm (by rw [← e2]; exact X'.warmed.alike) hp hb k1 k2 k3 T' rfl X'
    exact ⟨t2, st t2 a1, b1⟩
  · obtain ⟨k1, k2, k3⟩ := vx_keep h0 e1 hS hAX hf hL hF
    obtain ⟨t2, a1, b1⟩ := kx E ce q u t T'.heap (locs ++ L) e1.symm (by rw [← e2]; exact X'.warmed.alike) hp hb k1 k2 k3 (by rw [e1]; exact hce) hcv hcl T' rfl X'
    exact ⟨t2, st.trans a1, b1⟩
theorem vx_callv {S SX : Type} {post : S → Prop} {px : SX → Prop} {B : S → State → Prop} {BX : String → SX → State → Prop} {AX : Nat → Prop} (hr : vx_Run p l e R s m args below meth c H locs cells slots mc ms (F0 m pc ls st0) rest (va_Qv post B A1 a) (vx_X px BX AX) free) (hS : va_S A0 H0 H locs) (hA : ∀ q, q < H.size → A1 q → A0 q) (hf : ∀ q, free q → A0 q) (hAX : ∀ q, q < H.size → AX q → A0 q)
    (kx : ∀ (E : String) (ce : Cell) (q9 : Addr) (u : SX) (t : State) (H1 : Heap) (locs1 : List Loc), t.heap = H1 → s.vm.Alike t.vm → px u → BX E u t → H.size ≤ H1.size → (∀ q : Nat, q < H.size → ¬ AX q → H1[q]? = H[q]?) → va_S A0 H0 H1 locs1 → H1[q9]? = some ce → ce.vm = .none → s.vm.findClass E = some ce.cls → vx_W p l e R s m args below meth c H1 locs1 (cells + mc) (slots + ms) Q (F0 m pc ls rest) q9)
    (kk : ∀ (u : S) (t : State) (H1 : Heap) (locs1 : List Loc), t.heap = H1 → s.vm.Alike t.vm → post u → B u t → H.size ≤ H1.size → (∀ q : Nat, q < H.size → ¬ A1 q → H1[q]? = H[q]?) → va_S A0 H0 H1 locs1 → W p l e R s m args below meth c H1 locs1 (cells + mc) (slots + ms) Q (F0 m (pc + 3) ls (rest))) : W p l e R s m args below meth c H locs cells slots Q (F0 m pc ls st0) := by
  intro T hT X
  rcases hr T hT X with ⟨v, st₀, t, T', L, h0, X', hL, e1, e2, ⟨⟨u, hv, hp, hb⟩, hF⟩, st⟩ | ⟨q, st₀, t, T', L, E, ce, h0, X', hL, e1, e2, ⟨u, hp, hb, hF⟩, hce, hcv, hcl, st⟩
  · cases hv
    obtain ⟨k1, k2, k3⟩ := vx_keep h0 e1 hS hA hf hL hF
    obtain ⟨t2, a1, b1⟩ := kk u t T'.heap (locs ++ L) e1.symm (by rw [← e2]; exact X'.warmed.alike) hp hb k1 k2 k3 T' rfl X'
    exact ⟨t2, st t2 a1, b1⟩
  · obtain ⟨k1, k2, k3⟩ := vx_keep h0 e1 hS hAX hf hL hF
    obtain ⟨t2, a1, b1⟩ := kx E ce q u t T'.heap (locs ++ L) e1.symm (by rw [← e2]; exact X'.warmed.alike) hp hb k1 k2 k3 (by rw [e1]; exact hce) hcv hcl T' rfl X'
    exact ⟨t2, st.trans a1, b1⟩
/-- caught by the row x of this method's table; the rows ahead don't take it -/
theorem vx_catch {own name : String} {E : String} {ce : Cell} {q : Addr} (hown : s.vm.findClass own = some m.cls) (pre : List ExceptionTableEntry) (x : ExceptionTableEntry) (suf : List ExceptionTableEntry) (hsplit : c.exceptionTable.toList = pre ++ x :: suf)
    (hpass : ∀ z ∈ pre, covers z pc = false ∨ (z.catchType ≠ 0 ∧ ∃ nm : String, (Cond.classLink own z.catchType nm).before args s = true ∧ va_Nc E nm s)) (hx : covers x pc = true) (h0 : x.catchType ≠ 0)
    (hlink : (Cond.classLink own x.catchType name).before args s = true) (hcast : (Cond.castable E name).before args s = true) (hcell : H[q]? = some ce) (hv : ce.vm = .none) (hcl : s.vm.findClass E = some ce.cls)
    (kk : W p l e R s m args below meth c H locs cells slots Q (F0 m x.handlerPc ls [.ref q])) : vx_W p l e R s m args below meth c H locs cells slots Q (F0 m pc ls rest) q := by
  intro T hT X
  have hpl : e.platform.magicAccessors = ({} : Platform).magicAccessors := by rw [X.admits.platform]
  obtain ⟨c3, c4, hc3, hc4, hasg⟩ := Cond.castable_spec hcast
  cases Option.some.inj (hc3.symm.trans hcl)
  obtain ⟨c5, hc5, hcl5⟩ := Cond.classLink_spec hown hlink e.platform hpl
  cases Option.some.inj (hc4.symm.trans hc5)
  obtain ⟨vm', X', st⟩ := X.thenCaughtThrough q (g := F0 m pc ls rest) rfl (Steps.refl _) (by rw [hT]; exact hcell) (by rw [hv]; rfl) (by obtain ⟨k9, h9, -⟩ := Vm.findClass_spec hcl; exact ⟨k9, h9⟩) pre x suf hsplit
    (fun z hz => by
      rcases hpass z hz with h | ⟨hz0, nm, hl1, hn1⟩
      · exact Or.inl h
      · obtain ⟨c6, hc6, hcl6⟩ := Cond.classLink_spec hown hl1 e.platform hpl
        obtain ⟨a8, b8, h1, h2, h3⟩ := hn1
        cases Option.some.inj (h1.symm.trans hcl)
        cases Option.some.inj (h2.symm.trans hc6)
        exact Or.inr ⟨hz0, _, hcl6, h3⟩) hx (Or.inr ⟨h0, c4, hcl5, hasg⟩)
  obtain ⟨t, a1, b1⟩ := kk (T.setVm vm') hT X'
  exact ⟨t, st.trans a1, b1⟩
end Rows
section Ends
variable {p : Program} {l : Launch} {e : Env} {R : Room} {s : State} {m : MethodId} {args : Array Value} {below : List Frame} {meth : Method} {c : Code} {H : Heap} {locs : List Loc} {cells slots : Nat} {Q : State → Prop}
variable {mc ms : Nat} {free : Addr → Prop} {A0 A1 : Nat → Prop} {H0 : Heap} {a : Array Value} {ls : Array Slot} {st0 rest : List Value}
variable {Qc : Array Value → State → Outcome → State → Prop} {XC : String → State → State → Prop}
/-- what a body that may throw owes at its end -/
def vx_MQ (below : List Frame) (Qc : Array Value → State → Outcome → State → Prop) (XC : String → State → State → Prop) (a : Array Value) (s : State) (mc ms : Nat) (free : Addr → Prop) : State → Prop := fun t =>
  ∃ o, t.status = .running ∧ Ended t below o ∧ vx_Q Qc XC mc ms free a s o t
theorem vx_ret {g : JFrame} {mc ms : Nat} (k : W p l e R s m args below meth c H locs cells slots (MQ below Qc args s mc ms free) g) : W p l e R s m args below meth c H locs cells slots (vx_MQ below Qc XC args s mc ms free) g := by
  intro T hT X
  obtain ⟨t, a1, o, b1, b2, b3, b4⟩ := k T hT X
  exact ⟨t, a1, o, b1, b2, Or.inl ⟨b3, b4⟩⟩
/-- not caught here: it goes on to the caller -/
theorem vx_widen {g : JFrame} {q : Addr} {k n : Nat} (h1 : cells ≤ k) (h2 : slots ≤ n) (kk : vx_W p l e R s m args below meth c H locs k n Q g q) : vx_W p l e R s m args below meth c H locs cells slots Q g q := fun T hT X => kk T hT (stand_widen X h1 h2)
theorem vx_out {pc : Nat} {E : String} {ce : Cell} {q : Addr} {mc ms : Nat} (hout : ∀ x ∈ c.exceptionTable.toList, covers x pc = false) (hlocks : meth.locks = false) (hcell : H[q]? = some ce) (hv : ce.vm = .none) (hcl : s.vm.findClass E = some ce.cls)
    (hx : ∀ t : State, t.heap = H → s.vm.Alike t.vm → XC E s t) (hf : ∀ z ∈ locs, free z.base) (hc : cells ≤ mc) (hs : slots ≤ ms) :
    vx_W p l e R s m args below meth c H locs cells slots (vx_MQ below Qc XC args s mc ms free) (F0 m pc ls rest) q := by
  intro T hT X
  obtain ⟨st1, hrun, hend, hW, hsm⟩ := X.leaveThrown q (g := F0 m pc ls rest) rfl rfl rfl hout hlocks
  have hcell9 : (T.setFrames (.throwing q :: below)).heap[q]? = some ce := by
    show T.heap[q]? = some ce
    rw [hT]; exact hcell
  exact ⟨_, st1, .threw q, hrun, hend, Or.inr ⟨q, rfl, E, ce, locs, hx _ hT hW.alike, hcell9, hv, hcl, hW, hsm.mono hc hs, hf⟩⟩
theorem vx_frame {U : State} {k n : Nat} (h : s.sameButNew ({ U with vm := s.vm } : State) locs k n) : s.heap.size ≤ U.heap.size ∧ ∀ q : Nat, q < s.heap.size → (∀ z ∈ locs, z.base ≠ q) → U.heap[q]? = s.heap[q]? := by
  obtain ⟨-, h2, -, -, -, h6⟩ := h
  refine ⟨h2, fun q hq hz => ?_⟩
  obtain ⟨c9, e1, e2, e3, e4⟩ := h6 q _ (Array.getElem?_eq_getElem hq)
  have hs : c9.slots = (s.heap[q]).slots := Array.ext_getElem? fun i => e4 i fun hm => hz _ hm rfl
  have h9 : c9 = s.heap[q] := by
    rw [hs] at e2
    exact e2
  have e5 : U.heap[q]? = some c9 := e1
  rw [e5, h9, Array.getElem?_eq_getElem hq]
/-- the words of a throw but the four that speak of the heap -/
def vx_no (w : Cond) : Bool := decide (w ≠ .isRef (.static Bundle.tN "UNASSIGNED_STACK" Bundle.steD)) && decide (w ≠ .isRef (.static Bundle.tN "SUPPRESSED_SENTINEL" Bundle.listD)) && decide (w ≠ .laysStatic Bundle.tN "UNASSIGNED_STACK" Bundle.steD) && decide (w ≠ .laysStatic Bundle.tN "SUPPRESSED_SENTINEL" Bundle.listD)
def vx_at0 (own : String) (ic : Nat) (X : String) (names : List String) : List Cond := (Bundle.ownAtoms0 own ic X names).filter vx_no
def vx_atS (own : String) (ic : Nat) (X : String) (names : List String) : List Cond := (Bundle.ownAtoms own ic X names).filter vx_no
/-- a word that the tables alone decide, or a good one -/
def vx_ot (w : Cond) : Bool := w.onTables || goodWord w
theorem vx_ot_at {args a' : Array Value} {s U : State} {w : Cond} (hW : s.WarmedH U.vm) (hvm : s.vm = U.vm) (hg : vx_ot w = true) (h : w.before args s = true) : w.before a' U = true := by
  simp only [vx_ot, Bool.or_eq_true] at hg
  rcases hg with hg | hg
  · exact va_tabs hg hvm h
  · exact word_at hW (good_of_word hg) h
/-- a list's words: the good ones out of the method's own list, the others by premises of their own -/
theorem vx_hat {args : Array Value} {s : State} {L B : List Cond} (h1 : ∀ w ∈ L.filter goodWord, w.before args s = true) (h2 : ∀ w ∈ L.filter (fun w => !goodWord w), w ∈ B) (h3 : ∀ w ∈ B, w.before args s = true) : ∀ w ∈ L, w.before args s = true := by
  intro w hw
  by_cases g : goodWord w = true
  · exact h1 w (List.mem_filter.mpr ⟨hw, g⟩)
  · refine h3 w (h2 w (List.mem_filter.mpr ⟨hw, ?_⟩))
    show (!goodWord w) = true
    cases hgw : goodWord w
    · rfl
    · exact absurd hgw g
theorem vx_c {args : Array Value} {s : State} {w : Cond} {B : List Cond} (h : w.before args s = true) (t : ∀ w ∈ B, w.before args s = true) : ∀ w' ∈ w :: B, w'.before args s = true := fun w' h' => (List.mem_cons.mp h').elim (fun e => by rw [e]; exact h) (t w')
theorem vx_n {args : Array Value} {s : State} : ∀ w ∈ ([] : List Cond), w.before args s = true := fun _ h => nomatch h
theorem vx_own {args : Array Value} {s : State} {L : List Cond} (h1 : ∀ w ∈ L.filter vx_no, w.before args s = true)
    (hU : (Cond.isRef (.static Bundle.tN "UNASSIGNED_STACK" Bundle.steD)).before args s = true) (hN : (Cond.isRef (.static Bundle.tN "SUPPRESSED_SENTINEL" Bundle.listD)).before args s = true)
    (lU : (Cond.laysStatic Bundle.tN "UNASSIGNED_STACK" Bundle.steD).before args s = true) (lN : (Cond.laysStatic Bundle.tN "SUPPRESSED_SENTINEL" Bundle.listD).before args s = true) : ∀ w ∈ L, w.before args s = true := by
  intro w hw
  by_cases e1 : w = .isRef (.static Bundle.tN "UNASSIGNED_STACK" Bundle.steD)
  · rw [e1]; exact hU
  · by_cases e2 : w = .isRef (.static Bundle.tN "SUPPRESSED_SENTINEL" Bundle.listD)
    · rw [e2]; exact hN
    · by_cases e3 : w = .laysStatic Bundle.tN "UNASSIGNED_STACK" Bundle.steD
      · rw [e3]; exact lU
      · by_cases e4 : w = .laysStatic Bundle.tN "SUPPRESSED_SENTINEL" Bundle.listD
        · rw [e4]; exact lN
        · exact h1 w (List.mem_filter.mpr ⟨hw, by unfold vx_no; rw [decide_eq_true e1, decide_eq_true e2, decide_eq_true e3, decide_eq_true e4]; rfl⟩)
/-- where a static field lies, its class's statics cell in H -/
def vx_L (C n d : String) (A : Nat → Prop) (U : State) (H : Heap) : Prop := ∃ (c : ClassId) (k : Class) (i : Nat) (f : Field) (a : Nat) (cell : Cell), U.vm.findClass C = some c ∧ U.fieldFound? C n d = some (c, k, i, f) ∧ f.isStatic = true ∧ k.statics = some a ∧ H[a]? = some cell ∧ cell.vm.isStatics = true ∧ cell.cls = c ∧ f.slot < cell.slots.size ∧ k.staticTypes[f.slot]? = some f.type ∧ ¬ A a
theorem vx_L.moved {C n d : String} {A : Nat → Prop} {u U : State} {H : Heap} (hvm : u.vm.Alike U.vm) (h : vx_L C n d A u H) : vx_L C n d A U H := by
  obtain ⟨c, k, i, f, a, cell, h1, h2, h3, h4, h5, h6, h7, h8, h9, h10⟩ := h
  obtain ⟨k', hi', he⟩ := State.fieldFound?_setVm hvm h2
  exact ⟨c, k', i, f, a, cell, by rw [hvm.findClass]; exact h1, hi', h3, by rw [he]; exact h4, h5, h6, h7, h8, by rw [he]; exact h9, h10⟩
theorem vx_L.kept {C n d : String} {A : Nat → Prop} {U : State} {H H1 : Heap} (h : vx_L C n d A U H) (hq : ∀ a : Nat, a < H.size → ¬ A a → H1[a]? = H[a]?) : vx_L C n d A U H1 := by
  obtain ⟨c, k, i, f, a, cell, h1, h2, h3, h4, h5, h6, h7, h8, h9, h10⟩ := h
  exact ⟨c, k, i, f, a, cell, h1, h2, h3, h4, by rw [hq a (Array.getElem?_eq_some_iff.mp h5).1 h10]; exact h5, h6, h7, h8, h9, h10⟩
theorem vx_L.narrow {C n d : String} {A B : Nat → Prop} {U : State} {H : Heap} (h : vx_L C n d A U H) (hAB : ∀ q, B q → A q) : vx_L C n d B U H := by
  obtain ⟨c, k, i, f, a, cell, h1, h2, h3, h4, h5, h6, h7, h8, h9, h10⟩ := h
  exact ⟨c, k, i, f, a, cell, h1, h2, h3, h4, h5, h6, h7, h8, h9, fun z => h10 (hAB _ z)⟩
theorem vx_L.word {C n d : String} {A : Nat → Prop} {s : State} {args : Array Value} (h : vx_L C n d A s s.heap) : (Cond.laysStatic C n d).before args s = true := by
  obtain ⟨c, k, i, f, a, cell, h1, h2, h3, h4, h5, h6, h7, h8, h9, -⟩ := h
  show (Cond.laysStatic C n d).holds args s none s [] = true
  exact Cond.laysStatic_of h1 h2 h3 h4 h5 h6 h7 h8 h9
/-- .. and what it holds: null or some reference -/
def vx_Zq (C n d : String) (A : Nat → Prop) (U : State) (H : Heap) : Prop := va_Zq C n d A U H ∧ vx_L C n d A U H
theorem vx_Zq.moved {C n d : String} {A : Nat → Prop} {u U : State} {H : Heap} (hvm : u.vm.Alike U.vm) (h : vx_Zq C n d A u H) : vx_Zq C n d A U H := ⟨va_Zq.moved hvm h.1, vx_L.moved hvm h.2⟩
theorem vx_Zq.kept {C n d : String} {A : Nat → Prop} {U : State} {H H1 : Heap} (h : vx_Zq C n d A U H) (hq : ∀ a : Nat, a < H.size → ¬ A a → H1[a]? = H[a]?) : vx_Zq C n d A U H1 := ⟨va_Zq.kept h.1 hq, vx_L.kept h.2 hq⟩
theorem vx_Zq.narrow {C n d : String} {A B : Nat → Prop} {U : State} {H : Heap} (h : vx_Zq C n d A U H) (hAB : ∀ q, B q → A q) : vx_Zq C n d B U H := ⟨va_Zq.narrow h.1 hAB, vx_L.narrow h.2 hAB⟩
theorem vx_Zqof {args : Array Value} {s : State} {C n d : String} {A : Nat → Prop} (hl : (Cond.laysStatic C n d).before args s = true) (hini : (Cond.initialized C).before args s = true) (h : (Cond.isRef (.static C n d)).before args s = true) (hA : ∀ a : Nat, a < s.heap.size → ¬ A a) : vx_Zq C n d A s s.heap := by
  refine ⟨va_Zqof hl hini h hA, ?_⟩
  obtain ⟨c, k, i, f, a, cell, h1, h2, h3, h4, h5, h6, h7, h8, h9⟩ := Cond.laysStatic_spec hl
  exact ⟨c, k, i, f, a, cell, h1, h2, h3, h4, h5, h6, h7, h8, h9, hA a (Array.getElem?_eq_some_iff.mp h5).1⟩
theorem vx_isRef {C n d : String} {v : Value} {A : Nat → Prop} {s : State} {args : Array Value} (h : va_Z C n d v A s s.heap) (hv : v.isRef = true) : (Cond.isRef (.static C n d)).before args s = true := by
  obtain ⟨cf, kf, fi, f, a, cell, h1, h2, h3, h4, h5, h6, h7, -⟩ := h
  have he : (Term.static C n d).eval args s none [] s = some v := by
    simp [Term.eval, State.fieldNamed?, h1, h2, h4, h5, h6, h7]
  simp only [Cond.before, Cond.holds, Cond.value, he]
  cases v <;> simp_all [Value.isRef]
theorem vx_isRefq {C n d : String} {A : Nat → Prop} {s : State} {args : Array Value} (h : va_Zq C n d A s s.heap) : (Cond.isRef (.static C n d)).before args s = true := by
  rcases h with h | ⟨t, h⟩
  · exact vx_isRef h rfl
  · exact vx_isRef h rfl
/-- the same frame, seen from here: as if the method were called anew in this heap -/
theorem vx_rebase {T : State} (X : Stand p l e R s m args below meth c T locs cells slots) {R' : Room} (hf : R'.frames ≤ R.frames) (hl : R'.locals ≤ R.locals) (hc : cells + R'.cells ≤ R.cells) (hs : slots + R'.slots ≤ R.slots) :
    Stand p l e R' ((T.setVm s.vm).setFrames (.invoking m args :: below)) m args below meth c T [] 0 0 := by
  have htop : (T.setVm s.vm).topJava?.isSome := X.here.top
  have hF : ((T.setVm s.vm).setFrames (.invoking m args :: below)).frames = .invoking m args :: below := State.frames_setFrames _ (State.cur_lt_of_top htop)
  obtain ⟨g₀, hg0⟩ := Option.isSome_iff_exists.mp htop
  obtain ⟨r, hr⟩ := State.topJava?_eq_some.mp hg0
  have hl9 : e.platform.stackLimits (T.setVm s.vm).me = e.platform.stackLimits s.me := X.limits
  have hb9 : (T.setVm s.vm).me.stackBytes = s.me.stackBytes := X.bytes
  refine ⟨X.admits, X.cas, X.clock, hF, ?_, X.hears, X.method, X.code, X.here, X.tail, X.warmed, ?_, ?_, ?_⟩
  · have h := X.room
    have hU : ((T.setVm s.vm).setFrames (.invoking m args :: below)).localsInUse = s.localsInUse := by
      rw [State.localsInUse_invoking hF (meth := meth) (c := c) X.method X.code, State.localsInUse_invoking X.frames X.method X.code]
    simp only [State.hasRoom, Bool.and_eq_true, decide_eq_true_eq] at h ⊢
    obtain ⟨⟨⟨⟨h1, h2, h3, h4, h5, h6⟩, h7⟩, h8⟩, h9⟩ := h
    rw [X.frames, List.length_cons] at h2 h3
    have q1 := X.heapSize
    have q2 := X.used
    simp only [hF, hU, List.length_cons, State.stackLimits_setFrames, State.stackBytes_setFrames, hl9, hb9]
    refine ⟨⟨⟨⟨by omega, by omega, by omega, by omega, by omega, h6⟩, ?_⟩, ?_⟩, X.book⟩
    · show T.heap.size + R'.cells ≤ e.platform.maxCells
      omega
    · show T.slotsUsed + R'.slots ≤ e.platform.maxSlots
      omega
  · rw [State.stackLimits_setFrames]; rfl
  · rw [State.stackBytes_setFrames]; rfl
  · refine ⟨?_, Nat.le_refl _, Nat.le_refl _, ?_, ?_, fun a c9 h9 => ⟨c9, h9, rfl, rfl, fun _ _ => rfl⟩⟩
    · obtain ⟨t, ht, -⟩ := State.frames_cons hr
      show T.setVm s.vm = { ((T.setVm s.vm).setFrames (.invoking m args :: below)).setFrames (T.setVm s.vm).frames with heap := T.heap, slotsUsed := T.slotsUsed }
      rw [State.setFrames_setFrames, State.setFrames_self ht]
      rfl
    · show T.slotsUsed = T.slotsUsed + ((T.heap.toList.drop T.heap.size).map (·.slots.size)).sum
      rw [List.drop_eq_nil_of_le (Nat.le_of_eq Array.length_toList)]
      rfl
    · show ((T.heap.toList.drop T.heap.size).map (·.slots.size)).sum ≤ 0
      rw [List.drop_eq_nil_of_le (Nat.le_of_eq Array.length_toList)]
      exact Nat.le_refl _
/-- 'throw new E()': new; dup; invokespecial; athrow -/
theorem vx_throw0 {cc : ByteArray} {pc : Nat} (hexec : p.tables.exec = Jvm.exec) (hb : c.code = cc) (hl : l.stackTraces = false) {own cls : String} {names : List String} {ik ic mc ms : Nat} {A : Nat → Prop}
    (hown : s.vm.findClass own = some m.cls) (hcls : Bundle.fit cls = true) (hnames : ∀ n ∈ names, Bundle.fit n = true)
    (hk : (Cond.classLink own ik cls).before args s = true) (hini : (Cond.initialized cls).before args s = true) (hat : ∀ w ∈ vx_at0 own ic cls names, w.before args s = true)
    (hgood : ∀ w ∈ Cond.classLink own ik cls :: Cond.initialized cls :: vx_at0 own ic cls names, vx_ot w = true)
    (hU : vx_Zq Bundle.tN "UNASSIGNED_STACK" Bundle.steD A s s.heap) (hN : vx_Zq Bundle.tN "SUPPRESSED_SENTINEL" Bundle.listD A s s.heap) (hS : va_S A s.heap H locs) (hsize : ls.size = c.maxLocals)
    (d0 : decode cc pc = .ok (.new ik, 3)) (d3 : decode cc (pc + 3) = .ok (.dup, 1)) (d4 : decode cc (pc + 4) = .ok (.invokespecial ic, 3)) (d7 : decode cc (pc + 7) = .ok (.athrow, 1))
    (hout : ∀ x ∈ c.exceptionTable.toList, covers x (pc + 7) = false)
    (hRframes : names.length + 3 < R.frames) (hRlocals : (rest.map fun v => v.category).sum + (13 * (names.length + 1) + 42) ≤ R.locals) (hRcells : cells + 1 ≤ R.cells) (hRslots : slots + 6 ≤ R.slots) (hlocks : meth.locks = false)
    (hx : ∀ t : State, s.vm.Alike t.vm → H.size ≤ t.heap.size → (∀ q : Nat, q < H.size → t.heap[q]? = H[q]?) → XC cls s t)
    (hf : ∀ z ∈ locs, free z.base) (hc : cells + 1 ≤ mc) (hs : slots + 6 ≤ ms) :
    W p l e R s m args below meth c H locs cells slots (vx_MQ below Qc XC args s mc ms free) (F0 m pc ls rest) := by
  intro T hT X
  have htr : e.platform.stackTraces = false := (show e.platform.stackTraces = l.stackTraces by rw [X.admits.platform]).trans hl
  have Y := vx_rebase X (R' := { frames := R.frames, locals := R.locals, cells := 1, slots := 6 }) (Nat.le_refl _) (Nat.le_refl _) hRcells hRslots
  obtain ⟨s', hA⟩ : ∃ z, z = (T.setVm s.vm).setFrames (.invoking m args :: below) := ⟨_, rfl⟩
  rw [← hA] at Y
  have hvm : s'.vm = s.vm := by rw [hA]; rfl
  have hhp : s'.heap = H := by rw [hA]; exact hT
  have hW0 : s.WarmedH s'.vm := by rw [hvm]; exact State.WarmedH.refl s
  have hat' : ∀ w ∈ vx_at0 own ic cls names, w.before args s' = true := fun w hw => vx_ot_at hW0 hvm.symm (hgood w (List.mem_cons_of_mem _ (List.mem_cons_of_mem _ hw))) (hat w hw)
  have hk' : (Cond.classLink own ik cls).before args s' = true := vx_ot_at hW0 hvm.symm (hgood _ List.mem_cons_self) hk
  have hini' : (Cond.initialized cls).before args s' = true := vx_ot_at hW0 hvm.symm (hgood _ (List.mem_cons_of_mem _ List.mem_cons_self)) hini
  have hU' : vx_Zq Bundle.tN "UNASSIGNED_STACK" Bundle.steD A s' s'.heap := by rw [hhp]; exact vx_Zq.moved hW0.alike (hU.kept hS.2.1)
  have hN' : vx_Zq Bundle.tN "SUPPRESSED_SENTINEL" Bundle.listD A s' s'.heap := by rw [hhp]; exact vx_Zq.moved hW0.alike (hN.kept hS.2.1)
  have h : ∀ w ∈ Bundle.ownAtoms0 own ic cls names, w.before args s' = true := vx_own hat' (vx_isRefq hU'.1) (vx_isRefq hN'.1) hU'.2.word hN'.2.word
  have hown' : s'.vm.findClass own = some m.cls := by rw [hvm]; exact hown
  have hins : (Cond.instantiable cls 6).before args s' = true := h _ (by simp [Bundle.ownAtoms0])
  obtain ⟨vm₁, cX, kX, hfX, hkX, -, -, X₁, st1⟩ := Y.newCold hexec (own := own) (C := cls) (index := ik) (n := 6) hown' hk' hins hini'
    (g := F0 m pc ls rest) rfl (by rw [hb]; exact d0) (Nat.le_refl _) (Nat.le_refl _)
  generalize hT1 : (T.setVm vm₁).pushCell { cls := cX, slots := kX.instanceTypes.map defaultValue, vm := .none } = T1 at X₁ st1
  have hcat : (Value.ref T.heap.size).category = 1 := rfl
  have hcellA : T1.heap[T.heap.size]? = some (freshCell cX kX) := by rw [← hT1]; exact State.heap_pushCell_size _ _
  have d3' : decode c.code (pc + 3) = .ok (.dup, 1) := by rw [hb]; exact d3
  obtain ⟨U, hsteps, hrun, hend, hW, hsame, ce, hce, hO⟩ := X₁.ctorThrow0 hexec htr (own := own) (cls := cls) (names := names) (ic := ic) hown' hcls hnames h (fun x hx => nomatch hx) hfX hkX hcellA (by rw [hhp, hT]; exact Nat.le_refl _)
    (g := { method := m, pc := pc + 4, locals := ls, stack := .ref T.heap.size :: .ref T.heap.size :: rest, locked := none }) rfl hsize rfl rfl (rest := rest) rfl
    (by rw [hb]; exact d4) (by rw [hb]; exact d7) hout hRframes (by simp only [List.map_cons, List.sum_cons, hcat]; omega) hlocks
  obtain ⟨f1, f2⟩ := vx_frame hsame
  rw [hhp] at f1 f2
  have hWs : s.WarmedH U.vm := State.WarmedH.trans hW0 hW
  have hcl : s.vm.findClass cls = some ce.cls := by
    have h9 := hO.cls
    rw [hvm] at h9
    exact h9
  have hall : s.sameButNew ({ U with vm := s.vm } : State) locs mc ms := by
    subst hA
    obtain ⟨e1, e2⟩ := hsame
    rw [State.setFrames_setFrames] at e1
    have h2 : (T.setVm s.vm).sameButNew ({ U with vm := s.vm } : State) [] (0 + 1) (0 + 6) := ⟨e1, e2⟩
    have h3 := X.same.trans h2
    rw [List.append_nil] at h3
    exact h3.mono hc hs
  refine ⟨U, ?_, .threw T.heap.size, hrun, hend, Or.inr ⟨T.heap.size, rfl, cls, ce, locs, hx U hWs.alike f1 (fun q hq => f2 q hq (fun z hz => nomatch hz)), hce, hO.vm, hcl, hWs, hall, hf⟩⟩
  refine st1 _ ?_
  show Steps p.tables e below (T1.setTop { method := m, pc := pc + 3, locals := ls, stack := .ref T.heap.size :: rest, locked := none }) _
  jvm_step X₁.here [X₁.here.top, hexec, d3', Value.category]
  exact hsteps
/-- 'throw new E("text")': new; dup; ldc; invokespecial; athrow -/
theorem vx_throwS {cc : ByteArray} {pc : Nat} (hexec : p.tables.exec = Jvm.exec) (hb : c.code = cc) (hl : l.stackTraces = false) {own cls text : String} {names : List String} {ik is ic mc ms sa : Nat} {A : Nat → Prop}
    (hown : s.vm.findClass own = some m.cls) (hcls : Bundle.fit cls = true) (hnames : ∀ n ∈ names, Bundle.fit n = true)
    (hk : (Cond.classLink own ik cls).before args s = true) (hini : (Cond.initialized cls).before args s = true) (hstr : vk_R own is text sa s) (hat : ∀ w ∈ vx_atS own ic cls names, w.before args s = true)
    (hgood : ∀ w ∈ Cond.classLink own ik cls :: Cond.initialized cls :: vx_atS own ic cls names, vx_ot w = true)
    (hU : vx_Zq Bundle.tN "UNASSIGNED_STACK" Bundle.steD A s s.heap) (hN : vx_Zq Bundle.tN "SUPPRESSED_SENTINEL" Bundle.listD A s s.heap) (hS : va_S A s.heap H locs) (hsize : ls.size = c.maxLocals)
    (d0 : decode cc pc = .ok (.new ik, 3)) (d3 : decode cc (pc + 3) = .ok (.dup, 1)) (d4 : decode cc (pc + 4) = .ok (.ldc is, 2)) (d6 : decode cc (pc + 6) = .ok (.invokespecial ic, 3)) (d9 : decode cc (pc + 9) = .ok (.athrow, 1))
    (hout : ∀ x ∈ c.exceptionTable.toList, covers x (pc + 9) = false)
    (hRframes : names.length + 3 < R.frames) (hRlocals : (rest.map fun v => v.category).sum + (13 * (names.length + 1) + 43) ≤ R.locals) (hRcells : cells + 1 ≤ R.cells) (hRslots : slots + 6 ≤ R.slots) (hlocks : meth.locks = false)
    (hx : ∀ t : State, s.vm.Alike t.vm → H.size ≤ t.heap.size → (∀ q : Nat, q < H.size → t.heap[q]? = H[q]?) → XC cls s t)
    (hf : ∀ z ∈ locs, free z.base) (hc : cells + 1 ≤ mc) (hs : slots + 6 ≤ ms) :
    W p l e R s m args below meth c H locs cells slots (vx_MQ below Qc XC args s mc ms free) (F0 m pc ls rest) := by
  intro T hT X
  have htr : e.platform.stackTraces = false := (show e.platform.stackTraces = l.stackTraces by rw [X.admits.platform]).trans hl
  have Y := vx_rebase X (R' := { frames := R.frames, locals := R.locals, cells := 1, slots := 6 }) (Nat.le_refl _) (Nat.le_refl _) hRcells hRslots
  obtain ⟨s', hA⟩ : ∃ z, z = (T.setVm s.vm).setFrames (.invoking m args :: below) := ⟨_, rfl⟩
  rw [← hA] at Y
  have hvm : s'.vm = s.vm := by rw [hA]; rfl
  have hhp : s'.heap = H := by rw [hA]; exact hT
  have hW0 : s.WarmedH s'.vm := by rw [hvm]; exact State.WarmedH.refl s
  have hat' : ∀ w ∈ vx_atS own ic cls names, w.before args s' = true := fun w hw => vx_ot_at hW0 hvm.symm (hgood w (List.mem_cons_of_mem _ (List.mem_cons_of_mem _ hw))) (hat w hw)
  have hk' : (Cond.classLink own ik cls).before args s' = true := vx_ot_at hW0 hvm.symm (hgood _ List.mem_cons_self) hk
  have hini' : (Cond.initialized cls).before args s' = true := vx_ot_at hW0 hvm.symm (hgood _ (List.mem_cons_of_mem _ List.mem_cons_self)) hini
  have hU' : vx_Zq Bundle.tN "UNASSIGNED_STACK" Bundle.steD A s' s'.heap := by rw [hhp]; exact vx_Zq.moved hW0.alike (hU.kept hS.2.1)
  have hN' : vx_Zq Bundle.tN "SUPPRESSED_SENTINEL" Bundle.listD A s' s'.heap := by rw [hhp]; exact vx_Zq.moved hW0.alike (hN.kept hS.2.1)
  have h : ∀ w ∈ Bundle.ownAtoms own ic cls names, w.before args s' = true := vx_own hat' (vx_isRefq hU'.1) (vx_isRefq hN'.1) hU'.2.word hN'.2.word
  have hown' : s'.vm.findClass own = some m.cls := by rw [hvm]; exact hown
  have hins : (Cond.instantiable cls 6).before args s' = true := h _ (by simp [Bundle.ownAtoms])
  obtain ⟨vm₁, cX, kX, hfX, hkX, -, -, X₁, st1⟩ := Y.newCold hexec (own := own) (C := cls) (index := ik) (n := 6) hown' hk' hins hini'
    (g := F0 m pc ls rest) rfl (by rw [hb]; exact d0) (Nat.le_refl _) (Nat.le_refl _)
  generalize hT1 : (T.setVm vm₁).pushCell { cls := cX, slots := kX.instanceTypes.map defaultValue, vm := .none } = T1 at X₁ st1
  have hcat : (Value.ref T.heap.size).category = 1 := rfl
  have hcellA : T1.heap[T.heap.size]? = some (freshCell cX kX) := by rw [← hT1]; exact State.heap_pushCell_size _ _
  have d3' : decode c.code (pc + 3) = .ok (.dup, 1) := by rw [hb]; exact d3
  have d4' : decode c.code (pc + 4) = .ok (.ldc is, 2) := by rw [hb]; exact d4
  have hstr' : vk_R own is text sa s' := vk_R.warm hW0 hstr
  obtain ⟨U, hsteps, hrun, hend, hW, hsame, ce, hce, hO⟩ := X₁.ctorThrowS hexec htr (own := own) (cls := cls) (names := names) (ic := ic) hown' hcls hnames h (fun x hx => nomatch hx) hfX hkX hcellA (by rw [hhp, hT]; exact Nat.le_refl _) (msg := .ref sa) rfl
    (g := { method := m, pc := pc + 6, locals := ls, stack := .ref sa :: .ref T.heap.size :: .ref T.heap.size :: rest, locked := none }) rfl hsize rfl rfl (rest := rest) rfl
    (by rw [hb]; exact d6) (by rw [hb]; exact d9) hout hRframes (by simp only [List.map_cons, List.sum_cons, hcat]; omega) hlocks
  obtain ⟨f1, f2⟩ := vx_frame hsame
  rw [hhp] at f1 f2
  have hWs : s.WarmedH U.vm := State.WarmedH.trans hW0 hW
  have hcl : s.vm.findClass cls = some ce.cls := by
    have h9 := hO.cls
    rw [hvm] at h9
    exact h9
  have hall : s.sameButNew ({ U with vm := s.vm } : State) locs mc ms := by
    subst hA
    obtain ⟨e1, e2⟩ := hsame
    rw [State.setFrames_setFrames] at e1
    have h2 : (T.setVm s.vm).sameButNew ({ U with vm := s.vm } : State) [] (0 + 1) (0 + 6) := ⟨e1, e2⟩
    have h3 := X.same.trans h2
    rw [List.append_nil] at h3
    exact h3.mono hc hs
  refine ⟨U, ?_, .threw T.heap.size, hrun, hend, Or.inr ⟨T.heap.size, rfl, cls, ce, locs, hx U hWs.alike f1 (fun q hq => f2 q hq (fun z hz => nomatch hz)), hce, hO.vm, hcl, hWs, hall, hf⟩⟩
  refine st1 _ ?_
  show Steps p.tables e below (T1.setTop { method := m, pc := pc + 3, locals := ls, stack := .ref T.heap.size :: rest, locked := none }) _
  jvm_step X₁.here [X₁.here.top, hexec, d3', Value.category]
  exact X₁.ldcString hexec (own := own) (text := text) (index := is) (a := sa) hown' hstr'.1 hstr'.2
    (g := { method := m, pc := pc + 4, locals := ls, stack := .ref T.heap.size :: .ref T.heap.size :: rest, locked := none }) rfl d4' _ hsteps
/-- 'throw new E("text")', the text by a wide index -/
theorem vx_throwSW {cc : ByteArray} {pc : Nat} (hexec : p.tables.exec = Jvm.exec) (hb : c.code = cc) (hl : l.stackTraces = false) {own cls text : String} {names : List String} {ik is ic mc ms sa : Nat} {A : Nat → Prop}
    (hown : s.vm.findClass own = some m.cls) (hcls : Bundle.fit cls = true) (hnames : ∀ n ∈ names, Bundle.fit n = true)
    (hk : (Cond.classLink own ik cls).before args s = true) (hini : (Cond.initialized cls).before args s = true) (hstr : vk_R own is text sa s) (hat : ∀ w ∈ vx_atS own ic cls names, w.before args s = true)
    (hgood : ∀ w ∈ Cond.classLink own ik cls :: Cond.initialized cls :: vx_atS own ic cls names, vx_ot w = true)
    (hU : vx_Zq Bundle.tN "UNASSIGNED_STACK" Bundle.steD A s s.heap) (hN : vx_Zq Bundle.tN "SUPPRESSED_SENTINEL" Bundle.listD A s s.heap) (hS : va_S A s.heap H locs) (hsize : ls.size = c.maxLocals)
    (d0 : decode cc pc = .ok (.new ik, 3)) (d3 : decode cc (pc + 3) = .ok (.dup, 1)) (d4 : decode cc (pc + 4) = .ok (.ldc_w is, 3)) (d7 : decode cc (pc + 7) = .ok (.invokespecial ic, 3)) (d10 : decode cc (pc + 10) = .ok (.athrow, 1))
    (hout : ∀ x ∈ c.exceptionTable.toList, covers x (pc + 10) = false)
    (hRframes : names.length + 3 < R.frames) (hRlocals : (rest.map fun v => v.category).sum + (13 * (names.length + 1) + 43) ≤ R.locals) (hRcells : cells + 1 ≤ R.cells) (hRslots : slots + 6 ≤ R.slots) (hlocks : meth.locks = false)
    (hx : ∀ t : State, s.vm.Alike t.vm → H.size ≤ t.heap.size → (∀ q : Nat, q < H.size → t.heap[q]? = H[q]?) → XC cls s t)
    (hf : ∀ z ∈ locs, free z.base) (hc : cells + 1 ≤ mc) (hs : slots + 6 ≤ ms) :
    W p l e R s m args below meth c H locs cells slots (vx_MQ below Qc XC args s mc ms free) (F0 m pc ls rest) := by
  intro T hT X
  have htr : e.platform.stackTraces = false := (show e.platform.stackTraces = l.stackTraces by rw [X.admits.platform]).trans hl
  have Y := vx_rebase X (R' := { frames := R.frames, locals := R.locals, cells := 1, slots := 6 }) (Nat.le_refl _) (Nat.le_refl _) hRcells hRslots
  obtain ⟨s', hA⟩ : ∃ z, z = (T.setVm s.vm).setFrames (.invoking m args :: below) := ⟨_, rfl⟩
  rw [← hA] at Y
  have hvm : s'.vm = s.vm := by rw [hA]; rfl
  have hhp : s'.heap = H := by rw [hA]; exact hT
  have hW0 : s.WarmedH s'.vm := by rw [hvm]; exact State.WarmedH.refl s
  have hat' : ∀ w ∈ vx_atS own ic cls names, w.before args s' = true := fun w hw => vx_ot_at hW0 hvm.symm (hgood w (List.mem_cons_of_mem _ (List.mem_cons_of_mem _ hw))) (hat w hw)
  have hk' : (Cond.classLink own ik cls).before args s' = true := vx_ot_at hW0 hvm.symm (hgood _ List.mem_cons_self) hk
  have hini' : (Cond.initialized cls).before args s' = true := vx_ot_at hW0 hvm.symm (hgood _ (List.mem_cons_of_mem _ List.mem_cons_self)) hini
  have hU' : vx_Zq Bundle.tN "UNASSIGNED_STACK" Bundle.steD A s' s'.heap := by rw [hhp]; exact vx_Zq.moved hW0.alike (hU.kept hS.2.1)
  have hN' : vx_Zq Bundle.tN "SUPPRESSED_SENTINEL" Bundle.listD A s' s'.heap := by rw [hhp]; exact vx_Zq.moved hW0.alike (hN.kept hS.2.1)
  have h : ∀ w ∈ Bundle.ownAtoms own ic cls names, w.before args s' = true := vx_own hat' (vx_isRefq hU'.1) (vx_isRefq hN'.1) hU'.2.word hN'.2.word
  have hown' : s'.vm.findClass own = some m.cls := by rw [hvm]; exact hown
  have hins : (Cond.instantiable cls 6).before args s' = true := h _ (by simp [Bundle.ownAtoms])
  obtain ⟨vm₁, cX, kX, hfX, hkX, -, -, X₁, st1⟩ := Y.newCold hexec (own := own) (C := cls) (index := ik) (n := 6) hown' hk' hins hini'
    (g := F0 m pc ls rest) rfl (by rw [hb]; exact d0) (Nat.le_refl _) (Nat.le_refl _)
  generalize hT1 : (T.setVm vm₁).pushCell { cls := cX, slots := kX.instanceTypes.map defaultValue, vm := .none } = T1 at X₁ st1
  have hcat : (Value.ref T.heap.size).category = 1 := rfl
  have hcellA : T1.heap[T.heap.size]? = some (freshCell cX kX) := by rw [← hT1]; exact State.heap_pushCell_size _ _
  have d3' : decode c.code (pc + 3) = .ok (.dup, 1) := by rw [hb]; exact d3
  have d4' : decode c.code (pc + 4) = .ok (.ldc_w is, 3) := by rw [hb]; exact d4
  have hstr' : vk_R own is text sa s' := vk_R.warm hW0 hstr
  obtain ⟨U, hsteps, hrun, hend, hW, hsame, ce, hce, hO⟩ := X₁.ctorThrowS hexec htr (own := own) (cls := cls) (names := names) (ic := ic) hown' hcls hnames h (fun x hx => nomatch hx) hfX hkX hcellA (by rw [hhp, hT]; exact Nat.le_refl _) (msg := .ref sa) rfl
    (g := { method := m, pc := pc + 7, locals := ls, stack := .ref sa :: .ref T.heap.size :: .ref T.heap.size :: rest, locked := none }) rfl hsize rfl rfl (rest := rest) rfl
    (by rw [hb]; exact d7) (by rw [hb]; exact d10) hout hRframes (by simp only [List.map_cons, List.sum_cons, hcat]; omega) hlocks
  obtain ⟨f1, f2⟩ := vx_frame hsame
  rw [hhp] at f1 f2
  have hWs : s.WarmedH U.vm := State.WarmedH.trans hW0 hW
  have hcl : s.vm.findClass cls = some ce.cls := by
    have h9 := hO.cls
    rw [hvm] at h9
    exact h9
  have hall : s.sameButNew ({ U with vm := s.vm } : State) locs mc ms := by
    subst hA
    obtain ⟨e1, e2⟩ := hsame
    rw [State.setFrames_setFrames] at e1
    have h2 : (T.setVm s.vm).sameButNew ({ U with vm := s.vm } : State) [] (0 + 1) (0 + 6) := ⟨e1, e2⟩
    have h3 := X.same.trans h2
    rw [List.append_nil] at h3
    exact h3.mono hc hs
  refine ⟨U, ?_, .threw T.heap.size, hrun, hend, Or.inr ⟨T.heap.size, rfl, cls, ce, locs, hx U hWs.alike f1 (fun q hq => f2 q hq (fun z hz => nomatch hz)), hce, hO.vm, hcl, hWs, hall, hf⟩⟩
  refine st1 _ ?_
  show Steps p.tables e below (T1.setTop { method := m, pc := pc + 3, locals := ls, stack := .ref T.heap.size :: rest, locked := none }) _
  jvm_step X₁.here [X₁.here.top, hexec, d3', Value.category]
  exact X₁.ldcStringW hexec (own := own) (text := text) (index := is) (a := sa) hown' hstr'.1 hstr'.2
    (g := { method := m, pc := pc + 4, locals := ls, stack := .ref T.heap.size :: .ref T.heap.size :: rest, locked := none }) rfl d4' _ hsteps
end Ends
section Bodies
variable {l : Launch}
theorem vx_ofW {y : MethodName} {ws ws' : List Cond} {rm : Room} {Pc : Array Value → State → Prop} {Qc : Array Value → State → Outcome → State → Prop} {XC : String → State → State → Prop} {mc ms : Nat} {free : Addr → Prop} {cc : ByteArray} {maxL : Nat} {ret : Option FieldType}
    (hy : plainName y.cls = true) (hw : ws = Cond.code y cc maxL ret :: ws')
    (body : ∀ p e s m args below meth c s₁, BodyLoose p l y (headSpec ws rm) cc maxL ret e s m args below meth c s₁ → c.maxLocals = maxL → (∀ x ∈ c.exceptionTable.toList, False) → Pc args s →
      W p l e (headSpec ws rm).room s m args below meth c s.heap [] 0 0 (vx_MQ below Qc XC args s mc ms free) (entryFrame m args maxL)) : vx_Met l y ws rm Pc Qc XC mc ms free := by
  refine MetFree.of_bodyS (code := cc) (maxLocals := maxL) (ret := ret) hy ?_ ?_
  · intro args s m h hn
    obtain ⟨meth, c, h1, h2, h3, h4, h5, h6, -, -⟩ := Cond.code_spec hn (atoms_spec (ws := ws) h _ (by rw [hw]; exact List.mem_cons_self))
    exact ⟨meth, c, h1, h2, h3, h4, h5, h6⟩
  · intro p e s m args below meth c s₁ B hml hP _
    have hh0 : s₁.heap = s.heap := by rw [B.state]; rfl
    have ht : ∀ x ∈ c.exceptionTable.toList, False := by
      obtain ⟨meth9, c9, h1, h2, -, -, -, -, h7, -⟩ := Cond.code_spec B.named (atoms_spec (ws := ws) B.pre _ (by rw [hw]; exact List.mem_cons_self))
      cases Option.some.inj (h1.symm.trans B.method)
      cases Option.some.inj (h2.symm.trans (Stand.of_body B).code)
      intro x hx
      rw [Array.isEmpty_iff.mp h7] at hx
      cases hx
    obtain ⟨t, a1, o, b1, b2, b3⟩ := body p e s m args below meth c s₁ B hml ht hP s₁ hh0 (Stand.of_body B)
    exact ⟨t, o, a1, b1, b2, b3⟩
/-- the table of a body with handlers -/
theorem vx_table {p : Program} {x y : MethodName} {S : Spec} {cc bytes : ByteArray} {maxL maxL' : Nat} {ret ret' : Option FieldType} {e : Env} {s s₁ : State} {m : MethodId} {args : Array Value} {below : List Frame} {meth : Method} {c : Code} {hh : List (Nat × Nat × Nat × Nat)}
    (B : BodyLoose p l y S cc maxL ret e s m args below meth c s₁) (h : (Cond.codeWith y bytes maxL' ret' hh).before args s = true) : c.exceptionTable.toList = tableOf hh := by
  obtain ⟨m9, meth9, c9, hn9, h1, h2, -, -, h6, -⟩ := Cond.codeWith_spec h
  cases Option.some.inj (hn9.symm.trans B.named)
  cases Option.some.inj (h1.symm.trans B.method)
  cases Option.some.inj (h2.symm.trans (Stand.of_body B).code)
  rw [← h6, table_eq]
end Bodies
end VXA
/-! ===== END ===== -/
/-! ===== BEGIN a static call of a method with an exception table ===== -/
section VXS
variable {p : Program} {l : Launch} {e : Env} {R : Room} {s : State} {m : MethodId} {args : Array Value} {below : List Frame} {meth : Method} {c : Code} {T : State} {H : Heap} {locs : List Loc} {cells slots : Nat}
abbrev vx_CSW (R : Room) (s : State) (args : Array Value) (own : String) (index : Nat) (y : MethodName) (bytes : ByteArray) (maxL : Nat) (ret : Option FieldType) (hh : List (Nat × Nat × Nat × Nat)) (ws : List Cond) (rm : Room) (mc ms n : Nat) : Prop :=
  (rm.cells = mc ∧ rm.slots = ms ∧ rm.frames + 1 ≤ R.frames ∧ 8 + (maxL + 11) + rm.locals ≤ R.locals ∧ (∀ w ∈ ws, ∀ (a' : Array Value) (U : State), s.WarmedH U.vm → w.before a' U = true) ∧ Cond.codeWith y bytes maxL ret hh ∈ ws) ∧
  (Cond.codeWith y bytes maxL ret hh).before args s = true ∧ (Cond.initialized y.cls).before args s = true ∧ (y.cls ≠ "java/lang/invoke/MethodHandle" ∧ y.cls ≠ "java/lang/invoke/VarHandle") ∧
  (∀ sig, parseMethodDescriptor y.desc = some sig → n = sig.parameters.length) ∧ (Cond.methodLink own index y).before args s = true ∧ (Cond.static y).before args s = true
theorem vx_cwSW {own : String} {index maxL mc ms : Nat} {y : MethodName} {bytes : ByteArray} {ret : Option FieldType} {hh : List (Nat × Nat × Nat × Nat)} {Ts ws ws' : List Cond} {rm : Room} (n : Nat) (ht : ∀ w ∈ Ts, w.before args s = true) (hT : GoodIn Ts (va_wsS own index y ws)) (hw : ws = Cond.codeWith y bytes maxL ret hh :: ws') (hrc : rm.cells = mc) (hrs : rm.slots = ms)
    (hd : y.cls ≠ "java/lang/invoke/MethodHandle" ∧ y.cls ≠ "java/lang/invoke/VarHandle" ∧ (parseMethodDescriptor y.desc).map (fun d => d.parameters.length) = some n) (hR : rm.frames + 1 ≤ R.frames ∧ 8 + (maxL + 11) + rm.locals ≤ R.locals) :
    vx_CSW R s args own index y bytes maxL ret hh ws rm mc ms n := by
  have ok : ∀ w ∈ va_wsS own index y ws, w.before args s = true := fun w h => ht w (hT w h).1
  have hG : GoodIn Ts ws := fun w h => hT w (by unfold va_wsS; exact List.mem_append_right _ h)
  have hc : Cond.codeWith y bytes maxL ret hh ∈ ws := by rw [hw]; exact List.mem_cons_self
  refine ⟨⟨hrc, hrs, hR.1, hR.2, pay_in ht hG, hc⟩, ht _ (hG _ hc).1, ok _ (by simp [va_wsS]), ⟨hd.1, hd.2.1⟩, fun sig h => ?_, ok _ (by simp [va_wsS]), ok _ (by simp [va_wsS])⟩
  have h2 := hd.2.2
  rw [h] at h2
  exact (Option.some.inj h2).symm
theorem vx_callSW (X : Stand p l e R s m args below meth c T locs cells slots) (hexec : p.tables.exec = Jvm.exec) {own : String} {index : Nat} {y : MethodName} {bytes : ByteArray} {maxL : Nat} {ret : Option FieldType} {hh : List (Nat × Nat × Nat × Nat)}
    (hown : s.vm.findClass own = some m.cls) (hlink : (Cond.methodLink own index y).before args s = true) (hstat : (Cond.static y).before args s = true) (hinit : (Cond.initialized y.cls).before args s = true)
    (hcode : (Cond.codeWith y bytes maxL ret hh).before args s = true) (hy : y.cls ≠ "java/lang/invoke/MethodHandle" ∧ y.cls ≠ "java/lang/invoke/VarHandle")
    {W9 : Nat} {Pre : Pt → Array Value → Prop} {Post : Pt → Array Value → Option Value → Pt → Prop} (hK : Back l R p e below s args y 3 W9 Pre Post)
    {g : JFrame} (hg : g.method = m) (hsize : g.locals.size = c.maxLocals) {argsL rest : List Value} (hlen : ∀ sig, parseMethodDescriptor y.desc = some sig → argsL.length = sig.parameters.length)
    (hstack : g.stack = argsL.reverse ++ rest) (hW : 2 * g.monitorRoom + (rest.map fun v => v.category).sum ≤ W9) (hdg : decode c.code g.pc = .ok (.invokestatic index, 3))
    (hpre : ∀ vm₁, s.WarmedH vm₁ → Pre ⟨T.setVm vm₁, locs, cells, slots⟩ argsL.toArray) :
    ∃ (v : Option Value) (vm₁ : Vm) (B : Pt), s.WarmedH vm₁ ∧ Stand p l e R s m args below meth c B.U B.locs B.cells B.slots ∧ Post ⟨T.setVm vm₁, locs, cells, slots⟩ argsL.toArray v B ∧
      ∀ target, Steps p.tables e below (B.U.setTop { g with pc := g.pc + 3, stack := v.toList ++ rest }) target → Steps p.tables e below (T.setTop g) target := by
  obtain ⟨mk, methM, cM, hnamed, hmethM, -, -, -, -, -, -, hsigM⟩ := Cond.codeWith_spec hcode
  have hstatic : methM.isStatic = true := Cond.static_spec hnamed hmethM hstat
  obtain ⟨kP, hkP, -⟩ := className_of_methodNamed hnamed
  have hinitP : kP.init = .initialized := Cond.initialized_spec (findClass_of_methodNamed hnamed) hkP hinit
  obtain ⟨vm₁, X₁, hstep₁⟩ := X.invokestatic hexec hown hlink hnamed hmethM hstatic hkP hinitP hy (g := g) hg (argsL := argsL) (rest := rest) (hlen _ hsigM) hstack hdg
  obtain ⟨v, B, X', hpost, hsteps⟩ := hK m meth c ⟨T.setVm vm₁, locs, cells, slots⟩ { g with stack := rest } (.invokestatic index) mk argsL.toArray X₁ hg hsize hdg hW (X₁.named hnamed) (hpre vm₁ X₁.warmed)
  exact ⟨v, vm₁, B, X₁.warmed, X', hpost, fun target h => hstep₁ _ fun acts => by rw [doInvoke_state]; exact hsteps.trans h⟩
theorem vx_runSW {y : MethodName} {bytes cc : ByteArray} {maxL nL mc ms n index : Nat} {ret : Option FieldType} {hh : List (Nat × Nat × Nat × Nat)} {ws : List Cond} {rm : Room} {Pc : Array Value → State → Prop} {Qc : Array Value → State → Outcome → State → Prop} {free : Addr → Prop} {Ts : List Cond} {own : String} {As rest : List Value} {g : JFrame}
    (S : CallFix p m c cc nL s args Ts own) (hM : Met l y ws rm Pc Qc mc ms free) (cw : vx_CSW R s args own index y bytes maxL ret hh ws rm mc ms n) (hp : PreS s H Pc As)
    (hg : g.method = m) (hn : As.length = n) (hsize : g.locals.size = nL) (hstack : g.stack = As.reverse ++ rest) (hW : 2 * g.monitorRoom + (rest.map fun v => v.category).sum ≤ 8) (hdg : decode cc g.pc = .ok (.invokestatic index, 3)) (hf : cells + mc ≤ R.cells ∧ slots + ms ≤ R.slots) :
    va_Run p l e R s m args below meth c H locs cells slots mc ms g rest (Qc As.toArray) (free) := by
  obtain ⟨⟨hrc, hrs, hfr, hlo, hws, hcw⟩, hcode, hini, hy, hlen, hl, hstt⟩ := cw
  have hK : Back l R p e below s args y 3 8 (PreOf R mc ms Pc) (PostOf Qc mc ms free) := va_backW (hh := hh) (bytes := bytes) (maxL := maxL) (ret := ret) hM hp.1 hrc hrs hfr hlo hws hcw (fun a' U hW => word_at hW (Or.inl (by first | rfl | simp [Cond.onTables, Cond.keeps, Cond.steady])) hini)
  obtain ⟨hx, hb, hml, ho, -⟩ := S
  intro T hT X
  obtain ⟨v, vm₁, ⟨U', l2, c2, s2⟩, hW₁, X', ⟨g', mk, t, L, e1, e2, hq, h1, hL, h2, h3⟩, st⟩ := vx_callSW X hx (hh := hh) (bytes := bytes) (maxL := maxL) (ret := ret) ho hl hstt hini hcode hy hK hg (hsize.trans hml.symm) (argsL := As) (rest := rest) (fun sig h => hn.trans (hlen sig h)) hstack hW (by rw [hb]; exact hdg)
    (fun vm₁ hW₁ => ⟨hf.1, hf.2, hp.2 (T.setVm vm₁) hT hW₁⟩)
  dsimp only [Pt.U, Pt.locs, Pt.cells, Pt.slots] at X' e1 e2 h1 h2 h3 st
  subst h1; subst h2; subst h3
  exact ⟨v, (T.setVm vm₁).calling g' mk As.toArray, t, U', L, hT, X', hL, e1, e2, hq, st⟩
/-- not caught here, past rows that name other classes: it goes on to the caller -/
theorem vx_outP {p : Program} {l : Launch} {e : Env} {R : Room} {s : State} {m : MethodId} {args : Array Value} {below : List Frame} {meth : Method} {c : Code} {H : Heap} {locs : List Loc} {cells slots : Nat} {free : Addr → Prop} {ls : Array Slot} {rest : List Value} {Qc : Array Value → State → Outcome → State → Prop} {XC : String → State → State → Prop}
    {pc : Nat} {own E : String} {ce : Cell} {q : Addr} {mc ms : Nat} (hown : s.vm.findClass own = some m.cls) (hlocks : meth.locks = false)
    (hpass : ∀ z ∈ c.exceptionTable.toList, covers z pc = false ∨ (z.catchType ≠ 0 ∧ ∃ nm : String, (Cond.classLink own z.catchType nm).before args s = true ∧ va_Nc E nm s)) (hcell : H[q]? = some ce) (hv : ce.vm = .none) (hcl : s.vm.findClass E = some ce.cls)
    (hx : ∀ t : State, t.heap = H → s.vm.Alike t.vm → XC E s t) (hf : ∀ z ∈ locs, free z.base) (hc : cells ≤ mc) (hs : slots ≤ ms) :
    vx_W p l e R s m args below meth c H locs cells slots (vx_MQ below Qc XC args s mc ms free) (F0 m pc ls rest) q := by
  intro T hT X
  have hpl : e.platform.magicAccessors = ({} : Platform).magicAccessors := by rw [X.admits.platform]
  obtain ⟨vm', hW', X', st⟩ := X.outThrough hlocks q (g := F0 m pc ls rest) rfl rfl rfl (cell := ce) (by rw [hT]; exact hcell) (by rw [hv]; rfl)
    (by obtain ⟨k9, h9, -⟩ := Vm.findClass_spec hcl; exact ⟨k9, h9⟩) (fun z hz => by
      rcases hpass z hz with h | ⟨hz0, nm, hl1, hn1⟩
      · exact Or.inl h
      · obtain ⟨c6, hc6, hcl6⟩ := Cond.classLink_spec hown hl1 e.platform hpl
        obtain ⟨a8, b8, h1, h2, h3⟩ := hn1
        cases Option.some.inj (h1.symm.trans hcl)
        cases Option.some.inj (h2.symm.trans hc6)
        exact Or.inr ⟨hz0, _, hcl6, h3⟩)
  obtain ⟨g₀, hfr⟩ := X'.frames_eq
  have hcell9 : ((T.setVm vm').setFrames (.throwing q :: below)).heap[q]? = some ce := by
    show T.heap[q]? = some ce
    rw [hT]; exact hcell
  have hend : Ended ((T.setVm vm').setFrames (.throwing q :: below)) below (.threw q) := State.frames_setFrames _ (State.cur_lt_of_frames hfr)
  refine ⟨(T.setVm vm').setFrames (.throwing q :: below), ?_, .threw q, X'.here.running, hend, Or.inr ⟨q, rfl, E, ce, locs, hx _ hT (X'.ends _).1.alike, hcell9, hv, hcl, (X'.ends _).1, (X'.ends _).2.mono hc hs, hf⟩⟩
  rw [X.pushThrowing_eq]
  exact st
/-- a thing of a world lies in the heap -/
theorem vx_lt {D : va_G} {cl : List vw_C} {ws : va_W} {H1 : Heap} (h : va_P D cl ws H1) {k : Nat} {q : Nat × va_E} (hk : ws[k]? = some q) : q.1 < H1.size := (h k q hk).lt
end VXS
/-! ===== END ===== -/
/-! ===== BEGIN methods with a table of their own: called by a name, returning or throwing ===== -/
section VXH
/-! vx_backW, vx_callVX, vx_callSX, vx_callVW, vx_runVW, vx_runVX, vx_runSX, vx_ofWH follow the same proofs as their sisters above (Free/Laws.lean, Shelf42/LK1.lean); vx_outP calls Shelf42/NT130.lean (outThrough). -/
section
variable {l : Launch} {R : Room} {p : Program} {e : Env} {below : List Frame} {s : State} {sargs : Array Value} {y : MethodName} {len W9 : Nat}
theorem vx_backW {ws : List Cond} {rm : Room} {Pc : Array Value → State → Prop} {Qc : Array Value → State → Outcome → State → Prop} {XC : String → State → State → Prop} {mc ms : Nat} {free : Addr → Prop} {bytes : ByteArray} {maxL : Nat} {ret : Option FieldType} {hh : List (Nat × Nat × Nat × Nat)}
    (hM : vx_Met l y ws rm Pc Qc XC mc ms free) (hblind : FrameBlind Pc) (hrc : rm.cells = mc) (hrs : rm.slots = ms)
    (hframes : rm.frames + 1 ≤ R.frames) (hlocals : W9 + (maxL + 11) + rm.locals ≤ R.locals)
    (hws : ∀ w ∈ ws, ∀ a' U, s.WarmedH U.vm → w.before a' U = true) (hcode : Cond.codeWith y bytes maxL ret hh ∈ ws) (hinit : ∀ a' U, s.WarmedH U.vm → (Cond.initialized y.cls).before a' U = true) :
    vx_Back l R p e below s sargs y len W9 (PreOf R mc ms Pc) (PostOf Qc mc ms free) (vx_Post XC mc ms free) := by
  intro m meth c A g ig mk a X hg hsize hdg hW hn hp
  have h1 : (headSpec ws rm).pre.before a A.U = true := atoms_intro fun w hw => hws w hw _ _ X.warmed
  have h2 : (Cond.codeWith y bytes maxL ret hh).before a A.U = true := hws _ hcode _ _ X.warmed
  have h3 : (Cond.initialized y.cls).before a A.U = true := hinit _ _ X.warmed
  have h4 : A.cells + (headSpec ws rm).room.cells ≤ R.cells := by rw [show (headSpec ws rm).room.cells = mc from hrc]; exact hp.1
  have h5 : A.slots + (headSpec ws rm).room.slots ≤ R.slots := by rw [show (headSpec ws rm).room.slots = ms from hrs]; exact hp.2.1
  have hPc : Pc a (A.U.calling g mk a) := hblind _ _ _ _ hp.2.2
  obtain ⟨U, Ls, c0, s0⟩ := A
  dsimp only [Pt.U, Pt.locs, Pt.cells, Pt.slots] at h1 h2 h3 h4 h5 X hn hPc ⊢
  obtain ⟨m9, methY, cY, hn9, hmY, hcY, -, hlY, -⟩ := Cond.codeWith_spec h2
  cases Option.some.inj (hn9.symm.trans hn)
  obtain ⟨kY, hkY, -⟩ := className_of_methodNamed hn
  have hinitY : kY.init = .initialized := Cond.initialized_spec (findClass_of_methodNamed hn) hkY h3
  have h : At U g.method c below := by rw [hg]; exact X.here
  have hlocals9 : W9 + (maxL + 11) + (headSpec ws rm).room.locals ≤ R.locals := hlocals
  have happ : (headSpec ws rm).appliesLoose y e.platform (U.calling g mk a) = true :=
    Spec.appliesLoose_calling (g := g) h hdg hn hkY hinitY
      (X.room_calling (g := g) (R' := (headSpec ws rm).room) hsize hmY hcY hframes (by rw [hlY]; omega) h4 h5) h1
  obtain ⟨mid, hmid⟩ := h.above
  have hfr : (U.setTop g).frames = (.java g :: mid) ++ below := by rw [State.frames_setTop' g h.top, hmid]; rfl
  obtain ⟨o, s₂, hsteps, -, hend, hq⟩ := Steps.callFree hM p X.admits X.cas X.clock (acts := []) hfr happ hPc trivial
  have hq' : vx_Q Qc XC mc ms free a (U.calling g mk a) o s₂ := hq
  rw [State.frames_setTop' g h.top] at hend
  obtain ⟨g₀, hg0⟩ := Option.isSome_iff_exists.mp h.top
  obtain ⟨r, hr⟩ := State.topJava?_eq_some.mp hg0
  have hr' : (({ U with heap := s₂.heap, slotsUsed := s₂.slotsUsed } : State).setVm s₂.vm).frames = .java g₀ :: r := hr
  rcases hq' with ⟨hqc, L, hfe, hL⟩ | ⟨q, rfl, E, ce, L, hx, hce, hcv, hcl, hW₂, hsm, hL⟩
  · obtain ⟨⟨v, rfl⟩, hW₂, e2, q2, q3, q4, q5, q6⟩ := id hfe
    have e3 : s₂ = ({ (U.calling g mk a).setFrames s₂.frames with heap := s₂.heap, slotsUsed := s₂.slotsUsed } : State).setVm s₂.vm := by
      have : s₂ = ({ s₂ with vm := (U.calling g mk a).vm } : State).setVm s₂.vm := rfl
      rw [e2] at this
      exact this
    obtain ⟨c₂, i₂, len₂, hc₂, hd₂, hf₂⟩ := hend
    have hW' : U.WarmedH s₂.vm := hW₂
    have hcc : c₂ = c := by
      have h1 : s₂.code? g.method = U.code? g.method := by
        rw [State.code?_eq, State.code?_eq, hW'.alike.method?]
      exact Option.some.inj (hc₂.symm.trans (h1.trans h.code))
    subst hcc
    have hlen : len₂ = len := by rw [hdg] at hd₂; cases hd₂; rfl
    subst hlen
    have hs₂ : s₂ = (({ U with heap := s₂.heap, slotsUsed := s₂.slotsUsed } : State).setVm s₂.vm).setTop { g with pc := g.pc + len₂, stack := v.toList ++ g.stack } := by
      refine e3.trans ?_
      rw [hf₂, State.calling_eq h.top, State.setFrames_setFrames, State.setTop_of_frames _ hr', hr]
      rfl
    have hsame : U.sameButNew ({ U with heap := s₂.heap, slotsUsed := s₂.slotsUsed } : State) L mc ms := by
      refine ⟨?_, q2, q3, q4, q5, q6⟩
      obtain ⟨t, ht, -⟩ := State.frames_cons hr
      show ({ U with heap := s₂.heap, slotsUsed := s₂.slotsUsed } : State) = { U.setFrames U.frames with heap := s₂.heap, slotsUsed := s₂.slotsUsed }
      rw [State.setFrames_self ht]
    subst hg
    refine Or.inl ⟨v, ⟨(({ U with heap := s₂.heap, slotsUsed := s₂.slotsUsed } : State).setVm s₂.vm), Ls ++ L, c0 + mc, s0 + ms⟩,
      ⟨X.admits, X.cas, X.clock, X.frames, X.room, X.hears, X.method, X.code, (X.here.setHeapUsed s₂.heap s₂.slotsUsed).setVm hW'.alike, X.tail, State.WarmedH.trans X.warmed hW', X.limits, X.bytes, X.same.trans (hsame.setVm s.vm)⟩,
      ⟨g, mk, s₂, L, rfl, rfl, hqc, rfl, hL, rfl, rfl⟩, ?_⟩
    show Steps p.tables e below _ ((({ U with heap := s₂.heap, slotsUsed := s₂.slotsUsed } : State).setVm s₂.vm).setTop { g with pc := g.pc + len₂, stack := v.toList ++ g.stack })
    rw [← hs₂]
    exact hsteps
  · obtain ⟨e2, q2, q3, q4, q5, q6⟩ := id hsm
    have e3 : s₂ = ({ (U.calling g mk a).setFrames s₂.frames with heap := s₂.heap, slotsUsed := s₂.slotsUsed } : State).setVm s₂.vm := by
      have : s₂ = ({ s₂ with vm := (U.calling g mk a).vm } : State).setVm s₂.vm := rfl
      rw [e2] at this
      exact this
    have hf₂ : s₂.frames = .throwing q :: .java g :: U.frames.tail := hend
    have hW' : U.WarmedH s₂.vm := hW₂
    have hs₂ : s₂ = ((({ U with heap := s₂.heap, slotsUsed := s₂.slotsUsed } : State).setVm s₂.vm).setTop g).pushFrame (.throwing q) := by
      refine e3.trans ?_
      rw [hf₂, State.calling_eq h.top, State.setFrames_setFrames, State.pushFrame, State.frames_setTop _ hr', State.setTop_of_frames _ hr', State.setFrames_setFrames, hr]
      rfl
    have hsame : U.sameButNew ({ U with heap := s₂.heap, slotsUsed := s₂.slotsUsed } : State) L mc ms := by
      refine ⟨?_, q2, q3, q4, q5, q6⟩
      obtain ⟨t, ht, -⟩ := State.frames_cons hr
      show ({ U with heap := s₂.heap, slotsUsed := s₂.slotsUsed } : State) = { U.setFrames U.frames with heap := s₂.heap, slotsUsed := s₂.slotsUsed }
      rw [State.setFrames_self ht]
    subst hg
    refine Or.inr ⟨q, ⟨(({ U with heap := s₂.heap, slotsUsed := s₂.slotsUsed } : State).setVm s₂.vm), Ls ++ L, c0 + mc, s0 + ms⟩,
      ⟨X.admits, X.cas, X.clock, X.frames, X.room, X.hears, X.method, X.code, (X.here.setHeapUsed s₂.heap s₂.slotsUsed).setVm hW'.alike, X.tail, State.WarmedH.trans X.warmed hW', X.limits, X.bytes, X.same.trans (hsame.setVm s.vm)⟩,
      ⟨g, mk, s₂, L, E, ce, rfl, rfl, hx, hce, hcv, hcl, rfl, hL, rfl, rfl⟩, ?_⟩
    show Steps p.tables e below _ (((({ U with heap := s₂.heap, slotsUsed := s₂.slotsUsed } : State).setVm s₂.vm).setTop g).pushFrame (.throwing q))
    rw [← hs₂]
    exact hsteps
end
variable {p : Program} {l : Launch} {e : Env} {R : Room} {s : State} {m : MethodId} {args : Array Value} {below : List Frame} {meth : Method} {c : Code} {T : State} {H : Heap} {locs : List Loc} {cells slots : Nat}
theorem vx_callVX (X : Stand p l e R s m args below meth c T locs cells slots) (hexec : p.tables.exec = Jvm.exec) {own C : String} {index : Nat} {y : MethodName} {bytes : ByteArray} {maxL : Nat} {ret : Option FieldType} {hh : List (Nat × Nat × Nat × Nat)}
    (hown : s.vm.findClass own = some m.cls) (hlink : (Cond.methodLink own index y).before args s = true) (hinst : (Cond.instanceMethod y).before args s = true) (hsel : (Cond.selects C y y).before args s = true)
    (hcode : (Cond.codeWith y bytes maxL ret hh).before args s = true) (hy : y.cls ≠ "java/lang/invoke/MethodHandle" ∧ y.cls ≠ "java/lang/invoke/VarHandle")
    {W9 : Nat} {Pre : Pt → Array Value → Prop} {Post : Pt → Array Value → Option Value → Pt → Prop} {PostX : Pt → Array Value → Addr → Pt → Prop} (hK : vx_Back l R p e below s args y 3 W9 Pre Post PostX)
    {b : Addr} {cellB : Cell} (hcell : T.heap[b]? = some cellB) (hobj : cellB.vm.isStatics = false) (hcls : s.vm.findClass C = some cellB.cls)
    {g : JFrame} (hg : g.method = m) (hsize : g.locals.size = c.maxLocals) {argsL rest : List Value} (hlen : ∀ sig, parseMethodDescriptor y.desc = some sig → argsL.length = sig.parameters.length)
    (hstack : g.stack = argsL.reverse ++ .ref b :: rest) (hW : 2 * g.monitorRoom + (rest.map fun v => v.category).sum ≤ W9) (hdg : decode c.code g.pc = .ok (.invokevirtual index, 3))
    (hpre : ∀ vm₁, s.WarmedH vm₁ → Pre ⟨T.setVm vm₁, locs, cells, slots⟩ (Value.ref b :: argsL).toArray) :
    (∃ (v : Option Value) (vm₁ : Vm) (B : Pt), s.WarmedH vm₁ ∧ Stand p l e R s m args below meth c B.U B.locs B.cells B.slots ∧ Post ⟨T.setVm vm₁, locs, cells, slots⟩ (Value.ref b :: argsL).toArray v B ∧
      ∀ target, Steps p.tables e below (B.U.setTop { g with pc := g.pc + 3, stack := v.toList ++ rest }) target → Steps p.tables e below (T.setTop g) target) ∨
    (∃ (q : Addr) (vm₁ : Vm) (B : Pt), s.WarmedH vm₁ ∧ Stand p l e R s m args below meth c B.U B.locs B.cells B.slots ∧ PostX ⟨T.setVm vm₁, locs, cells, slots⟩ (Value.ref b :: argsL).toArray q B ∧
      Steps p.tables e below (T.setTop g) ((B.U.setTop { g with stack := rest }).pushFrame (.throwing q))) := by
  obtain ⟨mk, methM, hnamed, hmethM, hstM, habM⟩ := Cond.instanceMethod_spec hinst
  obtain ⟨m8, methM', cM, hn8, hmethM', -, -, -, -, -, -, hsigM⟩ := Cond.codeWith_spec hcode
  cases Option.some.inj (hn8.symm.trans hnamed)
  cases hmethM.symm.trans hmethM'
  obtain ⟨c2, r2, m2, q1, q2, q3, q4, kP, hkP, hkPi⟩ := Cond.selects_spec hsel
  cases hcls.symm.trans q1
  cases (State.methodFound?_of_named hnamed hy).symm.trans q2
  cases hnamed.symm.trans q3
  have hselP : selectMethod e.platform s.vm cellB.cls mk = .method mk := by rw [Launch.admits_selectMethod X.admits]; exact q4
  obtain ⟨vm₁, X₁, hstep₁⟩ := X.invokevirtual hexec hown hlink hnamed hmethM hstM hkP hkPi hy (a := b) (cell := cellB) hcell
    (fun z h => by rw [h] at hobj; cases hobj) hselP hmethM habM hkP hkPi (g := g) hg (argsL := argsL) (rest := rest) (hlen _ hsigM) hstack hdg
  rcases hK m meth c ⟨T.setVm vm₁, locs, cells, slots⟩ { g with stack := rest } (.invokevirtual index) mk (Value.ref b :: argsL).toArray X₁ hg hsize hdg hW (X₁.named hnamed) (hpre vm₁ X₁.warmed) with ⟨v, B, X', hpost, hsteps⟩ | ⟨q, B, X', hpost, hsteps⟩
  · exact Or.inl ⟨v, vm₁, B, X₁.warmed, X', hpost, fun target h => hstep₁ _ fun acts => by rw [doInvoke_state]; exact hsteps.trans h⟩
  · exact Or.inr ⟨q, vm₁, B, X₁.warmed, X', hpost, hstep₁ _ fun acts => by rw [doInvoke_state]; exact hsteps⟩
theorem vx_callSX (X : Stand p l e R s m args below meth c T locs cells slots) (hexec : p.tables.exec = Jvm.exec) {own : String} {index : Nat} {y : MethodName} {bytes : ByteArray} {maxL : Nat} {ret : Option FieldType} {hh : List (Nat × Nat × Nat × Nat)}
    (hown : s.vm.findClass own = some m.cls) (hlink : (Cond.methodLink own index y).before args s = true) (hstat : (Cond.static y).before args s = true) (hinit : (Cond.initialized y.cls).before args s = true)
    (hcode : (Cond.codeWith y bytes maxL ret hh).before args s = true) (hy : y.cls ≠ "java/lang/invoke/MethodHandle" ∧ y.cls ≠ "java/lang/invoke/VarHandle")
    {W9 : Nat} {Pre : Pt → Array Value → Prop} {Post : Pt → Array Value → Option Value → Pt → Prop} {PostX : Pt → Array Value → Addr → Pt → Prop} (hK : vx_Back l R p e below s args y 3 W9 Pre Post PostX)
    {g : JFrame} (hg : g.method = m) (hsize : g.locals.size = c.maxLocals) {argsL rest : List Value} (hlen : ∀ sig, parseMethodDescriptor y.desc = some sig → argsL.length = sig.parameters.length)
    (hstack : g.stack = argsL.reverse ++ rest) (hW : 2 * g.monitorRoom + (rest.map fun v => v.category).sum ≤ W9) (hdg : decode c.code g.pc = .ok (.invokestatic index, 3))
    (hpre : ∀ vm₁, s.WarmedH vm₁ → Pre ⟨T.setVm vm₁, locs, cells, slots⟩ argsL.toArray) :
    (∃ (v : Option Value) (vm₁ : Vm) (B : Pt), s.WarmedH vm₁ ∧ Stand p l e R s m args below meth c B.U B.locs B.cells B.slots ∧ Post ⟨T.setVm vm₁, locs, cells, slots⟩ argsL.toArray v B ∧
      ∀ target, Steps p.tables e below (B.U.setTop { g with pc := g.pc + 3, stack := v.toList ++ rest }) target → Steps p.tables e below (T.setTop g) target) ∨
    (∃ (q : Addr) (vm₁ : Vm) (B : Pt), s.WarmedH vm₁ ∧ Stand p l e R s m args below meth c B.U B.locs B.cells B.slots ∧ PostX ⟨T.setVm vm₁, locs, cells, slots⟩ argsL.toArray q B ∧
      Steps p.tables e below (T.setTop g) ((B.U.setTop { g with stack := rest }).pushFrame (.throwing q))) := by
  obtain ⟨mk, methM, cM, hnamed, hmethM, -, -, -, -, -, -, hsigM⟩ := Cond.codeWith_spec hcode
  have hstatic : methM.isStatic = true := Cond.static_spec hnamed hmethM hstat
  obtain ⟨kP, hkP, -⟩ := className_of_methodNamed hnamed
  have hinitP : kP.init = .initialized := Cond.initialized_spec (findClass_of_methodNamed hnamed) hkP hinit
  obtain ⟨vm₁, X₁, hstep₁⟩ := X.invokestatic hexec hown hlink hnamed hmethM hstatic hkP hinitP hy (g := g) hg (argsL := argsL) (rest := rest) (hlen _ hsigM) hstack hdg
  rcases hK m meth c ⟨T.setVm vm₁, locs, cells, slots⟩ { g with stack := rest } (.invokestatic index) mk argsL.toArray X₁ hg hsize hdg hW (X₁.named hnamed) (hpre vm₁ X₁.warmed) with ⟨v, B, X', hpost, hsteps⟩ | ⟨q, B, X', hpost, hsteps⟩
  · exact Or.inl ⟨v, vm₁, B, X₁.warmed, X', hpost, fun target h => hstep₁ _ fun acts => by rw [doInvoke_state]; exact hsteps.trans h⟩
  · exact Or.inr ⟨q, vm₁, B, X₁.warmed, X', hpost, hstep₁ _ fun acts => by rw [doInvoke_state]; exact hsteps⟩
theorem vx_callVW (X : Stand p l e R s m args below meth c T locs cells slots) (hexec : p.tables.exec = Jvm.exec) {own C : String} {index : Nat} {y : MethodName} {bytes : ByteArray} {maxL : Nat} {ret : Option FieldType} {hh : List (Nat × Nat × Nat × Nat)}
    (hown : s.vm.findClass own = some m.cls) (hlink : (Cond.methodLink own index y).before args s = true) (hinst : (Cond.instanceMethod y).before args s = true) (hsel : (Cond.selects C y y).before args s = true)
    (hcode : (Cond.codeWith y bytes maxL ret hh).before args s = true) (hy : y.cls ≠ "java/lang/invoke/MethodHandle" ∧ y.cls ≠ "java/lang/invoke/VarHandle")
    {W9 : Nat} {Pre : Pt → Array Value → Prop} {Post : Pt → Array Value → Option Value → Pt → Prop} (hK : Back l R p e below s args y 3 W9 Pre Post)
    {b : Addr} {cellB : Cell} (hcell : T.heap[b]? = some cellB) (hobj : cellB.vm.isStatics = false) (hcls : s.vm.findClass C = some cellB.cls)
    {g : JFrame} (hg : g.method = m) (hsize : g.locals.size = c.maxLocals) {argsL rest : List Value} (hlen : ∀ sig, parseMethodDescriptor y.desc = some sig → argsL.length = sig.parameters.length)
    (hstack : g.stack = argsL.reverse ++ .ref b :: rest) (hW : 2 * g.monitorRoom + (rest.map fun v => v.category).sum ≤ W9) (hdg : decode c.code g.pc = .ok (.invokevirtual index, 3))
    (hpre : ∀ vm₁, s.WarmedH vm₁ → Pre ⟨T.setVm vm₁, locs, cells, slots⟩ (Value.ref b :: argsL).toArray) :
    ∃ (v : Option Value) (vm₁ : Vm) (B : Pt), s.WarmedH vm₁ ∧ Stand p l e R s m args below meth c B.U B.locs B.cells B.slots ∧ Post ⟨T.setVm vm₁, locs, cells, slots⟩ (Value.ref b :: argsL).toArray v B ∧
      ∀ target, Steps p.tables e below (B.U.setTop { g with pc := g.pc + 3, stack := v.toList ++ rest }) target → Steps p.tables e below (T.setTop g) target := by
  obtain ⟨mk, methM, hnamed, hmethM, hstM, habM⟩ := Cond.instanceMethod_spec hinst
  obtain ⟨m8, methM', cM, hn8, hmethM', -, -, -, -, -, -, hsigM⟩ := Cond.codeWith_spec hcode
  cases Option.some.inj (hn8.symm.trans hnamed)
  cases hmethM.symm.trans hmethM'
  obtain ⟨c2, r2, m2, q1, q2, q3, q4, kP, hkP, hkPi⟩ := Cond.selects_spec hsel
  cases hcls.symm.trans q1
  cases (State.methodFound?_of_named hnamed hy).symm.trans q2
  cases hnamed.symm.trans q3
  have hselP : selectMethod e.platform s.vm cellB.cls mk = .method mk := by rw [Launch.admits_selectMethod X.admits]; exact q4
  obtain ⟨vm₁, X₁, hstep₁⟩ := X.invokevirtual hexec hown hlink hnamed hmethM hstM hkP hkPi hy (a := b) (cell := cellB) hcell
    (fun z h => by rw [h] at hobj; cases hobj) hselP hmethM habM hkP hkPi (g := g) hg (argsL := argsL) (rest := rest) (hlen _ hsigM) hstack hdg
  obtain ⟨v, B, X', hpost, hsteps⟩ := hK m meth c ⟨T.setVm vm₁, locs, cells, slots⟩ { g with stack := rest } (.invokevirtual index) mk (Value.ref b :: argsL).toArray X₁ hg hsize hdg hW (X₁.named hnamed) (hpre vm₁ X₁.warmed)
  exact ⟨v, vm₁, B, X₁.warmed, X', hpost, fun target h => hstep₁ _ fun acts => by rw [doInvoke_state]; exact hsteps.trans h⟩
abbrev vx_CVW (R : Room) (s : State) (args : Array Value) (own C : String) (index : Nat) (y : MethodName) (bytes : ByteArray) (maxL : Nat) (ret : Option FieldType) (hh : List (Nat × Nat × Nat × Nat)) (ws : List Cond) (rm : Room) (mc ms n : Nat) : Prop :=
  (rm.cells = mc ∧ rm.slots = ms ∧ rm.frames + 1 ≤ R.frames ∧ 8 + (maxL + 11) + rm.locals ≤ R.locals ∧ (∀ w ∈ ws, ∀ (a' : Array Value) (U : State), s.WarmedH U.vm → w.before a' U = true) ∧ Cond.codeWith y bytes maxL ret hh ∈ ws) ∧
  (Cond.codeWith y bytes maxL ret hh).before args s = true ∧ (Cond.initialized y.cls).before args s = true ∧ (y.cls ≠ "java/lang/invoke/MethodHandle" ∧ y.cls ≠ "java/lang/invoke/VarHandle") ∧
  (∀ sig, parseMethodDescriptor y.desc = some sig → n = sig.parameters.length) ∧ (Cond.methodLink own index y).before args s = true ∧ (Cond.instanceMethod y).before args s = true ∧ (Cond.selects C y y).before args s = true
theorem vx_cwVW {own C : String} {index maxL mc ms : Nat} {y : MethodName} {bytes : ByteArray} {ret : Option FieldType} {hh : List (Nat × Nat × Nat × Nat)} {Ts ws ws' : List Cond} {rm : Room} (n : Nat) (ht : ∀ w ∈ Ts, w.before args s = true) (hT : GoodIn Ts (wsV own index C y ws)) (hw : ws = Cond.codeWith y bytes maxL ret hh :: ws') (hrc : rm.cells = mc) (hrs : rm.slots = ms)
    (hd : y.cls = C ∧ y.cls ≠ "java/lang/invoke/MethodHandle" ∧ y.cls ≠ "java/lang/invoke/VarHandle" ∧ (parseMethodDescriptor y.desc).map (fun d => d.parameters.length) = some n) (hR : rm.frames + 1 ≤ R.frames ∧ 8 + (maxL + 11) + rm.locals ≤ R.locals) :
    vx_CVW R s args own C index y bytes maxL ret hh ws rm mc ms n := by
  obtain ⟨hC, hd⟩ := hd
  subst hC
  have ok : ∀ w ∈ wsV own index y.cls y ws, w.before args s = true := fun w h => ht w (hT w h).1
  have hG : GoodIn Ts ws := fun w h => hT w (by unfold wsV; exact List.mem_append_right _ h)
  have hc : Cond.codeWith y bytes maxL ret hh ∈ ws := by rw [hw]; exact List.mem_cons_self
  refine ⟨⟨hrc, hrs, hR.1, hR.2, pay_in ht hG, hc⟩, ht _ (hG _ hc).1, ok _ (by simp [wsV]), ⟨hd.1, hd.2.1⟩, fun sig h => ?_, ok _ (by simp [wsV]), ok _ (by simp [wsV]), ok _ (by simp [wsV])⟩
  have h2 := hd.2.2
  rw [h] at h2
  exact (Option.some.inj h2).symm
theorem vx_runVW {y : MethodName} {bytes cc : ByteArray} {maxL nL mc ms n index : Nat} {ret : Option FieldType} {hh : List (Nat × Nat × Nat × Nat)} {ws : List Cond} {rm : Room} {Pc : Array Value → State → Prop} {Qc : Array Value → State → Outcome → State → Prop} {free : Addr → Prop} {Ts : List Cond} {own C : String} {b : Addr} {As rest : List Value} {g : JFrame}
    (S : CallFix p m c cc nL s args Ts own) (hM : Met l y ws rm Pc Qc mc ms free) (cw : vx_CVW R s args own C index y bytes maxL ret hh ws rm mc ms n) (hp : PreV s H C b Pc As)
    (hg : g.method = m) (hn : As.length = n) (hsize : g.locals.size = nL) (hstack : g.stack = As.reverse ++ .ref b :: rest) (hW : 2 * g.monitorRoom + (rest.map fun v => v.category).sum ≤ 8) (hdg : decode cc g.pc = .ok (.invokevirtual index, 3)) (hf : cells + mc ≤ R.cells ∧ slots + ms ≤ R.slots) :
    va_Run p l e R s m args below meth c H locs cells slots mc ms g rest (Qc (Value.ref b :: As).toArray) free := by
  obtain ⟨⟨hrc, hrs, hfr, hlo, hws, hcw⟩, hcode, hini, hy, hlen, hl, hin, hse⟩ := cw
  have hK : Back l R p e below s args y 3 8 (PreOf R mc ms Pc) (PostOf Qc mc ms free) := va_backW (hh := hh) (bytes := bytes) (maxL := maxL) (ret := ret) hM hp.1 hrc hrs hfr hlo hws hcw (fun a' U hW => word_at hW (Or.inl (by first | rfl | simp [Cond.onTables, Cond.keeps, Cond.steady])) hini)
  obtain ⟨hx, hb, hml, ho, -⟩ := S
  obtain ⟨-, ⟨cellB, hcB, hoB, hclB⟩, hPc⟩ := hp
  intro T hT X
  obtain ⟨v, vm₁, ⟨U', l2, c2, s2⟩, hW₁, X', ⟨g', mk, t, L, e1, e2, hq, h1, hL, h2, h3⟩, st⟩ := vx_callVW X hx (C := C) (hh := hh) (bytes := bytes) (maxL := maxL) (ret := ret) ho hl hin hse hcode hy hK (by rw [hT]; exact hcB) hoB hclB hg (hsize.trans hml.symm) (argsL := As) (rest := rest) (fun sig h => hn.trans (hlen sig h)) hstack hW (by rw [hb]; exact hdg)
    (fun vm₁ hW₁ => ⟨hf.1, hf.2, hPc (T.setVm vm₁) hT hW₁⟩)
  dsimp only [Pt.U, Pt.locs, Pt.cells, Pt.slots] at X' e1 e2 h1 h2 h3 st
  subst h1; subst h2; subst h3
  exact ⟨v, (T.setVm vm₁).calling g' mk (Value.ref b :: As).toArray, t, U', L, hT, X', hL, e1, e2, hq, st⟩
section
variable {y : MethodName} {bytes cc : ByteArray} {maxL nL mc ms n index : Nat} {ret : Option FieldType} {ws : List Cond} {rm : Room} {Pc : Array Value → State → Prop} {Qc : Array Value → State → Outcome → State → Prop} {XC : String → State → State → Prop} {free : Addr → Prop} {Ts : List Cond} {own C : String} {b : Addr} {As rest : List Value} {g : JFrame}
theorem vx_runVX {hh : List (Nat × Nat × Nat × Nat)} (S : CallFix p m c cc nL s args Ts own) (hM : vx_Met l y ws rm Pc Qc XC mc ms free) (cw : vx_CVW R s args own C index y bytes maxL ret hh ws rm mc ms n) (hp : PreV s H C b Pc As)
    (hg : g.method = m) (hn : As.length = n) (hsize : g.locals.size = nL) (hstack : g.stack = As.reverse ++ .ref b :: rest) (hW : 2 * g.monitorRoom + (rest.map fun v => v.category).sum ≤ 8) (hdg : decode cc g.pc = .ok (.invokevirtual index, 3)) (hf : cells + mc ≤ R.cells ∧ slots + ms ≤ R.slots) :
    vx_Run p l e R s m args below meth c H locs cells slots mc ms g rest (Qc (Value.ref b :: As).toArray) XC free := by
  obtain ⟨⟨hrc, hrs, hfr, hlo, hws, hcw⟩, hcode, hini, hy, hlen, hl, hin, hse⟩ := cw
  have hK : vx_Back l R p e below s args y 3 8 (PreOf R mc ms Pc) (PostOf Qc mc ms free) (vx_Post XC mc ms free) := vx_backW (hh := hh) (bytes := bytes) (maxL := maxL) (ret := ret) hM hp.1 hrc hrs hfr hlo hws hcw (fun a' U hW => word_at hW (Or.inl (by first | rfl | simp [Cond.onTables, Cond.keeps, Cond.steady])) hini)
  obtain ⟨hx, hb, hml, ho, -⟩ := S
  obtain ⟨-, ⟨cellB, hcB, hoB, hclB⟩, hPc⟩ := hp
  intro T hT X
  rcases vx_callVX X hx (C := C) (hh := hh) (bytes := bytes) (maxL := maxL) (ret := ret) ho hl hin hse hcode hy hK (by rw [hT]; exact hcB) hoB hclB hg (hsize.trans hml.symm) (argsL := As) (rest := rest) (fun sig h => hn.trans (hlen sig h)) hstack hW (by rw [hb]; exact hdg)
    (fun vm₁ hW₁ => ⟨hf.1, hf.2, hPc (T.setVm vm₁) hT hW₁⟩) with ⟨v, vm₁, ⟨U', l2, c2, s2⟩, hW₁, X', ⟨g', mk, t, L, e1, e2, hq, h1, hL, h2, h3⟩, st⟩ | ⟨q, vm₁, ⟨U', l2, c2, s2⟩, hW₁, X', ⟨g', mk, t, L, E, ce, e1, e2, hq, hce, hcv, hcl, h1, hL, h2, h3⟩, st⟩
  · dsimp only [Pt.U, Pt.locs, Pt.cells, Pt.slots] at X' e1 e2 h1 h2 h3 st
    subst h1; subst h2; subst h3
    exact Or.inl ⟨v, (T.setVm vm₁).calling g' mk (Value.ref b :: As).toArray, t, U', L, hT, X', hL, e1, e2, hq, st⟩
  · dsimp only [Pt.U, Pt.locs, Pt.cells, Pt.slots] at X' e1 e2 h1 h2 h3 st hcl
    subst h1; subst h2; subst h3
    exact Or.inr ⟨q, (T.setVm vm₁).calling g' mk (Value.ref b :: As).toArray, t, U', L, E, ce, hT, X', hL, e1, e2, hq, hce, hcv, vx_cls hW₁ hcl, st⟩
theorem vx_runSX {hh : List (Nat × Nat × Nat × Nat)} (S : CallFix p m c cc nL s args Ts own) (hM : vx_Met l y ws rm Pc Qc XC mc ms free) (cw : vx_CSW R s args own index y bytes maxL ret hh ws rm mc ms n) (hp : PreS s H Pc As)
    (hg : g.method = m) (hn : As.length = n) (hsize : g.locals.size = nL) (hstack : g.stack = As.reverse ++ rest) (hW : 2 * g.monitorRoom + (rest.map fun v => v.category).sum ≤ 8) (hdg : decode cc g.pc = .ok (.invokestatic index, 3)) (hf : cells + mc ≤ R.cells ∧ slots + ms ≤ R.slots) :
    vx_Run p l e R s m args below meth c H locs cells slots mc ms g rest (Qc As.toArray) XC free := by
  obtain ⟨⟨hrc, hrs, hfr, hlo, hws, hcw⟩, hcode, hini, hy, hlen, hl, hstt⟩ := cw
  have hK : vx_Back l R p e below s args y 3 8 (PreOf R mc ms Pc) (PostOf Qc mc ms free) (vx_Post XC mc ms free) := vx_backW (hh := hh) (bytes := bytes) (maxL := maxL) (ret := ret) hM hp.1 hrc hrs hfr hlo hws hcw (fun a' U hW => word_at hW (Or.inl (by first | rfl | simp [Cond.onTables, Cond.keeps, Cond.steady])) hini)
  obtain ⟨hx, hb, hml, ho, -⟩ := S
  intro T hT X
  rcases vx_callSX X hx (hh := hh) (bytes := bytes) (maxL := maxL) (ret := ret) ho hl hstt hini hcode hy hK hg (hsize.trans hml.symm) (argsL := As) (rest := rest) (fun sig h => hn.trans (hlen sig h)) hstack hW (by rw [hb]; exact hdg)
    (fun vm₁ hW₁ => ⟨hf.1, hf.2, hp.2 (T.setVm vm₁) hT hW₁⟩) with ⟨v, vm₁, ⟨U', l2, c2, s2⟩, hW₁, X', ⟨g', mk, t, L, e1, e2, hq, h1, hL, h2, h3⟩, st⟩ | ⟨q, vm₁, ⟨U', l2, c2, s2⟩, hW₁, X', ⟨g', mk, t, L, E, ce, e1, e2, hq, hce, hcv, hcl, h1, hL, h2, h3⟩, st⟩
  · dsimp only [Pt.U, Pt.locs, Pt.cells, Pt.slots] at X' e1 e2 h1 h2 h3 st
    subst h1; subst h2; subst h3
    exact Or.inl ⟨v, (T.setVm vm₁).calling g' mk As.toArray, t, U', L, hT, X', hL, e1, e2, hq, st⟩
  · dsimp only [Pt.U, Pt.locs, Pt.cells, Pt.slots] at X' e1 e2 h1 h2 h3 st hcl
    subst h1; subst h2; subst h3
    exact Or.inr ⟨q, (T.setVm vm₁).calling g' mk As.toArray, t, U', L, E, ce, hT, X', hL, e1, e2, hq, hce, hcv, vx_cls hW₁ hcl, st⟩
end
end VXH
theorem vx_ofWH {l : Launch} {y : MethodName} {ws ws' : List Cond} {rm : Room} {Pc : Array Value → State → Prop} {Qc : Array Value → State → Outcome → State → Prop} {XC : String → State → State → Prop} {mc ms : Nat} {free : Addr → Prop} {cc : ByteArray} {maxL : Nat} {ret : Option FieldType} {hh : List (Nat × Nat × Nat × Nat)}
    (hy : plainName y.cls = true) (hw : ws = Cond.codeWith y cc maxL ret hh :: ws')
    (body : ∀ p e s m args below meth c s₁, BodyLoose p l y (headSpec ws rm) cc maxL ret e s m args below meth c s₁ → c.maxLocals = maxL → Pc args s →
      W p l e (headSpec ws rm).room s m args below meth c s.heap [] 0 0 (vx_MQ below Qc XC args s mc ms free) (entryFrame m args maxL)) : vx_Met l y ws rm Pc Qc XC mc ms free := by
  refine MetFree.of_bodyS (code := cc) (maxLocals := maxL) (ret := ret) hy ?_ ?_
  · intro args s m h hn
    obtain ⟨m9, meth, c, hn9, h1, h2, h3, h4, -, h5, h6, -⟩ := Cond.codeWith_spec (atoms_spec (ws := ws) h _ (by rw [hw]; exact List.mem_cons_self))
    cases hn.symm.trans hn9
    exact ⟨meth, c, h1, h2, h3, h4, h5, h6⟩
  · intro p e s m args below meth c s₁ B hml hP _
    have hh0 : s₁.heap = s.heap := by rw [B.state]; rfl
    obtain ⟨t, a1, o, b1, b2, b3⟩ := body p e s m args below meth c s₁ B hml hP s₁ hh0 (Stand.of_body B)
    exact ⟨t, o, a1, b1, b2, b3⟩
/-! ===== END ===== -/
/-! ===== BEGIN what the machine throws by itself, no traces kept ===== -/
section VXM
set_option maxHeartbeats 1000000 in
/-- the machine throws cls with the message text, no traces kept: from its note over the frame g to 'throwing' over the same frame (follows the proofs of Stand.vmThrowsMessage, Shelf/KitTracedVmS.lean, and Stand.throwsMessageColdBareV, StandMessageColdV.lean, without the step out of the frame) -/
theorem vx_vmAt {p : Program} {l : Launch} {e : Env} {R : Room} {s : State} {m₀ : MethodId} {args : Array Value} {below : List Frame} {meth : Method} {c : Code} {W : State} {locs : List Loc} {cells slots : Nat}
    (X : Stand p l e R s m₀ args below meth c W locs cells slots) (hexec : p.tables.exec = Jvm.exec) (htr : e.platform.stackTraces = false) {cls : String} {names : List String} {text : String}
    (hcls : Bundle.fit cls = true) (hnames : ∀ n ∈ names, Bundle.fit n = true) (hsoe : (cls == "java/lang/StackOverflowError") = false) (hoom : (cls == "java/lang/OutOfMemoryError") = false)
    (h : ∀ a ∈ Bundle.messageArmAtoms cls names, a.before args s = true)
    (hlocs : ∀ x ∈ locs, ∀ cell, s.heap[x.base]? = some cell → cell.vm.isStatics = false)
    (htext : (text == notModelled) = false) (hlimit : ¬ (stringBytes (stringToUtf16 text)).size > e.platform.arrayLengthLimit) (hheap : ¬ (stringBytes (stringToUtf16 text)).size * componentBytes .byte > e.platform.maxHeapBytes)
    {g : JFrame} (hg : g.method = m₀) (hsize : g.locals.size = c.maxLocals)
    (hRframes : names.length + 4 < R.frames) (hRlocals : 2 * g.monitorRoom + (g.stack.map fun v => v.category).sum + 10240 ≤ R.locals) (hshort : 13 * names.length + 55 ≤ 10240)
    (hRcells : cells + 3 ≤ R.cells) (hRslots : slots + ((stringBytes (stringToUtf16 text)).size + 4 + 6) ≤ R.slots) (hlocks : meth.locks = false) :
    ∃ (S : State) (q : Addr) (ce : Cell), (∀ target, Steps p.tables e below ((S.setTop g).pushFrame (.throwing q)) target → Steps p.tables e below ((W.setTop g).pushFrame (.throwNew cls (some text) none)) target) ∧
      Stand p l e R s m₀ args below meth c S locs (cells + 3) (slots + ((stringBytes (stringToUtf16 text)).size + 4 + 6)) ∧ S.heap[q]? = some ce ∧ s.vm.findClass cls = some ce.cls ∧ ce.vm = .none := by
  have howns : e.platform.frameOwnsMonitors = true := by rw [X.admits.platform]
  have hfin : e.platform.finalization = false := by rw [X.admits.platform]
  have hpl : e.platform.magicAccessors = ({} : Platform).magicAccessors := by rw [X.admits.platform]
  have a : ∀ x, x ∈ Bundle.messageArmAtoms cls names → x.holds args s none s [] = true := fun x hx => h x hx
  obtain ⟨T, Z0, L, -, Y⟩ := ThrowableC.of_atoms (args := args) howns hfin hpl (fun x hx => h x (by simp [Bundle.messageArmAtoms, hx]))
  obtain ⟨Z, M, LZ, LM, hnZ⟩ := Init0T.ofS_atoms (args := args) hpl L Y (fun x hx => h x (by simp [Bundle.messageArmAtoms, hx]))
  obtain ⟨P1, Ps, hlen, L1, hL, hP1m, hlink1, hlink⟩ := Bundle.chainS (args := args) hpl hnZ names cls hcls hnames (fun x hx => h x (by simp [Bundle.messageArmAtoms, hx]))
  obtain ⟨Zs, LZs, hn4, hfitv, hfitc⟩ := StringT.of_atoms (args := args) (fun x hx => h x (by simp [Bundle.messageArmAtoms, hx]))
  have hfound : s.vm.findClass cls = some P1.m.cls := findClass_of_methodNamed hP1m
  obtain ⟨c1, kX, hc1, hk, hord, -, -, hn6⟩ := Cond.instantiable_spec (a (.instantiable cls 6) (by simp [Bundle.messageArmAtoms]))
  cases Option.some.inj (hc1.symm.trans hfound)
  have hinit := Cond.initialized_spec hfound hk (a (.initialized cls) (by simp [Bundle.messageArmAtoms]))
  have hctor : kX.findMethod "<init>" "(Ljava/lang/String;)V" = some P1.m.idx := findMethod_of_methodNamed hP1m hk
  have hsel0 : selectMethod e.platform s.vm P1.m.cls T.fill0 = .method T.fill0 := by
    obtain ⟨c2, r2, m2, q1, q2, q3, q4, -⟩ := Cond.selects_spec (a (.selects cls Bundle.tFill0 Bundle.tFill0) (by simp [Bundle.messageArmAtoms]))
    cases Option.some.inj (q1.symm.trans hfound)
    cases Option.some.inj (q2.symm.trans (State.methodFound?_of_named Y.fill0 (by decide)))
    cases Option.some.inj (q3.symm.trans Y.fill0)
    rw [Launch.admits_selectMethod X.admits]; exact q4
  have hselF : selectMethod e.platform s.vm P1.m.cls T.fill = .method T.fill := by
    obtain ⟨c2, r2, m2, q1, q2, q3, q4, -⟩ := Cond.selects_spec (a (.selects cls Bundle.tFill Bundle.tFill) (by simp [Bundle.messageArmAtoms]))
    cases Option.some.inj (q1.symm.trans hfound)
    cases Option.some.inj (q2.symm.trans (State.methodFound?_of_named Y.fill (by decide)))
    cases Option.some.inj (q3.symm.trans Y.fill)
    rw [Launch.admits_selectMethod X.admits]; exact q4
  obtain ⟨cellS0, hcS0, hiss⟩ := Y.statics
  obtain ⟨u0, hu0⟩ := Cond.staticRefV Y.unassigned L.unassignedStatic L.statics hcS0 hiss (a (.isRef (.static Bundle.tN "UNASSIGNED_STACK" Bundle.steD)) (by simp [Bundle.messageArmAtoms]))
  obtain ⟨sen, hsen⟩ := Cond.staticRefV Y.sentinel L.sentinelStatic L.statics hcS0 hiss (a (.isRef (.static Bundle.tN "SUPPRESSED_SENTINEL" Bundle.listD)) (by simp [Bundle.messageArmAtoms]))
  obtain ⟨ci198, i198, fB, hk198, hg198, ha198, hsB, -, hnB, htB, hffB⟩ := Cond.ownField (t := .object "java/lang/Object") Y.found L.cls (by decide +kernel) (a (.fieldLink Bundle.tN 198 Bundle.tN "backtrace" "Ljava/lang/Object;") (by simp [Bundle.messageArmAtoms])) (a (.lays Bundle.tN Bundle.tN "backtrace" "Ljava/lang/Object;") (by simp [Bundle.messageArmAtoms])) e.platform hpl
  obtain ⟨cellS, hcS', heS, -, hkeep⟩ := X.same.2.2.2.2.2 T.aS cellS0 hcS0
  have hcellS : W.heap[T.aS]? = some cellS := hcS'
  have hout' : ∀ i, (⟨T.aS, i⟩ : Loc) ∉ locs := fun i hmem => by
    have := hlocs _ hmem cellS0 hcS0
    rw [hiss] at this; cases this
  have hknownS : cellS.vm ≠ .unknown := by
    rw [heS]; intro hu
    rw [show cellS0.vm = .unknown from hu] at hiss
    cases hiss
  have hvU : cellS.slots[T.fUnassigned.slot]? = some u0.v := by rw [hkeep _ (hout' _)]; exact hu0
  have hvSen : cellS.slots[T.fSentinel.slot]? = some sen.v := by rw [hkeep _ (hout' _)]; exact hsen
  obtain ⟨iM, hffM⟩ := Y.msg
  obtain ⟨tyC, dC, hdC, hdnC⟩ := Cond.laysAt hfound hk Y.cause (a (.lays cls Bundle.tN "cause" "Ljava/lang/Throwable;") (by simp [Bundle.messageArmAtoms]))
  obtain ⟨tyS, dS, hdS, hdnS⟩ := Cond.laysAt hfound hk Y.stack (a (.lays cls Bundle.tN "stackTrace" Bundle.steD) (by simp [Bundle.messageArmAtoms]))
  obtain ⟨tyP, dP, hdP, hdnP⟩ := Cond.laysAt hfound hk Y.supp (a (.lays cls Bundle.tN "suppressedExceptions" Bundle.listD) (by simp [Bundle.messageArmAtoms]))
  obtain ⟨tyM, dM, hdM, hdnM⟩ := Cond.laysAt hfound hk hffM (a (.lays cls Bundle.tN "detailMessage" "Ljava/lang/String;") (by simp [Bundle.messageArmAtoms]))
  obtain ⟨tyB, dB, hdB, hdnB⟩ := Cond.laysAt hfound hk hffB (a (.lays cls Bundle.tN "backtrace" "Ljava/lang/Object;") (by simp [Bundle.messageArmAtoms]))
  have bC := Cond.laysApart hdB hdC hdnB hdnC (by rw [hnB, Y.causeName]; decide)
  have bS := Cond.laysApart hdB hdS hdnB hdnS (by rw [hnB, Y.stackName]; decide)
  have bP := Cond.laysApart hdB hdP hdnB hdnP (by rw [hnB, Y.suppName]; decide)
  have hbk : ((preparedCellV T.toThrowableT (freshCell P1.m.cls kX) (W.heap.size + 2) u0 sen).withEntry W.cur).slots[fB.slot]? = some .null := by
    have := fresh_default (c := P1.m.cls) tyB
    rw [htB] at this
    simpa [preparedCellV, Cell.setSlot, Cell.withEntry, Array.getElem?_setIfInBounds, bC, bS, bP, bC.symm, bS.symm, bP.symm, defaultValue] using this
  have tkC := Takes.of_laid (v := .ref (W.heap.size + 2)) hk hord tyC (by rw [Y.causeType]; rfl)
  have tkS := Takes.of_laid (v := u0.v) hk hord tyS (by rw [Y.stackType]; exact fits_refV_array _ u0)
  have tkP := Takes.of_laid (v := sen.v) hk hord tyP (by rw [Y.suppType]; exact fits_refV_object _ sen)
  have tkM := Takes.of_laid (v := .ref (W.heap.size + 1)) hk hord tyM (by rw [Y.msgType]; rfl)
  have hskip : SkipFacts T e.platform s (fun u => u) u0 ((preparedCellV T.toThrowableT (freshCell P1.m.cls kX) (W.heap.size + 2) u0 sen).withEntry W.cur) := ⟨{ ci198 := ci198, i198 := i198, fBack := fB }, ⟨hk198, hg198, ha198, hsB⟩, hbk, fun _ _ => rfl⟩
  have h0 : At W g.method c below := by rw [hg]; exact X.here
  obtain ⟨hbeyond, hfreeW⟩ := X.vmMayThrow hsize (.throwNew cls (some text) none) (fun f hf => by cases hf) rfl hRlocals
  have hfr' : W.frames.length + Ps.length + 4 < (e.platform.stackLimits W.me).1 := by have := X.framesAbove hRframes; omega
  have hwd' : (stackUse (.java g :: W.frames.tail)).2 + 13 * Ps.length + 55 ≤ (e.platform.stackLimits W.me).2 := by have := X.stackAbove hsize (K := 13 * Ps.length + 55) (by omega); omega
  have hslots : W.slotsUsed + (stringBytes (stringToUtf16 text)).size + Zs.kS.instanceTypes.size + kX.instanceTypes.size ≤ e.platform.maxSlots := by
    have := X.slotsAbove hRslots
    rw [hn4, hn6]
    omega
  obtain ⟨vm', hW', st⟩ := Steps.vmThrowsMessageColdByV p (s₀ := s) (S := W) (g := g) h0 hexec T L Z LZ M LM X.warmed (t := W.cur) rfl Zs LZs P1 L1 Ps hL hlink1 hlink hsoe hoom hfound hk hinit hord hctor
    (Launch.admits_hotImplicitExceptions X.admits) hbeyond hfreeW htext hlimit hheap (X.cellsAbove hRcells) hslots (hfitv _) (hfitc _)
    (Nn := fun u => u) heapOnly_id (fun _ _ => rfl) (fun _ => rfl) (fun u x y => setCell_twice _ _ _ _) (fun _ => Nat.le_refl _) (cN := ((preparedCellV T.toThrowableT (freshCell P1.m.cls kX) (W.heap.size + 2) u0 sen).withEntry W.cur))
    hsel0 hcellS hknownS hvU tkS (fun _ hu => hu) (fun _ hu => hu) rfl rfl rfl (by simp [preparedCellV, Cell.setSlot, Cell.withEntry]) hskip (fun _ _ hA hW _ hroom _ hrest => L.nativeOff p htr hA hW hroom hrest) hselF hvSen tkC tkP tkM Y.objLocals rfl hfr' hwd'
  rw [plainBareV_eq T.toThrowableT (W.heap.size + 2) u0 sen (.ref (W.heap.size + 1)) W.cur rfl rfl] at st
  obtain ⟨-, -, w3, w4, -, -, -⟩ := withThrown_facts e.platform W Zs text P1.m.cls kX
  have X3 := ((X.pushed (bytesOf Zs.cB (stringToUtf16 text))).pushed (stringAt Zs.cS Zs.kS Zs.fv Zs.fc (stringToUtf16 text) W.heap.size)).pushed (freshCell P1.m.cls kX)
  rw [← withString_eq] at X3
  have X4 := X3.noted hW'
  have ha : (W.heap.size + 2) < ((withThrown W Zs text P1.m.cls kX).setVm vm').heap.size := by show _ < (withThrown W Zs text P1.m.cls kX).heap.size; rw [w3]; omega
  have hcell : ((withThrown W Zs text P1.m.cls kX).setVm vm').heap[(W.heap.size + 2)]? = some (freshCell P1.m.cls kX) := w4
  have X5 := ((((X4.stored hcell T.fCause.slot (.ref (W.heap.size + 2))).storedAgain ha T.fStack.slot u0.v).storedAgain ha T.fSupp.slot sen.v).storedAgain ha T.fStack.slot u0.v).storedAgain ha T.fMsg.slot (.ref (W.heap.size + 1))
  obtain ⟨g₁, hfrM⟩ := X5.frames_eq
  have hU : ((((withThrown W Zs text P1.m.cls kX).setVm vm').setCell (W.heap.size + 2) (plainBareV T.toThrowableT (freshCell P1.m.cls kX) (W.heap.size + 2) u0 sen (.ref (W.heap.size + 1)))).setTop g).pushFrame (.throwing (W.heap.size + 2)) = (((withThrown W Zs text P1.m.cls kX).setVm vm').setCell (W.heap.size + 2) (plainBareV T.toThrowableT (freshCell P1.m.cls kX) (W.heap.size + 2) u0 sen (.ref (W.heap.size + 1)))).setFrames (.throwing (W.heap.size + 2) :: .java g :: below) := by
    rw [State.pushFrame, State.frames_setTop _ hfrM, State.setTop_of_frames _ hfrM, State.setFrames_setFrames]
  have b1 : (bytesOf Zs.cB (stringToUtf16 text)).slots.size = (stringBytes (stringToUtf16 text)).size := by
    rw [(Cell.writeAll_facts _ _).2.2]; simp [bytes0]
  have b2 : (stringAt Zs.cS Zs.kS Zs.fv Zs.fc (stringToUtf16 text) W.heap.size).slots.size = 4 := by simp [string0, Cell.setSlot, hn4]
  have b3 : (freshCell P1.m.cls kX).slots.size = 6 := by simp [hn6]
  rw [b1, b2, b3] at X5
  have e9 : slots + (stringBytes (stringToUtf16 text)).size + 4 + 6 = slots + ((stringBytes (stringToUtf16 text)).size + 4 + 6) := by omega
  rw [e9] at X5
  simp only [List.append_assoc, List.cons_append, List.nil_append] at X5
  refine ⟨((withThrown W Zs text P1.m.cls kX).setVm vm').setCell (W.heap.size + 2) (plainBareV T.toThrowableT (freshCell P1.m.cls kX) (W.heap.size + 2) u0 sen (.ref (W.heap.size + 1))), W.heap.size + 2, _, fun target ht => st _ (by rw [X.tail, ← hU]; exact ht),
    X5.forget (fun y hy => ?_), heapAt_setCell_self _ ha, hfound, rfl⟩
  simp only [List.mem_cons, List.not_mem_nil, or_false] at hy
  have hge : s.heap.size ≤ W.heap.size := X.same.2.1
  rcases hy with rfl | rfl | rfl | rfl | rfl <;> exact Nat.le_trans hge (Nat.le_add_right _ 2)
set_option maxHeartbeats 1000000 in
/-- the machine throws NullPointerException, no traces kept: from its note over the frame g to 'throwing' over the same frame (follows the proof of Stand.vmThrowsNpe, Shelf42/KT2.lean; throwsNpeColdBareVAt, Shelf42/NT91.lean, called) -/
theorem vx_npeAt {p : Program} {l : Launch} {e : Env} {R : Room} {s : State} {m₀ : MethodId} {args : Array Value} {below : List Frame} {meth : Method} {c : Code} {W : State} {locs : List Loc} {cells slots : Nat}
    (X : Stand p l e R s m₀ args below meth c W locs cells slots) (hexec : p.tables.exec = Jvm.exec) (htr : e.platform.stackTraces = false) {n : Nat}
    (h : ∀ a ∈ Bundle.npeArmAtoms n, a.before args s = true)
    (hlocs : ∀ x ∈ locs, ∀ cell, s.heap[x.base]? = some cell → cell.vm.isStatics = false)
    {g : JFrame} (hg : g.method = m₀) (hsize : g.locals.size = c.maxLocals)
    (hRframes : 7 < R.frames) (hRlocals : 2 * g.monitorRoom + (g.stack.map fun v => v.category).sum + 10240 ≤ R.locals)
    (hRcells : cells + 1 ≤ R.cells) (hRslots : slots + n ≤ R.slots) (hlocks : meth.locks = false) :
    ∃ (S : State) (q : Addr) (ce : Cell), (∀ target, Steps p.tables e below ((S.setTop g).pushFrame (.throwing q)) target → Steps p.tables e below ((W.setTop g).pushFrame (.throwNew "java/lang/NullPointerException" none none)) target) ∧
      Stand p l e R s m₀ args below meth c S locs (cells + 1) (slots + n) ∧ S.heap[q]? = some ce ∧ s.vm.findClass "java/lang/NullPointerException" = some ce.cls ∧ ce.vm = .none := by
  have howns : e.platform.frameOwnsMonitors = true := by rw [X.admits.platform]
  have hfin : e.platform.finalization = false := by rw [X.admits.platform]
  have hpl : e.platform.magicAccessors = ({} : Platform).magicAccessors := by rw [X.admits.platform]
  have hpl2 : e.platform.arrayCloneIsPublic = true := by rw [X.admits.platform]
  have a' : ∀ x, x ∈ Bundle.npeArmAtoms n → x.holds args s none s [] = true := fun x hx => h x hx
  obtain ⟨T, Z, L, LZ, Y⟩ := ThrowableC.of_atoms (args := args) howns hfin hpl (fun x hx => h x (by simp [Bundle.npeArmAtoms, hx]))
  obtain ⟨N, LN, hcN, hnNF, hordN, hffS⟩ := NpeC.of_atoms (args := args) hpl hpl2 L Y (fun x hx => h x (by simp [Bundle.npeArmAtoms, hx]))
  obtain ⟨P1, L1, hP1m, hP1s⟩ := PassC.of_atoms (args := args) (s := s) hpl (X := Bundle.nN) (Y := Bundle.rN) (by decide) (by decide) LibCode.NullPointerException.Init0.at_0 LibCode.NullPointerException.Init0.at_1 LibCode.NullPointerException.Init0.at_4 (fun x hx => h x (by simp [Bundle.npeArmAtoms, hx]))
  obtain ⟨PR, LR, hPRm, hPRs⟩ := PassC.of_atoms (args := args) (s := s) hpl (X := Bundle.rN) (Y := Bundle.eN) (by decide) (by decide) LibCode.RuntimeException.Init0.at_0 LibCode.RuntimeException.Init0.at_1 LibCode.RuntimeException.Init0.at_4 (fun x hx => h x (by simp [Bundle.npeArmAtoms, hx]))
  obtain ⟨PE, LEx, hPEm, hPEs⟩ := PassC.of_atoms (args := args) (s := s) hpl (X := Bundle.eN) (Y := Bundle.tN) (by decide) (by decide) LibCode.Exception.Init0.at_0 LibCode.Exception.Init0.at_1 LibCode.Exception.Init0.at_4 (fun x hx => h x (by simp [Bundle.npeArmAtoms, hx]))
  have hfound : s.vm.findClass Bundle.nN = some P1.m.cls := findClass_of_methodNamed hP1m
  have ecls : N.cN = P1.m.cls := Option.some.inj (hcN.symm.trans hfound)
  have hk : s.vm.classes[P1.m.cls]? = some N.kN := by rw [← ecls]; exact LN.cls
  have hinit := Cond.initialized_spec hfound hk (a' (.initialized Bundle.nN) (by simp [Bundle.npeArmAtoms]))
  have hctor : N.kN.findMethod "<init>" "()V" = some P1.m.idx := findMethod_of_methodNamed hP1m hk
  obtain ⟨c1, k1, hc1, hk1, -, -, -, hn⟩ := Cond.instantiable_spec (a' (.instantiable Bundle.nN n) (by simp [Bundle.npeArmAtoms]))
  cases Option.some.inj (hc1.symm.trans hfound)
  cases Option.some.inj (hk1.symm.trans hk)
  have hfsz : (freshCell P1.m.cls N.kN).slots.size = n := by simp [hn]
  have hlink1 : P1.sup = PR.m := Option.some.inj (hP1s.symm.trans hPRm)
  have hlinkR : PR.sup = PE.m := Option.some.inj (hPRs.symm.trans hPEm)
  have hlinkE : PE.sup = Z.m T.toThrowableT := Option.some.inj (hPEs.symm.trans Y.init0)
  have hLs : ∀ P, P ∈ [PR, PE] → P.Links0 e.platform s := fun P hP => by
    simp only [List.mem_cons, List.not_mem_nil, or_false] at hP
    rcases hP with rfl | rfl
    · exact LR
    · exact LEx
  have hsel0 : selectMethod e.platform s.vm P1.m.cls T.fill0 = .method T.fill0 := by
    obtain ⟨c2, r2, m2, q1, q2, q3, q4, -⟩ := Cond.selects_spec (a' (.selects Bundle.nN Bundle.tFill0 Bundle.tFill0) (by simp [Bundle.npeArmAtoms]))
    cases Option.some.inj (q1.symm.trans hfound)
    cases Option.some.inj (q2.symm.trans (State.methodFound?_of_named Y.fill0 (by decide)))
    cases Option.some.inj (q3.symm.trans Y.fill0)
    rw [Launch.admits_selectMethod X.admits]; exact q4
  have hselF : selectMethod e.platform s.vm P1.m.cls T.fill = .method N.fill := by
    obtain ⟨c2, r2, m2, q1, q2, q3, q4, -⟩ := Cond.selects_spec (a' (.selects Bundle.nN Bundle.tFill Bundle.nFill) (by simp [Bundle.npeArmAtoms]))
    cases Option.some.inj (q1.symm.trans hfound)
    cases Option.some.inj (q2.symm.trans (State.methodFound?_of_named Y.fill (by decide)))
    cases Option.some.inj (q3.symm.trans hnNF)
    rw [Launch.admits_selectMethod X.admits]; exact q4
  obtain ⟨cellS0, hcS0, hiss⟩ := Y.statics
  obtain ⟨u0, hu0⟩ := Cond.staticRefV Y.unassigned L.unassignedStatic L.statics hcS0 hiss (a' (.isRef (.static Bundle.tN "UNASSIGNED_STACK" Bundle.steD)) (by simp [Bundle.npeArmAtoms]))
  obtain ⟨sen, hsen⟩ := Cond.staticRefV Y.sentinel L.sentinelStatic L.statics hcS0 hiss (a' (.isRef (.static Bundle.tN "SUPPRESSED_SENTINEL" Bundle.listD)) (by simp [Bundle.npeArmAtoms]))
  obtain ⟨ci198, i198, fB, hk198, hg198, ha198, hsB, -, hnB, htB, hffB⟩ := Cond.ownField (t := .object "java/lang/Object") Y.found L.cls (by decide +kernel) (a' (.fieldLink Bundle.tN 198 Bundle.tN "backtrace" Bundle.objD) (by simp [Bundle.npeArmAtoms])) (a' (.lays Bundle.tN Bundle.tN "backtrace" Bundle.objD) (by simp [Bundle.npeArmAtoms])) e.platform hpl
  obtain ⟨cellS, hcS', heS, -, hkeep⟩ := X.same.2.2.2.2.2 T.aS cellS0 hcS0
  have hcellS : W.heap[T.aS]? = some cellS := hcS'
  have hout' : ∀ i, (⟨T.aS, i⟩ : Loc) ∉ locs := fun i hmem => by
    have := hlocs _ hmem cellS0 hcS0
    rw [hiss] at this; cases this
  have hknownS : cellS.vm ≠ .unknown := by
    rw [heS]; intro hu
    rw [show cellS0.vm = .unknown from hu] at hiss
    cases hiss
  have hvU : cellS.slots[T.fUnassigned.slot]? = some u0.v := by rw [hkeep _ (hout' _)]; exact hu0
  have hvSen : cellS.slots[T.fSentinel.slot]? = some sen.v := by rw [hkeep _ (hout' _)]; exact hsen
  obtain ⟨tyC, dC, hdC, hdnC⟩ := Cond.laysAt hfound hk Y.cause (a' (.lays Bundle.nN Bundle.tN "cause" "Ljava/lang/Throwable;") (by simp [Bundle.npeArmAtoms]))
  obtain ⟨tyS, dS, hdS, hdnS⟩ := Cond.laysAt hfound hk Y.stack (a' (.lays Bundle.nN Bundle.tN "stackTrace" Bundle.steD) (by simp [Bundle.npeArmAtoms]))
  obtain ⟨tyP, dP, hdP, hdnP⟩ := Cond.laysAt hfound hk Y.supp (a' (.lays Bundle.nN Bundle.tN "suppressedExceptions" Bundle.listD) (by simp [Bundle.npeArmAtoms]))
  obtain ⟨tyX, dX, hdX, hdnX⟩ := Cond.laysAt hfound hk hffS (a' (.lays Bundle.nN Bundle.nN "extendedMessageState" "I") (by simp [Bundle.npeArmAtoms, Bundle.npeAtoms]))
  obtain ⟨hnX, htX⟩ := State.fieldFound?_type hffS (t := .int) (by decide +kernel)
  have xC := Cond.laysApart hdC hdX hdnC hdnX (by rw [hnX, Y.causeName]; decide)
  have xS := Cond.laysApart hdS hdX hdnS hdnX (by rw [hnX, Y.stackName]; decide)
  have xP := Cond.laysApart hdP hdX hdnP hdnX (by rw [hnX, Y.suppName]; decide)
  have hv0 : (freshCell P1.m.cls N.kN).slots[N.fState.slot]? = some (.int 0) := by
    have := fresh_default (c := P1.m.cls) tyX
    rw [htX] at this; exact this
  obtain ⟨tyB, dB, hdB, hdnB⟩ := Cond.laysAt hfound hk hffB (a' (.lays Bundle.nN Bundle.tN "backtrace" Bundle.objD) (by simp [Bundle.npeArmAtoms]))
  have bC := Cond.laysApart hdB hdC hdnB hdnC (by rw [hnB, Y.causeName]; decide)
  have bS := Cond.laysApart hdB hdS hdnB hdnS (by rw [hnB, Y.stackName]; decide)
  have bP := Cond.laysApart hdB hdP hdnB hdnP (by rw [hnB, Y.suppName]; decide)
  have bX := Cond.laysApart hdB hdX hdnB hdnX (by rw [hnB, hnX]; decide)
  have hbk : ((npeCell N.toNpeT (preparedCellV T.toThrowableT (freshCell P1.m.cls N.kN) W.heap.size u0 sen) W.cur).withEntry W.cur).slots[fB.slot]? = some .null := by
    have := fresh_default (c := P1.m.cls) tyB
    rw [htB] at this
    simpa [npeCell, preparedCellV, Cell.setSlot, Cell.withEntry, Array.getElem?_setIfInBounds, bC, bS, bP, bX, bC.symm, bS.symm, bP.symm, bX.symm, defaultValue] using this
  have tkC := Takes.of_laid (v := .ref W.heap.size) hk hordN tyC (by rw [Y.causeType]; rfl)
  have tkS := Takes.of_laid (v := u0.v) hk hordN tyS (by rw [Y.stackType]; exact fits_refV_array _ u0)
  have tkP := Takes.of_laid (v := sen.v) hk hordN tyP (by rw [Y.suppType]; exact fits_refV_object _ sen)
  have tkX := Takes.of_laid (v := .int 1) hk hordN tyX (by rw [htX]; rfl)
  have hskip : SkipFacts T e.platform s (fun u => u) u0 ((npeCell N.toNpeT (preparedCellV T.toThrowableT (freshCell P1.m.cls N.kN) W.heap.size u0 sen) W.cur).withEntry W.cur) := ⟨{ ci198 := ci198, i198 := i198, fBack := fB }, ⟨hk198, hg198, ha198, hsB⟩, hbk, fun _ _ => rfl⟩
  obtain ⟨vm', X3, st, -⟩ := X.throwsNpeColdBareVAt hexec hg hsize T L Z LZ N LN P1 L1 [PR, PE] hLs hlink1 ⟨hlinkR, hlinkE, trivial⟩ hfound hk hinit hordN hctor hsel0 hselF hcellS hknownS hvU hvSen
    hv0 xC xS xP tkC tkS tkP tkX Y.objLocals hskip (fun _ _ hA hW _ hroom _ hrest => L.nativeOff p htr hA hW hroom hrest) (by simpa using hRframes) hRlocals (by simp) hRcells (by rw [hn]; exact hRslots)
  have hlt : W.heap.size < ((W.pushCell (freshCell P1.m.cls N.kN)).setVm vm').heap.size := by
    show W.heap.size < (W.pushCell (freshCell P1.m.cls N.kN)).heap.size
    rw [State.heap_size_pushCell]; omega
  rw [hfsz] at X3
  obtain ⟨g₁, hfrM⟩ := X3.frames_eq
  have hU : ((((W.pushCell (freshCell P1.m.cls N.kN)).setVm vm').setCell W.heap.size (npeBareV T.toThrowableT N.toNpeT (freshCell P1.m.cls N.kN) W.heap.size u0 sen)).setTop g).pushFrame (.throwing W.heap.size) = (((W.pushCell (freshCell P1.m.cls N.kN)).setVm vm').setCell W.heap.size (npeBareV T.toThrowableT N.toNpeT (freshCell P1.m.cls N.kN) W.heap.size u0 sen)).setFrames (.throwing W.heap.size :: .java g :: below) := by
    rw [State.pushFrame, State.frames_setTop _ hfrM, State.setTop_of_frames _ hfrM, State.setFrames_setFrames]
  refine ⟨_, W.heap.size, _, fun target ht => st.trans (by rw [← hU]; exact ht), X3.forget (fun y hy => ?_), heapAt_setCell_self _ hlt, hfound, rfl⟩
  simp only [List.mem_cons, List.not_mem_nil, or_false] at hy
  have hge : s.heap.size ≤ W.heap.size := X.same.2.1
  rcases hy with rfl | rfl | rfl | rfl | rfl <;> exact hge
/-- the words of a machine's NullPointerException, but the four that speak of the heap -/
def vx_atN (n : Nat) : List Cond := (Bundle.npeArmAtoms n).filter vx_no
/-- the words of a machine's throw with a message, but the four that speak of the heap -/
def vx_atM (X : String) (names : List String) : List Cond := (Bundle.messageArmAtoms X names).filter vx_no
section
variable {p : Program} {l : Launch} {e : Env} {R : Room} {s : State} {m : MethodId} {args : Array Value} {below : List Frame} {meth : Method} {c : Code} {H : Heap} {locs : List Loc} {cells slots : Nat}
/-- a frame seen from a rebased start, seen from the first start again -/
theorem vx_back9 {T S : State} {R' : Room} {k n : Nat} (X : Stand p l e R s m args below meth c T locs cells slots) (Y : Stand p l e R' ((T.setVm s.vm).setFrames (.invoking m args :: below)) m args below meth c T [] 0 0) (Z : Stand p l e R' ((T.setVm s.vm).setFrames (.invoking m args :: below)) m args below meth c S [] k n) :
    Stand p l e R s m args below meth c S locs (cells + k) (slots + n) := by
  have hW0 : s.WarmedH ((T.setVm s.vm).setFrames (.invoking m args :: below)).vm := State.WarmedH.refl s
  refine { admits := X.admits, cas := X.cas, clock := X.clock, frames := X.frames, room := X.room, hears := X.hears, method := X.method, code := X.code, here := Z.here, tail := Z.tail, warmed := State.WarmedH.trans hW0 Z.warmed, limits := Z.limits.trans (Y.limits.symm.trans X.limits), bytes := Z.bytes.trans (Y.bytes.symm.trans X.bytes), same := ?_ }
  obtain ⟨e1, e2⟩ := Z.same
  rw [State.setFrames_setFrames] at e1
  have h2 : (T.setVm s.vm).sameButNew (S.setVm s.vm) [] k n := ⟨e1, e2⟩
  have h3 := X.same.trans h2
  rw [List.append_nil] at h3
  exact h3
/-- from the machine's note that E is thrown here with this text -/
def vx_Note (p : Program) (l : Launch) (e : Env) (R : Room) (s : State) (m : MethodId) (args : Array Value) (below : List Frame) (meth : Method) (c : Code) (H : Heap) (locs : List Loc) (cells slots : Nat) (Q : State → Prop) (g : JFrame) (E text : String) : Prop :=
  ∀ T : State, T.heap = H → Stand p l e R s m args below meth c T locs cells slots → ∃ t, Steps p.tables e below ((T.setTop g).pushFrame (.throwNew E (some text) none)) t ∧ Q t
theorem vx_vm {pc : Nat} {ls : Array Slot} {rest : List Value} {Q : State → Prop} (hexec : p.tables.exec = Jvm.exec) (hl : l.stackTraces = false) {cls text : String} {names : List String} {nb : Nat} {A : Nat → Prop}
    (hcls : Bundle.fit cls = true) (hnames : ∀ n ∈ names, Bundle.fit n = true) (hsoe : (cls == "java/lang/StackOverflowError") = false) (hoom : (cls == "java/lang/OutOfMemoryError") = false)
    (hat : ∀ w ∈ vx_atM cls names, w.before args s = true) (hgood : ∀ w ∈ vx_atM cls names, vx_ot w = true)
    (hU : vx_Zq Bundle.tN "UNASSIGNED_STACK" Bundle.steD A s s.heap) (hN : vx_Zq Bundle.tN "SUPPRESSED_SENTINEL" Bundle.listD A s s.heap) (hS : va_S A s.heap H locs) (hsize : ls.size = c.maxLocals)
    (htext : (text == notModelled) = false) (hnb : (stringBytes (stringToUtf16 text)).size ≤ nb) (hnb1 : nb ≤ 1000)
    (hRframes : names.length + 4 < R.frames) (hRlocals : (rest.map fun v => v.category).sum + 10240 ≤ R.locals) (hshort : 13 * names.length + 55 ≤ 10240) (hRcells : cells + 3 ≤ R.cells) (hRslots : slots + (nb + 10) ≤ R.slots) (hlocks : meth.locks = false)
    (k : ∀ (H1 : Heap) (q9 : Addr) (ce : Cell), H.size ≤ H1.size → (∀ q : Nat, q < H.size → H1[q]? = H[q]?) → va_S A s.heap H1 locs → H1[q9]? = some ce → ce.vm = .none → s.vm.findClass cls = some ce.cls → vx_W p l e R s m args below meth c H1 locs (cells + 3) (slots + (nb + 10)) Q (F0 m pc ls rest) q9) :
    vx_Note p l e R s m args below meth c H locs cells slots Q (F0 m pc ls rest) cls text := by
  intro T hT X
  have htr : e.platform.stackTraces = false := (show e.platform.stackTraces = l.stackTraces by rw [X.admits.platform]).trans hl
  have Y := vx_rebase X (R' := { frames := R.frames, locals := R.locals, cells := 3, slots := nb + 10 }) (Nat.le_refl _) (Nat.le_refl _) hRcells hRslots
  have hhp : ((T.setVm s.vm).setFrames (.invoking m args :: below)).heap = H := hT
  have hW0 : s.WarmedH ((T.setVm s.vm).setFrames (.invoking m args :: below)).vm := State.WarmedH.refl s
  have hat' : ∀ w ∈ vx_atM cls names, w.before args ((T.setVm s.vm).setFrames (.invoking m args :: below)) = true := fun w hw => vx_ot_at hW0 rfl (hgood w hw) (hat w hw)
  have hU' : vx_Zq Bundle.tN "UNASSIGNED_STACK" Bundle.steD A ((T.setVm s.vm).setFrames (.invoking m args :: below)) ((T.setVm s.vm).setFrames (.invoking m args :: below)).heap := by rw [hhp]; exact vx_Zq.moved hW0.alike (hU.kept hS.2.1)
  have hN' : vx_Zq Bundle.tN "SUPPRESSED_SENTINEL" Bundle.listD A ((T.setVm s.vm).setFrames (.invoking m args :: below)) ((T.setVm s.vm).setFrames (.invoking m args :: below)).heap := by rw [hhp]; exact vx_Zq.moved hW0.alike (hN.kept hS.2.1)
  obtain ⟨S, q, ce, st, Z, hce, hcl', hv⟩ := vx_vmAt Y hexec htr (cls := cls) (names := names) (text := text) hcls hnames hsoe hoom (vx_own hat' (vx_isRefq hU'.1) (vx_isRefq hN'.1) hU'.2.word hN'.2.word) (fun x hx => nomatch hx) htext
    (by rw [Launch.admits_arrayLengthLimit X.admits]; omega) (by rw [Launch.admits_maxHeapBytes X.admits]; simp only [componentBytes]; omega)
    (g := F0 m pc ls rest) rfl hsize hRframes (by show 2 * 0 + (rest.map fun v => v.category).sum + 10240 ≤ R.locals; omega) hshort (by show 0 + 3 ≤ 3; omega) (by show 0 + (_ + 4 + 6) ≤ nb + 10; omega) hlocks
  obtain ⟨f1, f2⟩ := vx_frame Z.same
  have f1' : H.size ≤ S.heap.size := by rw [← hT]; exact f1
  have f2' : ∀ q : Nat, q < H.size → S.heap[q]? = H[q]? := fun q hq => by
    rw [← hT]
    exact f2 q (by rw [← hT] at hq; exact hq) (fun z hz => nomatch hz)
  have X5 := vx_back9 X Y Z
  have X6 : Stand p l e R s m args below meth c S locs (cells + 3) (slots + (nb + 10)) := { X5 with same := X5.same.mono (by omega) (by omega) }
  obtain ⟨t, a1, b1⟩ := k S.heap q ce f1' f2' ⟨Nat.le_trans hS.1 f1', fun q h1 h2 => (f2' q (Nat.lt_of_lt_of_le h1 hS.1)).trans (hS.2.1 q h1 h2), hS.2.2⟩ hce hv hcl' S rfl X6
  exact ⟨t, st t a1, b1⟩
/-- from the machine's note that NullPointerException is thrown here -/
def vx_NoteN (p : Program) (l : Launch) (e : Env) (R : Room) (s : State) (m : MethodId) (args : Array Value) (below : List Frame) (meth : Method) (c : Code) (H : Heap) (locs : List Loc) (cells slots : Nat) (Q : State → Prop) (g : JFrame) : Prop :=
  ∀ T : State, T.heap = H → Stand p l e R s m args below meth c T locs cells slots → ∃ t, Steps p.tables e below ((T.setTop g).pushFrame (.throwNew "java/lang/NullPointerException" none none)) t ∧ Q t
theorem vx_npe {pc : Nat} {ls : Array Slot} {rest : List Value} {Q : State → Prop} (hexec : p.tables.exec = Jvm.exec) (hl : l.stackTraces = false) {nb : Nat} {A : Nat → Prop}
    (hat : ∀ w ∈ vx_atN nb, w.before args s = true) (hgood : ∀ w ∈ vx_atN nb, vx_ot w = true)
    (hU : vx_Zq Bundle.tN "UNASSIGNED_STACK" Bundle.steD A s s.heap) (hN : vx_Zq Bundle.tN "SUPPRESSED_SENTINEL" Bundle.listD A s s.heap) (hS : va_S A s.heap H locs) (hsize : ls.size = c.maxLocals)
    (hRframes : 7 < R.frames) (hRlocals : (rest.map fun v => v.category).sum + 10240 ≤ R.locals) (hRcells : cells + 1 ≤ R.cells) (hRslots : slots + nb ≤ R.slots) (hlocks : meth.locks = false)
    (k : ∀ (H1 : Heap) (q9 : Addr) (ce : Cell), H.size ≤ H1.size → (∀ q : Nat, q < H.size → H1[q]? = H[q]?) → va_S A s.heap H1 locs → H1[q9]? = some ce → ce.vm = .none → s.vm.findClass "java/lang/NullPointerException" = some ce.cls → vx_W p l e R s m args below meth c H1 locs (cells + 1) (slots + nb) Q (F0 m pc ls rest) q9) :
    vx_NoteN p l e R s m args below meth c H locs cells slots Q (F0 m pc ls rest) := by
  intro T hT X
  have htr : e.platform.stackTraces = false := (show e.platform.stackTraces = l.stackTraces by rw [X.admits.platform]).trans hl
  have Y := vx_rebase X (R' := { frames := R.frames, locals := R.locals, cells := 1, slots := nb }) (Nat.le_refl _) (Nat.le_refl _) hRcells hRslots
  have hhp : ((T.setVm s.vm).setFrames (.invoking m args :: below)).heap = H := hT
  have hW0 : s.WarmedH ((T.setVm s.vm).setFrames (.invoking m args :: below)).vm := State.WarmedH.refl s
  have hat' : ∀ w ∈ vx_atN nb, w.before args ((T.setVm s.vm).setFrames (.invoking m args :: below)) = true := fun w hw => vx_ot_at hW0 rfl (hgood w hw) (hat w hw)
  have hU' : vx_Zq Bundle.tN "UNASSIGNED_STACK" Bundle.steD A ((T.setVm s.vm).setFrames (.invoking m args :: below)) ((T.setVm s.vm).setFrames (.invoking m args :: below)).heap := by rw [hhp]; exact vx_Zq.moved hW0.alike (hU.kept hS.2.1)
  have hN' : vx_Zq Bundle.tN "SUPPRESSED_SENTINEL" Bundle.listD A ((T.setVm s.vm).setFrames (.invoking m args :: below)) ((T.setVm s.vm).setFrames (.invoking m args :: below)).heap := by rw [hhp]; exact vx_Zq.moved hW0.alike (hN.kept hS.2.1)
  obtain ⟨S, q, ce, st, Z, hce, hcl', hv⟩ := vx_npeAt Y hexec htr (n := nb) (vx_own hat' (vx_isRefq hU'.1) (vx_isRefq hN'.1) hU'.2.word hN'.2.word) (fun x hx => nomatch hx)
    (g := F0 m pc ls rest) rfl hsize hRframes (by show 2 * 0 + (rest.map fun v => v.category).sum + 10240 ≤ R.locals; omega) (by show 0 + 1 ≤ 1; omega) (by show 0 + nb ≤ nb; omega) hlocks
  obtain ⟨f1, f2⟩ := vx_frame Z.same
  have f1' : H.size ≤ S.heap.size := by rw [← hT]; exact f1
  have f2' : ∀ q : Nat, q < H.size → S.heap[q]? = H[q]? := fun q hq => by
    rw [← hT]
    exact f2 q (by rw [← hT] at hq; exact hq) (fun z hz => nomatch hz)
  have X5 := vx_back9 X Y Z
  have X6 : Stand p l e R s m args below meth c S locs (cells + 1) (slots + nb) := { X5 with same := X5.same.mono (by omega) (by omega) }
  obtain ⟨t, a1, b1⟩ := k S.heap q ce f1' f2' ⟨Nat.le_trans hS.1 f1', fun q h1 h2 => (f2' q (Nat.lt_of_lt_of_le h1 hS.1)).trans (hS.2.1 q h1 h2), hS.2.2⟩ hce hv hcl' S rfl X6
  exact ⟨t, st t a1, b1⟩
variable {Q : State → Prop} {cc : ByteArray} {pc : Nat} {ls : Array Slot} {rest : List Value}
theorem vx_idivZ (hexec : p.tables.exec = Jvm.exec) (hb : c.code = cc) {a b : Int32} (h0 : b = 0) (d : decode cc pc = .ok (.idiv, 1)) (k : vx_Note p l e R s m args below meth c H locs cells slots Q (F0 m pc ls rest) "java/lang/ArithmeticException" "/ by zero") :
    W p l e R s m args below meth c H locs cells slots Q (F0 m pc ls (.int b :: .int a :: rest)) := by
  intro T hT X
  obtain ⟨t, st, q⟩ := k T hT X
  exact ⟨t, X.idivZero hexec (g := F0 m pc ls (.int b :: .int a :: rest)) rfl (a := a) (rest := rest) (by rw [h0]) (by rw [hb]; exact d) t st, q⟩
theorem vx_iremZ (hexec : p.tables.exec = Jvm.exec) (hb : c.code = cc) {a b : Int32} (h0 : b = 0) (d : decode cc pc = .ok (.irem, 1)) (k : vx_Note p l e R s m args below meth c H locs cells slots Q (F0 m pc ls rest) "java/lang/ArithmeticException" "/ by zero") :
    W p l e R s m args below meth c H locs cells slots Q (F0 m pc ls (.int b :: .int a :: rest)) := by
  intro T hT X
  obtain ⟨t, st, q⟩ := k T hT X
  exact ⟨t, X.iremZero hexec (g := F0 m pc ls (.int b :: .int a :: rest)) rfl (a := a) (rest := rest) (by rw [h0]) (by rw [hb]; exact d) t st, q⟩
theorem vx_ldivZ (hexec : p.tables.exec = Jvm.exec) (hb : c.code = cc) {a b : Int64} (h0 : b = 0) (d : decode cc pc = .ok (.ldiv, 1)) (k : vx_Note p l e R s m args below meth c H locs cells slots Q (F0 m pc ls rest) "java/lang/ArithmeticException" "/ by zero") :
    W p l e R s m args below meth c H locs cells slots Q (F0 m pc ls (.long b :: .long a :: rest)) := by
  intro T hT X
  obtain ⟨t, st, q⟩ := k T hT X
  exact ⟨t, X.ldivZero hexec (g := F0 m pc ls (.long b :: .long a :: rest)) rfl (a := a) (rest := rest) (by rw [h0]) (by rw [hb]; exact d) t st, q⟩
theorem vx_lremZ (hexec : p.tables.exec = Jvm.exec) (hb : c.code = cc) {a b : Int64} (h0 : b = 0) (d : decode cc pc = .ok (.lrem, 1)) (k : vx_Note p l e R s m args below meth c H locs cells slots Q (F0 m pc ls rest) "java/lang/ArithmeticException" "/ by zero") :
    W p l e R s m args below meth c H locs cells slots Q (F0 m pc ls (.long b :: .long a :: rest)) := by
  intro T hT X
  obtain ⟨t, st, q⟩ := k T hT X
  exact ⟨t, X.lremZero hexec (g := F0 m pc ls (.long b :: .long a :: rest)) rfl (a := a) (rest := rest) (by rw [h0]) (by rw [hb]; exact d) t st, q⟩
theorem vx_ialdZ {D : va_G} {cl : List vw_C} {ws : va_W} {tys : List (ClassId × FieldType)} {a : Nat} (hexec : p.tables.exec = Jvm.exec) (hb : c.code = cc) (hK : va_K D cl tys s) (hP : va_P D cl ws H) (q0 t0 : Nat) {cA : ClassId} {n : Nat} {f : Nat → Int32} (ha : ws[q0]? = some (a, .inl (cA, n, .inl f))) (ht : tys[t0]? = some (cA, .int)) {i : Int32} (hout : ¬ vp_in i n) (hdg : decode cc pc = .ok (.iaload, 1))
    (k : ∀ tx : String, tx = (toString "Index " ++ toString i ++ toString " out of bounds for length " ++ toString n : String) → vx_Note p l e R s m args below meth c H locs cells slots Q (F0 m pc ls rest) "java/lang/ArrayIndexOutOfBoundsException" tx) : W p l e R s m args below meth c H locs cells slots Q (F0 m pc ls (.int i :: .ref a :: rest)) := by
  intro T hT X
  obtain ⟨t, st, q⟩ := k _ rfl T hT X
  refine ⟨t, ?_, q⟩
  have h1 := X.ialoadOut hexec (by rw [hT]; exact hP q0 _ ha) ((hK.2 t0 _ ht).1 n (fun j => .int (f j))) (j := i) (by show (i < 0 ∨ (arrV _ _ _).slots.size ≤ _); rw [arrV_size]; exact Classical.byContradiction hout) (g := F0 m pc ls (.int i :: .ref a :: rest)) rfl (rest := rest) rfl (by rw [hb]; exact hdg) t
  simp only [arrV_size] at h1
  exact h1 st
theorem vx_iastZ {D : va_G} {cl : List vw_C} {ws : va_W} {tys : List (ClassId × FieldType)} {a : Nat} (hexec : p.tables.exec = Jvm.exec) (hb : c.code = cc) (hK : va_K D cl tys s) (hP : va_P D cl ws H) (q0 t0 : Nat) {cA : ClassId} {n : Nat} {f : Nat → Int32} (ha : ws[q0]? = some (a, .inl (cA, n, .inl f))) (ht : tys[t0]? = some (cA, .int)) {i : Int32} {x : Int32} (hout : ¬ vp_in i n) (hdg : decode cc pc = .ok (.iastore, 1))
    (k : ∀ tx : String, tx = (toString "Index " ++ toString i ++ toString " out of bounds for length " ++ toString n : String) → vx_Note p l e R s m args below meth c H locs cells slots Q (F0 m pc ls rest) "java/lang/ArrayIndexOutOfBoundsException" tx) : W p l e R s m args below meth c H locs cells slots Q (F0 m pc ls (.int x :: .int i :: .ref a :: rest)) := by
  intro T hT X
  obtain ⟨t, st, q⟩ := k _ rfl T hT X
  refine ⟨t, ?_, q⟩
  have h1 := X.iastoreOut hexec (by rw [hT]; exact hP q0 _ ha) ((hK.2 t0 _ ht).1 n (fun j => .int (f j))) (j := i) (by show (i < 0 ∨ (arrV _ _ _).slots.size ≤ _); rw [arrV_size]; exact Classical.byContradiction hout) (g := F0 m pc ls (.int x :: .int i :: .ref a :: rest)) rfl (rest := rest) rfl (by rw [hb]; exact hdg) t
  simp only [arrV_size] at h1
  exact h1 st
theorem vx_baldZ {D : va_G} {cl : List vw_C} {ws : va_W} {tys : List (ClassId × FieldType)} {a : Nat} (hexec : p.tables.exec = Jvm.exec) (hb : c.code = cc) (hK : va_K D cl tys s) (hP : va_P D cl ws H) (q0 t0 : Nat) {cA : ClassId} {n : Nat} {f : Nat → Int32} (ha : ws[q0]? = some (a, .inl (cA, n, .inl f))) (ht : tys[t0]? = some (cA, .byte)) {i : Int32} (hout : ¬ vp_in i n) (hdg : decode cc pc = .ok (.baload, 1))
    (k : ∀ tx : String, tx = (toString "Index " ++ toString i ++ toString " out of bounds for length " ++ toString n : String) → vx_Note p l e R s m args below meth c H locs cells slots Q (F0 m pc ls rest) "java/lang/ArrayIndexOutOfBoundsException" tx) : W p l e R s m args below meth c H locs cells slots Q (F0 m pc ls (.int i :: .ref a :: rest)) := by
  intro T hT X
  obtain ⟨t, st, q⟩ := k _ rfl T hT X
  refine ⟨t, ?_, q⟩
  have h1 := X.baloadOut hexec (by rw [hT]; exact hP q0 _ ha) ((hK.2 t0 _ ht).1 n (fun j => .int (f j))) (j := i) (by show (i < 0 ∨ (arrV _ _ _).slots.size ≤ _); rw [arrV_size]; exact Classical.byContradiction hout) (g := F0 m pc ls (.int i :: .ref a :: rest)) rfl (rest := rest) rfl (by rw [hb]; exact hdg) t
  simp only [arrV_size] at h1
  exact h1 st
theorem vx_bastZ {D : va_G} {cl : List vw_C} {ws : va_W} {tys : List (ClassId × FieldType)} {a : Nat} (hexec : p.tables.exec = Jvm.exec) (hb : c.code = cc) (hK : va_K D cl tys s) (hP : va_P D cl ws H) (q0 t0 : Nat) {cA : ClassId} {n : Nat} {f : Nat → Int32} (ha : ws[q0]? = some (a, .inl (cA, n, .inl f))) (ht : tys[t0]? = some (cA, .byte)) {i : Int32} {x : Int32} (hout : ¬ vp_in i n) (hdg : decode cc pc = .ok (.bastore, 1))
    (k : ∀ tx : String, tx = (toString "Index " ++ toString i ++ toString " out of bounds for length " ++ toString n : String) → vx_Note p l e R s m args below meth c H locs cells slots Q (F0 m pc ls rest) "java/lang/ArrayIndexOutOfBoundsException" tx) : W p l e R s m args below meth c H locs cells slots Q (F0 m pc ls (.int x :: .int i :: .ref a :: rest)) := by
  intro T hT X
  obtain ⟨t, st, q⟩ := k _ rfl T hT X
  refine ⟨t, ?_, q⟩
  have h1 := X.bastoreOut hexec (by rw [hT]; exact hP q0 _ ha) ((hK.2 t0 _ ht).1 n (fun j => .int (f j))) (j := i) (by show (i < 0 ∨ (arrV _ _ _).slots.size ≤ _); rw [arrV_size]; exact Classical.byContradiction hout) (g := F0 m pc ls (.int x :: .int i :: .ref a :: rest)) rfl (rest := rest) rfl (by rw [hb]; exact hdg) t
  simp only [arrV_size] at h1
  exact h1 st
theorem vx_zaldZ {D : va_G} {cl : List vw_C} {ws : va_W} {tys : List (ClassId × FieldType)} {a : Nat} (hexec : p.tables.exec = Jvm.exec) (hb : c.code = cc) (hK : va_K D cl tys s) (hP : va_P D cl ws H) (q0 t0 : Nat) {cA : ClassId} {n : Nat} {f : Nat → Int32} (ha : ws[q0]? = some (a, .inl (cA, n, .inl f))) (ht : tys[t0]? = some (cA, .boolean)) {i : Int32} (hout : ¬ vp_in i n) (hdg : decode cc pc = .ok (.baload, 1))
    (k : ∀ tx : String, tx = (toString "Index " ++ toString i ++ toString " out of bounds for length " ++ toString n : String) → vx_Note p l e R s m args below meth c H locs cells slots Q (F0 m pc ls rest) "java/lang/ArrayIndexOutOfBoundsException" tx) : W p l e R s m args below meth c H locs cells slots Q (F0 m pc ls (.int i :: .ref a :: rest)) := by
  intro T hT X
  obtain ⟨t, st, q⟩ := k _ rfl T hT X
  refine ⟨t, ?_, q⟩
  have h1 := X.baloadOut hexec (by rw [hT]; exact hP q0 _ ha) ((hK.2 t0 _ ht).1 n (fun j => .int (f j))) (j := i) (by show (i < 0 ∨ (arrV _ _ _).slots.size ≤ _); rw [arrV_size]; exact Classical.byContradiction hout) (g := F0 m pc ls (.int i :: .ref a :: rest)) rfl (rest := rest) rfl (by rw [hb]; exact hdg) t
  simp only [arrV_size] at h1
  exact h1 st
theorem vx_zastZ {D : va_G} {cl : List vw_C} {ws : va_W} {tys : List (ClassId × FieldType)} {a : Nat} (hexec : p.tables.exec = Jvm.exec) (hb : c.code = cc) (hK : va_K D cl tys s) (hP : va_P D cl ws H) (q0 t0 : Nat) {cA : ClassId} {n : Nat} {f : Nat → Int32} (ha : ws[q0]? = some (a, .inl (cA, n, .inl f))) (ht : tys[t0]? = some (cA, .boolean)) {i : Int32} {x : Int32} (hout : ¬ vp_in i n) (hdg : decode cc pc = .ok (.bastore, 1))
    (k : ∀ tx : String, tx = (toString "Index " ++ toString i ++ toString " out of bounds for length " ++ toString n : String) → vx_Note p l e R s m args below meth c H locs cells slots Q (F0 m pc ls rest) "java/lang/ArrayIndexOutOfBoundsException" tx) : W p l e R s m args below meth c H locs cells slots Q (F0 m pc ls (.int x :: .int i :: .ref a :: rest)) := by
  intro T hT X
  obtain ⟨t, st, q⟩ := k _ rfl T hT X
  refine ⟨t, ?_, q⟩
  have h1 := X.bastoreOut hexec (by rw [hT]; exact hP q0 _ ha) ((hK.2 t0 _ ht).1 n (fun j => .int (f j))) (j := i) (by show (i < 0 ∨ (arrV _ _ _).slots.size ≤ _); rw [arrV_size]; exact Classical.byContradiction hout) (g := F0 m pc ls (.int x :: .int i :: .ref a :: rest)) rfl (rest := rest) rfl (by rw [hb]; exact hdg) t
  simp only [arrV_size] at h1
  exact h1 st
theorem vx_caldZ {D : va_G} {cl : List vw_C} {ws : va_W} {tys : List (ClassId × FieldType)} {a : Nat} (hexec : p.tables.exec = Jvm.exec) (hb : c.code = cc) (hK : va_K D cl tys s) (hP : va_P D cl ws H) (q0 t0 : Nat) {cA : ClassId} {n : Nat} {f : Nat → Int32} (ha : ws[q0]? = some (a, .inl (cA, n, .inl f))) (ht : tys[t0]? = some (cA, .char)) {i : Int32} (hout : ¬ vp_in i n) (hdg : decode cc pc = .ok (.caload, 1))
    (k : ∀ tx : String, tx = (toString "Index " ++ toString i ++ toString " out of bounds for length " ++ toString n : String) → vx_Note p l e R s m args below meth c H locs cells slots Q (F0 m pc ls rest) "java/lang/ArrayIndexOutOfBoundsException" tx) : W p l e R s m args below meth c H locs cells slots Q (F0 m pc ls (.int i :: .ref a :: rest)) := by
  intro T hT X
  obtain ⟨t, st, q⟩ := k _ rfl T hT X
  refine ⟨t, ?_, q⟩
  have h1 := X.caloadOut hexec (by rw [hT]; exact hP q0 _ ha) ((hK.2 t0 _ ht).1 n (fun j => .int (f j))) (j := i) (by show (i < 0 ∨ (arrV _ _ _).slots.size ≤ _); rw [arrV_size]; exact Classical.byContradiction hout) (g := F0 m pc ls (.int i :: .ref a :: rest)) rfl (rest := rest) rfl (by rw [hb]; exact hdg) t
  simp only [arrV_size] at h1
  exact h1 st
theorem vx_castZ {D : va_G} {cl : List vw_C} {ws : va_W} {tys : List (ClassId × FieldType)} {a : Nat} (hexec : p.tables.exec = Jvm.exec) (hb : c.code = cc) (hK : va_K D cl tys s) (hP : va_P D cl ws H) (q0 t0 : Nat) {cA : ClassId} {n : Nat} {f : Nat → Int32} (ha : ws[q0]? = some (a, .inl (cA, n, .inl f))) (ht : tys[t0]? = some (cA, .char)) {i : Int32} {x : Int32} (hout : ¬ vp_in i n) (hdg : decode cc pc = .ok (.castore, 1))
    (k : ∀ tx : String, tx = (toString "Index " ++ toString i ++ toString " out of bounds for length " ++ toString n : String) → vx_Note p l e R s m args below meth c H locs cells slots Q (F0 m pc ls rest) "java/lang/ArrayIndexOutOfBoundsException" tx) : W p l e R s m args below meth c H locs cells slots Q (F0 m pc ls (.int x :: .int i :: .ref a :: rest)) := by
  intro T hT X
  obtain ⟨t, st, q⟩ := k _ rfl T hT X
  refine ⟨t, ?_, q⟩
  have h1 := X.castoreOut hexec (by rw [hT]; exact hP q0 _ ha) ((hK.2 t0 _ ht).1 n (fun j => .int (f j))) (j := i) (by show (i < 0 ∨ (arrV _ _ _).slots.size ≤ _); rw [arrV_size]; exact Classical.byContradiction hout) (g := F0 m pc ls (.int x :: .int i :: .ref a :: rest)) rfl (rest := rest) rfl (by rw [hb]; exact hdg) t
  simp only [arrV_size] at h1
  exact h1 st
theorem vx_saldZ {D : va_G} {cl : List vw_C} {ws : va_W} {tys : List (ClassId × FieldType)} {a : Nat} (hexec : p.tables.exec = Jvm.exec) (hb : c.code = cc) (hK : va_K D cl tys s) (hP : va_P D cl ws H) (q0 t0 : Nat) {cA : ClassId} {n : Nat} {f : Nat → Int32} (ha : ws[q0]? = some (a, .inl (cA, n, .inl f))) (ht : tys[t0]? = some (cA, .short)) {i : Int32} (hout : ¬ vp_in i n) (hdg : decode cc pc = .ok (.saload, 1))
    (k : ∀ tx : String, tx = (toString "Index " ++ toString i ++ toString " out of bounds for length " ++ toString n : String) → vx_Note p l e R s m args below meth c H locs cells slots Q (F0 m pc ls rest) "java/lang/ArrayIndexOutOfBoundsException" tx) : W p l e R s m args below meth c H locs cells slots Q (F0 m pc ls (.int i :: .ref a :: rest)) := by
  intro T hT X
  obtain ⟨t, st, q⟩ := k _ rfl T hT X
  refine ⟨t, ?_, q⟩
  have h1 := X.saloadOut hexec (by rw [hT]; exact hP q0 _ ha) ((hK.2 t0 _ ht).1 n (fun j => .int (f j))) (j := i) (by show (i < 0 ∨ (arrV _ _ _).slots.size ≤ _); rw [arrV_size]; exact Classical.byContradiction hout) (g := F0 m pc ls (.int i :: .ref a :: rest)) rfl (rest := rest) rfl (by rw [hb]; exact hdg) t
  simp only [arrV_size] at h1
  exact h1 st
theorem vx_sastZ {D : va_G} {cl : List vw_C} {ws : va_W} {tys : List (ClassId × FieldType)} {a : Nat} (hexec : p.tables.exec = Jvm.exec) (hb : c.code = cc) (hK : va_K D cl tys s) (hP : va_P D cl ws H) (q0 t0 : Nat) {cA : ClassId} {n : Nat} {f : Nat → Int32} (ha : ws[q0]? = some (a, .inl (cA, n, .inl f))) (ht : tys[t0]? = some (cA, .short)) {i : Int32} {x : Int32} (hout : ¬ vp_in i n) (hdg : decode cc pc = .ok (.sastore, 1))
    (k : ∀ tx : String, tx = (toString "Index " ++ toString i ++ toString " out of bounds for length " ++ toString n : String) → vx_Note p l e R s m args below meth c H locs cells slots Q (F0 m pc ls rest) "java/lang/ArrayIndexOutOfBoundsException" tx) : W p l e R s m args below meth c H locs cells slots Q (F0 m pc ls (.int x :: .int i :: .ref a :: rest)) := by
  intro T hT X
  obtain ⟨t, st, q⟩ := k _ rfl T hT X
  refine ⟨t, ?_, q⟩
  have h1 := X.sastoreOut hexec (by rw [hT]; exact hP q0 _ ha) ((hK.2 t0 _ ht).1 n (fun j => .int (f j))) (j := i) (by show (i < 0 ∨ (arrV _ _ _).slots.size ≤ _); rw [arrV_size]; exact Classical.byContradiction hout) (g := F0 m pc ls (.int x :: .int i :: .ref a :: rest)) rfl (rest := rest) rfl (by rw [hb]; exact hdg) t
  simp only [arrV_size] at h1
  exact h1 st
theorem vx_laldZ {D : va_G} {cl : List vw_C} {ws : va_W} {tys : List (ClassId × FieldType)} {a : Nat} (hexec : p.tables.exec = Jvm.exec) (hb : c.code = cc) (hK : va_K D cl tys s) (hP : va_P D cl ws H) (q0 t0 : Nat) {cA : ClassId} {n : Nat} {f : Nat → Int64} (ha : ws[q0]? = some (a, .inl (cA, n, .inr (.inl f)))) (ht : tys[t0]? = some (cA, .long)) {i : Int32} (hout : ¬ vp_in i n) (hdg : decode cc pc = .ok (.laload, 1))
    (k : ∀ tx : String, tx = (toString "Index " ++ toString i ++ toString " out of bounds for length " ++ toString n : String) → vx_Note p l e R s m args below meth c H locs cells slots Q (F0 m pc ls rest) "java/lang/ArrayIndexOutOfBoundsException" tx) : W p l e R s m args below meth c H locs cells slots Q (F0 m pc ls (.int i :: .ref a :: rest)) := by
  intro T hT X
  obtain ⟨t, st, q⟩ := k _ rfl T hT X
  refine ⟨t, ?_, q⟩
  have h1 := X.laloadOut hexec (by rw [hT]; exact hP q0 _ ha) ((hK.2 t0 _ ht).1 n (fun j => .long (f j))) (j := i) (by show (i < 0 ∨ (arrV _ _ _).slots.size ≤ _); rw [arrV_size]; exact Classical.byContradiction hout) (g := F0 m pc ls (.int i :: .ref a :: rest)) rfl (rest := rest) rfl (by rw [hb]; exact hdg) t
  simp only [arrV_size] at h1
  exact h1 st
theorem vx_lastZ {D : va_G} {cl : List vw_C} {ws : va_W} {tys : List (ClassId × FieldType)} {a : Nat} (hexec : p.tables.exec = Jvm.exec) (hb : c.code = cc) (hK : va_K D cl tys s) (hP : va_P D cl ws H) (q0 t0 : Nat) {cA : ClassId} {n : Nat} {f : Nat → Int64} (ha : ws[q0]? = some (a, .inl (cA, n, .inr (.inl f)))) (ht : tys[t0]? = some (cA, .long)) {i : Int32} {x : Int64} (hout : ¬ vp_in i n) (hdg : decode cc pc = .ok (.lastore, 1))
    (k : ∀ tx : String, tx = (toString "Index " ++ toString i ++ toString " out of bounds for length " ++ toString n : String) → vx_Note p l e R s m args below meth c H locs cells slots Q (F0 m pc ls rest) "java/lang/ArrayIndexOutOfBoundsException" tx) : W p l e R s m args below meth c H locs cells slots Q (F0 m pc ls (.long x :: .int i :: .ref a :: rest)) := by
  intro T hT X
  obtain ⟨t, st, q⟩ := k _ rfl T hT X
  refine ⟨t, ?_, q⟩
  have h1 := X.lastoreOut hexec (by rw [hT]; exact hP q0 _ ha) ((hK.2 t0 _ ht).1 n (fun j => .long (f j))) (j := i) (by show (i < 0 ∨ (arrV _ _ _).slots.size ≤ _); rw [arrV_size]; exact Classical.byContradiction hout) (g := F0 m pc ls (.long x :: .int i :: .ref a :: rest)) rfl (rest := rest) rfl (by rw [hb]; exact hdg) t
  simp only [arrV_size] at h1
  exact h1 st
theorem vx_faldZ {D : va_G} {cl : List vw_C} {ws : va_W} {tys : List (ClassId × FieldType)} {a : Nat} (hexec : p.tables.exec = Jvm.exec) (hb : c.code = cc) (hK : va_K D cl tys s) (hP : va_P D cl ws H) (q0 t0 : Nat) {cA : ClassId} {n : Nat} {f : Nat → UInt32} (ha : ws[q0]? = some (a, .inl (cA, n, .inr (.inr (.inl f))))) (ht : tys[t0]? = some (cA, .float)) {i : Int32} (hout : ¬ vp_in i n) (hdg : decode cc pc = .ok (.faload, 1))
    (k : ∀ tx : String, tx = (toString "Index " ++ toString i ++ toString " out of bounds for length " ++ toString n : String) → vx_Note p l e R s m args below meth c H locs cells slots Q (F0 m pc ls rest) "java/lang/ArrayIndexOutOfBoundsException" tx) : W p l e R s m args below meth c H locs cells slots Q (F0 m pc ls (.int i :: .ref a :: rest)) := by
  intro T hT X
  obtain ⟨t, st, q⟩ := k _ rfl T hT X
  refine ⟨t, ?_, q⟩
  have h1 := X.faloadOut hexec (by rw [hT]; exact hP q0 _ ha) ((hK.2 t0 _ ht).1 n (fun j => .float (f j))) (j := i) (by show (i < 0 ∨ (arrV _ _ _).slots.size ≤ _); rw [arrV_size]; exact Classical.byContradiction hout) (g := F0 m pc ls (.int i :: .ref a :: rest)) rfl (rest := rest) rfl (by rw [hb]; exact hdg) t
  simp only [arrV_size] at h1
  exact h1 st
theorem vx_fastZ {D : va_G} {cl : List vw_C} {ws : va_W} {tys : List (ClassId × FieldType)} {a : Nat} (hexec : p.tables.exec = Jvm.exec) (hb : c.code = cc) (hK : va_K D cl tys s) (hP : va_P D cl ws H) (q0 t0 : Nat) {cA : ClassId} {n : Nat} {f : Nat → UInt32} (ha : ws[q0]? = some (a, .inl (cA, n, .inr (.inr (.inl f))))) (ht : tys[t0]? = some (cA, .float)) {i : Int32} {x : UInt32} (hout : ¬ vp_in i n) (hdg : decode cc pc = .ok (.fastore, 1))
    (k : ∀ tx : String, tx = (toString "Index " ++ toString i ++ toString " out of bounds for length " ++ toString n : String) → vx_Note p l e R s m args below meth c H locs cells slots Q (F0 m pc ls rest) "java/lang/ArrayIndexOutOfBoundsException" tx) : W p l e R s m args below meth c H locs cells slots Q (F0 m pc ls (.float x :: .int i :: .ref a :: rest)) := by
  intro T hT X
  obtain ⟨t, st, q⟩ := k _ rfl T hT X
  refine ⟨t, ?_, q⟩
  have h1 := X.fastoreOut hexec (by rw [hT]; exact hP q0 _ ha) ((hK.2 t0 _ ht).1 n (fun j => .float (f j))) (j := i) (by show (i < 0 ∨ (arrV _ _ _).slots.size ≤ _); rw [arrV_size]; exact Classical.byContradiction hout) (g := F0 m pc ls (.float x :: .int i :: .ref a :: rest)) rfl (rest := rest) rfl (by rw [hb]; exact hdg) t
  simp only [arrV_size] at h1
  exact h1 st
theorem vx_daldZ {D : va_G} {cl : List vw_C} {ws : va_W} {tys : List (ClassId × FieldType)} {a : Nat} (hexec : p.tables.exec = Jvm.exec) (hb : c.code = cc) (hK : va_K D cl tys s) (hP : va_P D cl ws H) (q0 t0 : Nat) {cA : ClassId} {n : Nat} {f : Nat → UInt64} (ha : ws[q0]? = some (a, .inl (cA, n, .inr (.inr (.inr (.inl f)))))) (ht : tys[t0]? = some (cA, .double)) {i : Int32} (hout : ¬ vp_in i n) (hdg : decode cc pc = .ok (.daload, 1))
    (k : ∀ tx : String, tx = (toString "Index " ++ toString i ++ toString " out of bounds for length " ++ toString n : String) → vx_Note p l e R s m args below meth c H locs cells slots Q (F0 m pc ls rest) "java/lang/ArrayIndexOutOfBoundsException" tx) : W p l e R s m args below meth c H locs cells slots Q (F0 m pc ls (.int i :: .ref a :: rest)) := by
  intro T hT X
  obtain ⟨t, st, q⟩ := k _ rfl T hT X
  refine ⟨t, ?_, q⟩
  have h1 := X.daloadOut hexec (by rw [hT]; exact hP q0 _ ha) ((hK.2 t0 _ ht).1 n (fun j => .double (f j))) (j := i) (by show (i < 0 ∨ (arrV _ _ _).slots.size ≤ _); rw [arrV_size]; exact Classical.byContradiction hout) (g := F0 m pc ls (.int i :: .ref a :: rest)) rfl (rest := rest) rfl (by rw [hb]; exact hdg) t
  simp only [arrV_size] at h1
  exact h1 st
theorem vx_dastZ {D : va_G} {cl : List vw_C} {ws : va_W} {tys : List (ClassId × FieldType)} {a : Nat} (hexec : p.tables.exec = Jvm.exec) (hb : c.code = cc) (hK : va_K D cl tys s) (hP : va_P D cl ws H) (q0 t0 : Nat) {cA : ClassId} {n : Nat} {f : Nat → UInt64} (ha : ws[q0]? = some (a, .inl (cA, n, .inr (.inr (.inr (.inl f)))))) (ht : tys[t0]? = some (cA, .double)) {i : Int32} {x : UInt64} (hout : ¬ vp_in i n) (hdg : decode cc pc = .ok (.dastore, 1))
    (k : ∀ tx : String, tx = (toString "Index " ++ toString i ++ toString " out of bounds for length " ++ toString n : String) → vx_Note p l e R s m args below meth c H locs cells slots Q (F0 m pc ls rest) "java/lang/ArrayIndexOutOfBoundsException" tx) : W p l e R s m args below meth c H locs cells slots Q (F0 m pc ls (.double x :: .int i :: .ref a :: rest)) := by
  intro T hT X
  obtain ⟨t, st, q⟩ := k _ rfl T hT X
  refine ⟨t, ?_, q⟩
  have h1 := X.dastoreOut hexec (by rw [hT]; exact hP q0 _ ha) ((hK.2 t0 _ ht).1 n (fun j => .double (f j))) (j := i) (by show (i < 0 ∨ (arrV _ _ _).slots.size ≤ _); rw [arrV_size]; exact Classical.byContradiction hout) (g := F0 m pc ls (.double x :: .int i :: .ref a :: rest)) rfl (rest := rest) rfl (by rw [hb]; exact hdg) t
  simp only [arrV_size] at h1
  exact h1 st
theorem vx_arraylengthN (hexec : p.tables.exec = Jvm.exec) (hb : c.code = cc) (hdg : decode cc pc = .ok (.arraylength, 1)) (k : vx_NoteN p l e R s m args below meth c H locs cells slots Q (F0 m pc ls rest)) : W p l e R s m args below meth c H locs cells slots Q (F0 m pc ls (.null :: rest)) := by
  intro T hT X
  obtain ⟨t, st, q⟩ := k T hT X
  exact ⟨t, X.arraylengthNull hexec (g := F0 m pc ls (.null :: rest)) rfl (rest := rest) rfl (by rw [hb]; exact hdg) t st, q⟩
theorem vx_ialoadN (hexec : p.tables.exec = Jvm.exec) (hb : c.code = cc) {i : Int32} (hdg : decode cc pc = .ok (.iaload, 1)) (k : vx_NoteN p l e R s m args below meth c H locs cells slots Q (F0 m pc ls rest)) : W p l e R s m args below meth c H locs cells slots Q (F0 m pc ls (.int i :: .null :: rest)) := by
  intro T hT X
  obtain ⟨t, st, q⟩ := k T hT X
  exact ⟨t, X.ialoadNull hexec (g := F0 m pc ls (.int i :: .null :: rest)) rfl (rest := rest) rfl (by rw [hb]; exact hdg) t st, q⟩
theorem vx_laloadN (hexec : p.tables.exec = Jvm.exec) (hb : c.code = cc) {i : Int32} (hdg : decode cc pc = .ok (.laload, 1)) (k : vx_NoteN p l e R s m args below meth c H locs cells slots Q (F0 m pc ls rest)) : W p l e R s m args below meth c H locs cells slots Q (F0 m pc ls (.int i :: .null :: rest)) := by
  intro T hT X
  obtain ⟨t, st, q⟩ := k T hT X
  exact ⟨t, X.laloadNull hexec (g := F0 m pc ls (.int i :: .null :: rest)) rfl (rest := rest) rfl (by rw [hb]; exact hdg) t st, q⟩
theorem vx_faloadN (hexec : p.tables.exec = Jvm.exec) (hb : c.code = cc) {i : Int32} (hdg : decode cc pc = .ok (.faload, 1)) (k : vx_NoteN p l e R s m args below meth c H locs cells slots Q (F0 m pc ls rest)) : W p l e R s m args below meth c H locs cells slots Q (F0 m pc ls (.int i :: .null :: rest)) := by
  intro T hT X
  obtain ⟨t, st, q⟩ := k T hT X
  exact ⟨t, X.faloadNull hexec (g := F0 m pc ls (.int i :: .null :: rest)) rfl (rest := rest) rfl (by rw [hb]; exact hdg) t st, q⟩
theorem vx_daloadN (hexec : p.tables.exec = Jvm.exec) (hb : c.code = cc) {i : Int32} (hdg : decode cc pc = .ok (.daload, 1)) (k : vx_NoteN p l e R s m args below meth c H locs cells slots Q (F0 m pc ls rest)) : W p l e R s m args below meth c H locs cells slots Q (F0 m pc ls (.int i :: .null :: rest)) := by
  intro T hT X
  obtain ⟨t, st, q⟩ := k T hT X
  exact ⟨t, X.daloadNull hexec (g := F0 m pc ls (.int i :: .null :: rest)) rfl (rest := rest) rfl (by rw [hb]; exact hdg) t st, q⟩
theorem vx_aaloadN (hexec : p.tables.exec = Jvm.exec) (hb : c.code = cc) {i : Int32} (hdg : decode cc pc = .ok (.aaload, 1)) (k : vx_NoteN p l e R s m args below meth c H locs cells slots Q (F0 m pc ls rest)) : W p l e R s m args below meth c H locs cells slots Q (F0 m pc ls (.int i :: .null :: rest)) := by
  intro T hT X
  obtain ⟨t, st, q⟩ := k T hT X
  exact ⟨t, X.aaloadNull hexec (g := F0 m pc ls (.int i :: .null :: rest)) rfl (rest := rest) rfl (by rw [hb]; exact hdg) t st, q⟩
theorem vx_baloadN (hexec : p.tables.exec = Jvm.exec) (hb : c.code = cc) {i : Int32} (hdg : decode cc pc = .ok (.baload, 1)) (k : vx_NoteN p l e R s m args below meth c H locs cells slots Q (F0 m pc ls rest)) : W p l e R s m args below meth c H locs cells slots Q (F0 m pc ls (.int i :: .null :: rest)) := by
  intro T hT X
  obtain ⟨t, st, q⟩ := k T hT X
  exact ⟨t, X.baloadNull hexec (g := F0 m pc ls (.int i :: .null :: rest)) rfl (rest := rest) rfl (by rw [hb]; exact hdg) t st, q⟩
theorem vx_caloadN (hexec : p.tables.exec = Jvm.exec) (hb : c.code = cc) {i : Int32} (hdg : decode cc pc = .ok (.caload, 1)) (k : vx_NoteN p l e R s m args below meth c H locs cells slots Q (F0 m pc ls rest)) : W p l e R s m args below meth c H locs cells slots Q (F0 m pc ls (.int i :: .null :: rest)) := by
  intro T hT X
  obtain ⟨t, st, q⟩ := k T hT X
  exact ⟨t, X.caloadNull hexec (g := F0 m pc ls (.int i :: .null :: rest)) rfl (rest := rest) rfl (by rw [hb]; exact hdg) t st, q⟩
theorem vx_saloadN (hexec : p.tables.exec = Jvm.exec) (hb : c.code = cc) {i : Int32} (hdg : decode cc pc = .ok (.saload, 1)) (k : vx_NoteN p l e R s m args below meth c H locs cells slots Q (F0 m pc ls rest)) : W p l e R s m args below meth c H locs cells slots Q (F0 m pc ls (.int i :: .null :: rest)) := by
  intro T hT X
  obtain ⟨t, st, q⟩ := k T hT X
  exact ⟨t, X.saloadNull hexec (g := F0 m pc ls (.int i :: .null :: rest)) rfl (rest := rest) rfl (by rw [hb]; exact hdg) t st, q⟩
theorem vx_iastoreN (hexec : p.tables.exec = Jvm.exec) (hb : c.code = cc) {x : Int32} {i : Int32} (hdg : decode cc pc = .ok (.iastore, 1)) (k : vx_NoteN p l e R s m args below meth c H locs cells slots Q (F0 m pc ls rest)) : W p l e R s m args below meth c H locs cells slots Q (F0 m pc ls (.int x :: .int i :: .null :: rest)) := by
  intro T hT X
  obtain ⟨t, st, q⟩ := k T hT X
  exact ⟨t, X.iastoreNull hexec (g := F0 m pc ls (.int x :: .int i :: .null :: rest)) rfl (rest := rest) rfl (by rw [hb]; exact hdg) t st, q⟩
theorem vx_lastoreN (hexec : p.tables.exec = Jvm.exec) (hb : c.code = cc) {x : Int64} {i : Int32} (hdg : decode cc pc = .ok (.lastore, 1)) (k : vx_NoteN p l e R s m args below meth c H locs cells slots Q (F0 m pc ls rest)) : W p l e R s m args below meth c H locs cells slots Q (F0 m pc ls (.long x :: .int i :: .null :: rest)) := by
  intro T hT X
  obtain ⟨t, st, q⟩ := k T hT X
  exact ⟨t, X.lastoreNull hexec (g := F0 m pc ls (.long x :: .int i :: .null :: rest)) rfl (rest := rest) rfl (by rw [hb]; exact hdg) t st, q⟩
theorem vx_fastoreN (hexec : p.tables.exec = Jvm.exec) (hb : c.code = cc) {x : UInt32} {i : Int32} (hdg : decode cc pc = .ok (.fastore, 1)) (k : vx_NoteN p l e R s m args below meth c H locs cells slots Q (F0 m pc ls rest)) : W p l e R s m args below meth c H locs cells slots Q (F0 m pc ls (.float x :: .int i :: .null :: rest)) := by
  intro T hT X
  obtain ⟨t, st, q⟩ := k T hT X
  exact ⟨t, X.fastoreNull hexec (g := F0 m pc ls (.float x :: .int i :: .null :: rest)) rfl (rest := rest) rfl (by rw [hb]; exact hdg) t st, q⟩
theorem vx_dastoreN (hexec : p.tables.exec = Jvm.exec) (hb : c.code = cc) {x : UInt64} {i : Int32} (hdg : decode cc pc = .ok (.dastore, 1)) (k : vx_NoteN p l e R s m args below meth c H locs cells slots Q (F0 m pc ls rest)) : W p l e R s m args below meth c H locs cells slots Q (F0 m pc ls (.double x :: .int i :: .null :: rest)) := by
  intro T hT X
  obtain ⟨t, st, q⟩ := k T hT X
  exact ⟨t, X.dastoreNull hexec (g := F0 m pc ls (.double x :: .int i :: .null :: rest)) rfl (rest := rest) rfl (by rw [hb]; exact hdg) t st, q⟩
theorem vx_bastoreN (hexec : p.tables.exec = Jvm.exec) (hb : c.code = cc) {x : Int32} {i : Int32} (hdg : decode cc pc = .ok (.bastore, 1)) (k : vx_NoteN p l e R s m args below meth c H locs cells slots Q (F0 m pc ls rest)) : W p l e R s m args below meth c H locs cells slots Q (F0 m pc ls (.int x :: .int i :: .null :: rest)) := by
  intro T hT X
  obtain ⟨t, st, q⟩ := k T hT X
  exact ⟨t, X.bastoreNull hexec (g := F0 m pc ls (.int x :: .int i :: .null :: rest)) rfl (rest := rest) rfl (by rw [hb]; exact hdg) t st, q⟩
theorem vx_castoreN (hexec : p.tables.exec = Jvm.exec) (hb : c.code = cc) {x : Int32} {i : Int32} (hdg : decode cc pc = .ok (.castore, 1)) (k : vx_NoteN p l e R s m args below meth c H locs cells slots Q (F0 m pc ls rest)) : W p l e R s m args below meth c H locs cells slots Q (F0 m pc ls (.int x :: .int i :: .null :: rest)) := by
  intro T hT X
  obtain ⟨t, st, q⟩ := k T hT X
  exact ⟨t, X.castoreNull hexec (g := F0 m pc ls (.int x :: .int i :: .null :: rest)) rfl (rest := rest) rfl (by rw [hb]; exact hdg) t st, q⟩
theorem vx_sastoreN (hexec : p.tables.exec = Jvm.exec) (hb : c.code = cc) {x : Int32} {i : Int32} (hdg : decode cc pc = .ok (.sastore, 1)) (k : vx_NoteN p l e R s m args below meth c H locs cells slots Q (F0 m pc ls rest)) : W p l e R s m args below meth c H locs cells slots Q (F0 m pc ls (.int x :: .int i :: .null :: rest)) := by
  intro T hT X
  obtain ⟨t, st, q⟩ := k T hT X
  exact ⟨t, X.sastoreNull hexec (g := F0 m pc ls (.int x :: .int i :: .null :: rest)) rfl (rest := rest) rfl (by rw [hb]; exact hdg) t st, q⟩
theorem vx_invokeN {own C : String} {index maxL : Nat} {y : MethodName} {bytes : ByteArray} {ret : Option FieldType} (hexec : p.tables.exec = Jvm.exec) (hb : c.code = cc) (hown : s.vm.findClass own = some m.cls) (hlink : (Cond.methodLink own index y).before args s = true) (hinst : (Cond.instanceMethod y).before args s = true) (hcode : (Cond.code y bytes maxL ret).before args s = true) (hsel : (Cond.selects C y y).before args s = true)
    (hx : y.cls ≠ "java/lang/invoke/MethodHandle" ∧ y.cls ≠ "java/lang/invoke/VarHandle") {As : List Value} (hlen : (parseMethodDescriptor y.desc).map (fun d => d.parameters.length) = some As.length) (hdg : decode cc pc = .ok (.invokevirtual index, 3))
    (k : vx_NoteN p l e R s m args below meth c H locs cells slots Q (F0 m pc ls rest)) {st0 : List Value} (hst : st0 = As.reverse ++ .null :: rest) : W p l e R s m args below meth c H locs cells slots Q (F0 m pc ls st0) := by
  intro T hT X
  obtain ⟨r0, r, hn, hrm, hstR, hsigR⟩ := va_Decl.of hinst hcode
  obtain ⟨c2, r2, m2, q1, q2, q3, q4, kP, hkP, hkPi⟩ := Cond.selects_spec hsel
  cases hn.symm.trans q3
  have hl9 : As.length = r.sig.parameters.length := by
    rw [hsigR] at hlen
    exact (Option.some.inj hlen).symm
  obtain ⟨vm', X1, st1⟩ := X.invokevirtualNull hexec hown hlink hn hrm hstR hkP hkPi hx (g := F0 m pc ls st0) rfl (argsL := As) (rest := rest) hl9 hst (by rw [hb]; exact hdg)
  obtain ⟨t, st, q⟩ := k (T.setVm vm') hT X1
  exact ⟨t, st1 t st, q⟩
theorem vx_newarrayZ {atype : ArrayType} (hexec : p.tables.exec = Jvm.exec) (hb : c.code = cc) {n : Int32} (h0 : n < 0) (hdg : decode cc pc = .ok (.newarray atype, 2)) (k : ∀ tx : String, tx = toString n → vx_Note p l e R s m args below meth c H locs cells slots Q (F0 m pc ls rest) "java/lang/NegativeArraySizeException" tx) : W p l e R s m args below meth c H locs cells slots Q (F0 m pc ls (.int n :: rest)) := by
  intro T hT X
  obtain ⟨t, st, q⟩ := k _ rfl T hT X
  exact ⟨t, X.newarrayNegative hexec (g := F0 m pc ls (.int n :: rest)) rfl h0 (rest := rest) rfl (by rw [hb]; exact hdg) t st, q⟩
end
end VXM
/-! ===== END ===== -/
/-! ===== BEGIN an exception as an object: made, kept, thrown later (no traces kept) ===== -/
section VXK
variable {p : Program} {l : Launch} {e : Env} {R : Room} {s : State} {m₀ : MethodId} {args : Array Value} {below : List Frame} {meth : Method} {c : Code} {W : State} {locs : List Loc} {cells slots : Nat}
set_option maxHeartbeats 1000000 in
theorem vx_ctorMadeS (X : Stand p l e R s m₀ args below meth c W locs cells slots) (hexec : p.tables.exec = Jvm.exec) (htr : e.platform.stackTraces = false) {own cls : String} {names : List String} {ic : Nat}
    (hown : s.vm.findClass own = some m₀.cls) (hcls : Bundle.fit cls = true) (hnames : ∀ n ∈ names, Bundle.fit n = true)
    (h : ∀ a ∈ Bundle.ownAtoms own ic cls names, a.before args s = true)
    (hlocs : ∀ x ∈ locs, ∀ cell, s.heap[x.base]? = some cell → cell.vm.isStatics = false)
    {a : Addr} {cX : ClassId} {kX : Class} (hfoundX : s.vm.findClass cls = some cX) (hkX : s.vm.classes[cX]? = some kX) (hcell : W.heap[a]? = some (freshCell cX kX)) (hnew : s.heap.size ≤ a)
    {msg : Value} (hmsg : msg.isRef = true)
    {g : JFrame} (hg : g.method = m₀) (hsize : g.locals.size = c.maxLocals) {rest : List Value} (hstack : g.stack = msg :: .ref a :: .ref a :: rest)
    (hd6 : decode c.code g.pc = .ok (.invokespecial ic, 3))
    (hRframes : names.length + 3 < R.frames) (hRlocals : 2 * g.monitorRoom + ((Value.ref a :: rest).map fun v => v.category).sum + (13 * (names.length + 1) + 42) ≤ R.locals) :
    ∃ (V : State) (ce : Cell) (L : List Loc), Stand p l e R s m₀ args below meth c (V.setCell a ce) (locs ++ L) cells slots ∧ (∀ y ∈ L, y.base = a) ∧ a < V.heap.size ∧ ce.cls = cX ∧ ce.vm = .none ∧
      ∀ target, Steps p.tables e below ((V.setCell a ce).setTop { g with stack := .ref a :: rest, pc := g.pc + 3 }) target → Steps p.tables e below (W.setTop g) target := by
  have howns : e.platform.frameOwnsMonitors = true := by rw [X.admits.platform]
  have hfin : e.platform.finalization = false := by rw [X.admits.platform]
  have hpl : e.platform.magicAccessors = ({} : Platform).magicAccessors := by rw [X.admits.platform]
  have a' : ∀ x, x ∈ Bundle.ownAtoms own ic cls names → x.holds args s none s [] = true := fun x hx => h x hx
  obtain ⟨T, Z0, L, -, Y⟩ := ThrowableC.of_atoms (args := args) howns hfin hpl (fun x hx => h x (by simp [Bundle.ownAtoms, hx]))
  obtain ⟨Z, M, LZ, LM, hnZ⟩ := Init0T.ofS_atoms (args := args) hpl L Y (fun x hx => h x (by simp [Bundle.ownAtoms, hx]))
  obtain ⟨P1, Ps, hlen, L1, hL, hP1m, hlink1, hlink⟩ := Bundle.chainS (args := args) hpl hnZ names cls hcls hnames (fun x hx => h x (by simp [Bundle.ownAtoms, hx]))
  have hfound : s.vm.findClass cls = some P1.m.cls := findClass_of_methodNamed hP1m
  cases Option.some.inj (hfoundX.symm.trans hfound)
  obtain ⟨c1, kX', hc1, hk, hord, -, -, hn6⟩ := Cond.instantiable_spec (a' (.instantiable cls 6) (by simp [Bundle.ownAtoms]))
  cases Option.some.inj (hc1.symm.trans hfound)
  cases Option.some.inj (hkX.symm.trans hk)
  have hsel0 : selectMethod e.platform s.vm P1.m.cls T.fill0 = .method T.fill0 := by
    obtain ⟨c2, r2, m2, q1, q2, q3, q4, -⟩ := Cond.selects_spec (a' (.selects cls Bundle.tFill0 Bundle.tFill0) (by simp [Bundle.ownAtoms]))
    cases Option.some.inj (q1.symm.trans hfound)
    cases Option.some.inj (q2.symm.trans (State.methodFound?_of_named Y.fill0 (by decide)))
    cases Option.some.inj (q3.symm.trans Y.fill0)
    rw [Launch.admits_selectMethod X.admits]; exact q4
  have hselF : selectMethod e.platform s.vm P1.m.cls T.fill = .method T.fill := by
    obtain ⟨c2, r2, m2, q1, q2, q3, q4, -⟩ := Cond.selects_spec (a' (.selects cls Bundle.tFill Bundle.tFill) (by simp [Bundle.ownAtoms]))
    cases Option.some.inj (q1.symm.trans hfound)
    cases Option.some.inj (q2.symm.trans (State.methodFound?_of_named Y.fill (by decide)))
    cases Option.some.inj (q3.symm.trans Y.fill)
    rw [Launch.admits_selectMethod X.admits]; exact q4
  obtain ⟨cellS0, hcS0, hiss⟩ := Y.statics
  obtain ⟨u0, hu0⟩ := Cond.staticRefV Y.unassigned L.unassignedStatic L.statics hcS0 hiss (a' (.isRef (.static Bundle.tN "UNASSIGNED_STACK" Bundle.steD)) (by simp [Bundle.ownAtoms]))
  obtain ⟨sen, hsen⟩ := Cond.staticRefV Y.sentinel L.sentinelStatic L.statics hcS0 hiss (a' (.isRef (.static Bundle.tN "SUPPRESSED_SENTINEL" Bundle.listD)) (by simp [Bundle.ownAtoms]))
  obtain ⟨ci198, i198, fB, hk198, hg198, ha198, hsB, -, hnB, htB, hffB⟩ := Cond.ownField (t := .object "java/lang/Object") Y.found L.cls (by decide +kernel) (a' (.fieldLink Bundle.tN 198 Bundle.tN "backtrace" "Ljava/lang/Object;") (by simp [Bundle.ownAtoms])) (a' (.lays Bundle.tN Bundle.tN "backtrace" "Ljava/lang/Object;") (by simp [Bundle.ownAtoms])) e.platform hpl
  obtain ⟨cellS, hcS', heS, -, hkeep⟩ := X.same.2.2.2.2.2 T.aS cellS0 hcS0
  have hcellS : W.heap[T.aS]? = some cellS := hcS'
  have hout' : ∀ i, (⟨T.aS, i⟩ : Loc) ∉ locs := fun i hmem => by
    have := hlocs _ hmem cellS0 hcS0
    rw [hiss] at this; cases this
  have hknownS : cellS.vm ≠ .unknown := by
    rw [heS]; intro hu
    rw [show cellS0.vm = .unknown from hu] at hiss
    cases hiss
  have hneS : T.aS ≠ a := Nat.ne_of_lt (Nat.lt_of_lt_of_le (Array.getElem?_eq_some_iff.mp hcS0).1 hnew)
  obtain ⟨iM, hffM⟩ := Y.msg
  obtain ⟨tyC, dC, hdC, hdnC⟩ := Cond.laysAt hfound hk Y.cause (a' (.lays cls Bundle.tN "cause" "Ljava/lang/Throwable;") (by simp [Bundle.ownAtoms]))
  obtain ⟨tyS, dS, hdS, hdnS⟩ := Cond.laysAt hfound hk Y.stack (a' (.lays cls Bundle.tN "stackTrace" Bundle.steD) (by simp [Bundle.ownAtoms]))
  obtain ⟨tyP, dP, hdP, hdnP⟩ := Cond.laysAt hfound hk Y.supp (a' (.lays cls Bundle.tN "suppressedExceptions" Bundle.listD) (by simp [Bundle.ownAtoms]))
  obtain ⟨tyM, dM, hdM, hdnM⟩ := Cond.laysAt hfound hk hffM (a' (.lays cls Bundle.tN "detailMessage" "Ljava/lang/String;") (by simp [Bundle.ownAtoms]))
  obtain ⟨tyB, dB, hdB, hdnB⟩ := Cond.laysAt hfound hk hffB (a' (.lays cls Bundle.tN "backtrace" "Ljava/lang/Object;") (by simp [Bundle.ownAtoms]))
  have bC := Cond.laysApart hdB hdC hdnB hdnC (by rw [hnB, Y.causeName]; decide)
  have bS := Cond.laysApart hdB hdS hdnB hdnS (by rw [hnB, Y.stackName]; decide)
  have bP := Cond.laysApart hdB hdP hdnB hdnP (by rw [hnB, Y.suppName]; decide)
  have hskip : SkipFacts T e.platform s (fun u => u) u0 ((preparedCellV T.toThrowableT (freshCell P1.m.cls kX) a u0 sen).withEntry W.cur) :=
    ⟨{ ci198 := ci198, i198 := i198, fBack := fB }, ⟨hk198, hg198, ha198, hsB⟩, by
      have := fresh_default (c := P1.m.cls) tyB
      rw [htB] at this
      simpa [preparedCellV, Cell.setSlot, Cell.withEntry, Array.getElem?_setIfInBounds, bC, bS, bP, bC.symm, bS.symm, bP.symm, defaultValue] using this, fun _ _ => rfl⟩
  obtain ⟨tm, methC, cdC, kC, vm₁, hnC, -, -, -, -, -, -, -, hW₁, st1⟩ := Steps.initColdS (tb := p.tables) (e := e) (below := below) (s := s) (U := W) X.here hexec X.warmed hpl hown (t := Bundle.initS cls) rfl rfl (Bundle.fit_spec hcls).2
    (a' (.methodLink own ic (Bundle.initS cls)) (by simp [Bundle.ownAtoms])) (h (.instanceMethod (Bundle.initS cls)) (by cases names <;> simp [Bundle.ownAtoms, Bundle.chainSAtoms, Bundle.passSAtoms])) (bytes := Bundle.six) (maxL := 2) (h (.code (Bundle.initS cls) Bundle.six 2 none) (by cases names <;> simp [Bundle.ownAtoms, Bundle.chainSAtoms, Bundle.passSAtoms]))
    (f := g) hg (a := a) (msg := msg) (rest := .ref a :: rest) hstack hd6
  cases Option.some.inj (hnC.symm.trans hP1m)
  have X₁ := X.noted hW₁
  obtain ⟨vm₂, X₂, st2⟩ := X₁.ctorMessageOffV hexec (g := { g with stack := .ref a :: rest }) hg hsize T L Z LZ M LM (P1 :: Ps)
    (fun P hP => by rcases List.mem_cons.mp hP with rfl | hP; exact L1; exact hL P hP) ⟨hlink1, hlink⟩ (u0 := u0) (sen := sen) (self := a) hmsg (cell := freshCell P1.m.cls kX) (cellS := cellS)
    hcell (fun _ => by simp) (by simp) rfl rfl hsel0 hselF hcellS hneS hknownS (by rw [hkeep _ (hout' _)]; exact hu0) (by rw [hkeep _ (hout' _)]; exact hsen)
    (Takes.of_laid hk hord tyC (by rw [Y.causeType]; rfl)) (Takes.of_laid hk hord tyS (by rw [Y.stackType]; exact fits_refV_array _ u0)) (Takes.of_laid hk hord tyP (by rw [Y.suppType]; exact fits_refV_object _ sen))
    (Takes.of_laid hk hord tyM (by rw [Y.msgType]; exact fits_refV_object _ ⟨msg, hmsg⟩)) Y.objLocals hskip htr [] hd6
    (by simp only [List.length_cons, hlen]; omega) (by simp only [List.length_cons, hlen]; exact hRlocals)
  have hlt : a < ((W.setVm vm₁).setVm vm₂).heap.size := (Array.getElem?_eq_some_iff.mp hcell).1
  refine ⟨(W.setVm vm₁).setVm vm₂, _, _, X₂, fun y hy => ?_, hlt, rfl, rfl, fun target hwalk => st1 _ (fun acts => ?_)⟩
  · simp only [List.mem_cons, List.not_mem_nil, or_false] at hy
    rcases hy with rfl | rfl | rfl | rfl | rfl <;> rfl
  · rw [doInvoke_state]
    exact st2 _ hwalk
set_option maxHeartbeats 1000000 in
theorem vx_ctorMade0 (X : Stand p l e R s m₀ args below meth c W locs cells slots) (hexec : p.tables.exec = Jvm.exec) (htr : e.platform.stackTraces = false) {own cls : String} {names : List String} {ic : Nat}
    (hown : s.vm.findClass own = some m₀.cls) (hcls : Bundle.fit cls = true) (hnames : ∀ n ∈ names, Bundle.fit n = true)
    (h : ∀ a ∈ Bundle.ownAtoms0 own ic cls names, a.before args s = true)
    (hlocs : ∀ x ∈ locs, ∀ cell, s.heap[x.base]? = some cell → cell.vm.isStatics = false)
    {a : Addr} {cX : ClassId} {kX : Class} (hfoundX : s.vm.findClass cls = some cX) (hkX : s.vm.classes[cX]? = some kX) (hcell : W.heap[a]? = some (freshCell cX kX)) (hnew : s.heap.size ≤ a)
    {g : JFrame} (hg : g.method = m₀) (hsize : g.locals.size = c.maxLocals) {rest : List Value} (hstack : g.stack = .ref a :: .ref a :: rest)
    (hd6 : decode c.code g.pc = .ok (.invokespecial ic, 3))
    (hRframes : names.length + 3 < R.frames) (hRlocals : 2 * g.monitorRoom + ((Value.ref a :: rest).map fun v => v.category).sum + (13 * (names.length + 1) + 41) ≤ R.locals) :
    ∃ (V : State) (ce : Cell) (L : List Loc), Stand p l e R s m₀ args below meth c (V.setCell a ce) (locs ++ L) cells slots ∧ (∀ y ∈ L, y.base = a) ∧ a < V.heap.size ∧ ce.cls = cX ∧ ce.vm = .none ∧
      ∀ target, Steps p.tables e below ((V.setCell a ce).setTop { g with stack := .ref a :: rest, pc := g.pc + 3 }) target → Steps p.tables e below (W.setTop g) target := by
  have howns : e.platform.frameOwnsMonitors = true := by rw [X.admits.platform]
  have hfin : e.platform.finalization = false := by rw [X.admits.platform]
  have hpl : e.platform.magicAccessors = ({} : Platform).magicAccessors := by rw [X.admits.platform]
  have a' : ∀ x, x ∈ Bundle.ownAtoms0 own ic cls names → x.holds args s none s [] = true := fun x hx => h x hx
  obtain ⟨T, Z, L, LZ, Y⟩ := ThrowableC.of_atoms (args := args) howns hfin hpl (fun x hx => h x (by simp [Bundle.ownAtoms0, hx]))
  obtain ⟨P1, Ps, hlen, L1, hL, hP1m, hlink1, hlink⟩ := Bundle.chain0 (args := args) hpl Y.init0 names cls hcls hnames (fun x hx => h x (by simp [Bundle.ownAtoms0, hx]))
  have hfound : s.vm.findClass cls = some P1.m.cls := findClass_of_methodNamed hP1m
  cases Option.some.inj (hfoundX.symm.trans hfound)
  obtain ⟨c1, kX', hc1, hk, hord, -, -, hn6⟩ := Cond.instantiable_spec (a' (.instantiable cls 6) (by simp [Bundle.ownAtoms0]))
  cases Option.some.inj (hc1.symm.trans hfound)
  cases Option.some.inj (hkX.symm.trans hk)
  have hsel0 : selectMethod e.platform s.vm P1.m.cls T.fill0 = .method T.fill0 := by
    obtain ⟨c2, r2, m2, q1, q2, q3, q4, -⟩ := Cond.selects_spec (a' (.selects cls Bundle.tFill0 Bundle.tFill0) (by simp [Bundle.ownAtoms0]))
    cases Option.some.inj (q1.symm.trans hfound)
    cases Option.some.inj (q2.symm.trans (State.methodFound?_of_named Y.fill0 (by decide)))
    cases Option.some.inj (q3.symm.trans Y.fill0)
    rw [Launch.admits_selectMethod X.admits]; exact q4
  have hselF : selectMethod e.platform s.vm P1.m.cls T.fill = .method T.fill := by
    obtain ⟨c2, r2, m2, q1, q2, q3, q4, -⟩ := Cond.selects_spec (a' (.selects cls Bundle.tFill Bundle.tFill) (by simp [Bundle.ownAtoms0]))
    cases Option.some.inj (q1.symm.trans hfound)
    cases Option.some.inj (q2.symm.trans (State.methodFound?_of_named Y.fill (by decide)))
    cases Option.some.inj (q3.symm.trans Y.fill)
    rw [Launch.admits_selectMethod X.admits]; exact q4
  obtain ⟨cellS0, hcS0, hiss⟩ := Y.statics
  obtain ⟨u0, hu0⟩ := Cond.staticRefV Y.unassigned L.unassignedStatic L.statics hcS0 hiss (a' (.isRef (.static Bundle.tN "UNASSIGNED_STACK" Bundle.steD)) (by simp [Bundle.ownAtoms0]))
  obtain ⟨sen, hsen⟩ := Cond.staticRefV Y.sentinel L.sentinelStatic L.statics hcS0 hiss (a' (.isRef (.static Bundle.tN "SUPPRESSED_SENTINEL" Bundle.listD)) (by simp [Bundle.ownAtoms0]))
  obtain ⟨ci198, i198, fB, hk198, hg198, ha198, hsB, -, hnB, htB, hffB⟩ := Cond.ownField (t := .object "java/lang/Object") Y.found L.cls (by decide +kernel) (a' (.fieldLink Bundle.tN 198 Bundle.tN "backtrace" "Ljava/lang/Object;") (by simp [Bundle.ownAtoms0])) (a' (.lays Bundle.tN Bundle.tN "backtrace" "Ljava/lang/Object;") (by simp [Bundle.ownAtoms0])) e.platform hpl
  obtain ⟨cellS, hcS', heS, -, hkeep⟩ := X.same.2.2.2.2.2 T.aS cellS0 hcS0
  have hcellS : W.heap[T.aS]? = some cellS := hcS'
  have hout' : ∀ i, (⟨T.aS, i⟩ : Loc) ∉ locs := fun i hmem => by
    have := hlocs _ hmem cellS0 hcS0
    rw [hiss] at this; cases this
  have hknownS : cellS.vm ≠ .unknown := by
    rw [heS]; intro hu
    rw [show cellS0.vm = .unknown from hu] at hiss
    cases hiss
  have hneS : T.aS ≠ a := Nat.ne_of_lt (Nat.lt_of_lt_of_le (Array.getElem?_eq_some_iff.mp hcS0).1 hnew)
  obtain ⟨iM, hffM⟩ := Y.msg
  obtain ⟨tyC, dC, hdC, hdnC⟩ := Cond.laysAt hfound hk Y.cause (a' (.lays cls Bundle.tN "cause" "Ljava/lang/Throwable;") (by simp [Bundle.ownAtoms0]))
  obtain ⟨tyS, dS, hdS, hdnS⟩ := Cond.laysAt hfound hk Y.stack (a' (.lays cls Bundle.tN "stackTrace" Bundle.steD) (by simp [Bundle.ownAtoms0]))
  obtain ⟨tyP, dP, hdP, hdnP⟩ := Cond.laysAt hfound hk Y.supp (a' (.lays cls Bundle.tN "suppressedExceptions" Bundle.listD) (by simp [Bundle.ownAtoms0]))
  obtain ⟨tyM, dM, hdM, hdnM⟩ := Cond.laysAt hfound hk hffM (a' (.lays cls Bundle.tN "detailMessage" "Ljava/lang/String;") (by simp [Bundle.ownAtoms0]))
  obtain ⟨tyB, dB, hdB, hdnB⟩ := Cond.laysAt hfound hk hffB (a' (.lays cls Bundle.tN "backtrace" "Ljava/lang/Object;") (by simp [Bundle.ownAtoms0]))
  have bC := Cond.laysApart hdB hdC hdnB hdnC (by rw [hnB, Y.causeName]; decide)
  have bS := Cond.laysApart hdB hdS hdnB hdnS (by rw [hnB, Y.stackName]; decide)
  have bP := Cond.laysApart hdB hdP hdnB hdnP (by rw [hnB, Y.suppName]; decide)
  have hskip : SkipFacts T e.platform s (fun u => u) u0 ((preparedCellV T.toThrowableT (freshCell P1.m.cls kX) a u0 sen).withEntry W.cur) :=
    ⟨{ ci198 := ci198, i198 := i198, fBack := fB }, ⟨hk198, hg198, ha198, hsB⟩, by
      have := fresh_default (c := P1.m.cls) tyB
      rw [htB] at this
      simpa [preparedCellV, Cell.setSlot, Cell.withEntry, Array.getElem?_setIfInBounds, bC, bS, bP, bC.symm, bS.symm, bP.symm, defaultValue] using this, fun _ _ => rfl⟩
  obtain ⟨tm, methC, cdC, kC, vm₁, hnC, -, -, -, -, -, -, -, hW₁, st1⟩ := Steps.initCold (tb := p.tables) (e := e) (below := below) (s := s) (U := W) X.here hexec X.warmed hpl hown (t := Bundle.init0 cls) rfl rfl (Bundle.fit_spec hcls).2
    (a' (.methodLink own ic (Bundle.init0 cls)) (by simp [Bundle.ownAtoms0])) (h (.instanceMethod (Bundle.init0 cls)) (by cases names <;> simp [Bundle.ownAtoms0, Bundle.chain0Atoms, Bundle.passAtoms])) (bytes := Bundle.five) (maxL := 1) (h (.code (Bundle.init0 cls) Bundle.five 1 none) (by cases names <;> simp [Bundle.ownAtoms0, Bundle.chain0Atoms, Bundle.passAtoms]))
    (f := g) hg (a := a) (rest := .ref a :: rest) hstack hd6
  cases Option.some.inj (hnC.symm.trans hP1m)
  have X₁ := X.noted hW₁
  obtain ⟨vm₂, X₂, st2⟩ := X₁.ctorPlainOffV hexec (g := { g with stack := .ref a :: rest }) hg hsize T L Z LZ (P1 :: Ps)
    (fun P hP => by rcases List.mem_cons.mp hP with rfl | hP; exact L1; exact hL P hP) ⟨hlink1, hlink⟩ (u0 := u0) (sen := sen) (self := a) (cell := freshCell P1.m.cls kX) (cellS := cellS)
    hcell (fun _ => by simp) (by simp) rfl rfl hsel0 hselF hcellS hneS hknownS (by rw [hkeep _ (hout' _)]; exact hu0) (by rw [hkeep _ (hout' _)]; exact hsen)
    (Takes.of_laid hk hord tyC (by rw [Y.causeType]; rfl)) (Takes.of_laid hk hord tyS (by rw [Y.stackType]; exact fits_refV_array _ u0)) (Takes.of_laid hk hord tyP (by rw [Y.suppType]; exact fits_refV_object _ sen)) Y.objLocals hskip htr [] hd6
    (by simp only [List.length_cons, hlen]; omega) (by simp only [List.length_cons, hlen]; exact hRlocals)
  have hlt : a < ((W.setVm vm₁).setVm vm₂).heap.size := (Array.getElem?_eq_some_iff.mp hcell).1
  refine ⟨(W.setVm vm₁).setVm vm₂, _, _, X₂, fun y hy => ?_, hlt, rfl, rfl, fun target hwalk => st1 _ (fun acts => ?_)⟩
  · simp only [List.mem_cons, List.not_mem_nil, or_false] at hy
    rcases hy with rfl | rfl | rfl | rfl <;> rfl
  · rw [doInvoke_state]
    exact st2 _ hwalk
end VXK
section VXK2
variable {p : Program} {l : Launch} {e : Env} {R : Room} {s : State} {m : MethodId} {args : Array Value} {below : List Frame} {meth : Method} {c : Code} {H : Heap} {locs : List Loc} {cells slots : Nat} {Q : State → Prop}
variable {ls : Array Slot} {rest : List Value} {D : va_G} {cl : List vw_C} {tys : List (ClassId × FieldType)} {ws : va_W}
/-- 'new E("text")' that isn't thrown at once: the object goes on the stack -/
theorem vx_makeS {cc : ByteArray} {pc : Nat} (hexec : p.tables.exec = Jvm.exec) (hb : c.code = cc) (hl : l.stackTraces = false) {own cls text : String} {names : List String} {ik is ic sa ci : Nat} {A : Nat → Prop} {T0 : u_T}
    (hown : s.vm.findClass own = some m.cls) (hcls : Bundle.fit cls = true) (hnames : ∀ n ∈ names, Bundle.fit n = true)
    (hk : (Cond.classLink own ik cls).before args s = true) (hini : (Cond.initialized cls).before args s = true) (hstr : vk_R own is text sa s) (hat : ∀ w ∈ vx_atS own ic cls names, w.before args s = true)
    (hgood : ∀ w ∈ Cond.classLink own ik cls :: Cond.initialized cls :: vx_atS own ic cls names, vx_ot w = true)
    (hU : vx_Zq Bundle.tN "UNASSIGNED_STACK" Bundle.steD A s s.heap) (hN : vx_Zq Bundle.tN "SUPPRESSED_SENTINEL" Bundle.listD A s s.heap) (hS : va_S A s.heap H locs) (hsize : ls.size = c.maxLocals)
    (d0 : decode cc pc = .ok (.new ik, 3)) (d3 : decode cc (pc + 3) = .ok (.dup, 1)) (d4 : decode cc (pc + 4) = .ok (.ldc is, 2)) (d6 : decode cc (pc + 6) = .ok (.invokespecial ic, 3))
    (hK : va_K D cl tys s) (hP : va_P D cl ws H) (hD : va_D A ws) (hA : ∀ q, s.heap.size ≤ q → A q) (hc : cl[ci]? = some (cls, T0, 0))
    (hRframes : names.length + 3 < R.frames) (hRlocals : (rest.map fun v => v.category).sum + (13 * (names.length + 1) + 43) ≤ R.locals) (hRcells : cells + 1 ≤ R.cells) (hRslots : slots + 6 ≤ R.slots)
    (kk : ∀ (q : Nat) (H1 : Heap), va_P D cl (ws ++ [(q, .inr (ci, []))]) H1 → va_D A (ws ++ [(q, .inr (ci, []))]) → va_S A s.heap H1 locs → W p l e R s m args below meth c H1 locs (cells + 1) (slots + 6) Q (F0 m (pc + 9) ls (.ref q :: rest))) :
    W p l e R s m args below meth c H locs cells slots Q (F0 m pc ls rest) := by
  intro T hT X
  subst hT
  have htr : e.platform.stackTraces = false := (show e.platform.stackTraces = l.stackTraces by rw [X.admits.platform]).trans hl
  have Y := vx_rebase X (R' := { frames := R.frames, locals := R.locals, cells := 1, slots := 6 }) (Nat.le_refl _) (Nat.le_refl _) hRcells hRslots
  obtain ⟨s', hA'⟩ : ∃ z, z = (T.setVm s.vm).setFrames (.invoking m args :: below) := ⟨_, rfl⟩
  rw [← hA'] at Y
  have hvm : s'.vm = s.vm := by rw [hA']; rfl
  have hhp : s'.heap = T.heap := by rw [hA']; rfl
  have hW0 : s.WarmedH s'.vm := by rw [hvm]; exact State.WarmedH.refl s
  have hat' : ∀ w ∈ vx_atS own ic cls names, w.before args s' = true := fun w hw => vx_ot_at hW0 hvm.symm (hgood w (List.mem_cons_of_mem _ (List.mem_cons_of_mem _ hw))) (hat w hw)
  have hk' : (Cond.classLink own ik cls).before args s' = true := vx_ot_at hW0 hvm.symm (hgood _ List.mem_cons_self) hk
  have hini' : (Cond.initialized cls).before args s' = true := vx_ot_at hW0 hvm.symm (hgood _ (List.mem_cons_of_mem _ List.mem_cons_self)) hini
  have hU' : vx_Zq Bundle.tN "UNASSIGNED_STACK" Bundle.steD A s' s'.heap := by rw [hhp]; exact vx_Zq.moved hW0.alike (hU.kept hS.2.1)
  have hN' : vx_Zq Bundle.tN "SUPPRESSED_SENTINEL" Bundle.listD A s' s'.heap := by rw [hhp]; exact vx_Zq.moved hW0.alike (hN.kept hS.2.1)
  have h : ∀ w ∈ Bundle.ownAtoms own ic cls names, w.before args s' = true := vx_own hat' (vx_isRefq hU'.1) (vx_isRefq hN'.1) hU'.2.word hN'.2.word
  have hown' : s'.vm.findClass own = some m.cls := by rw [hvm]; exact hown
  have hins : (Cond.instantiable cls 6).before args s' = true := h _ (by simp [Bundle.ownAtoms])
  obtain ⟨vm₁, cX, kX, hfX, hkX, -, -, X₁, st1⟩ := Y.newCold hexec (own := own) (C := cls) (index := ik) (n := 6) hown' hk' hins hini'
    (g := F0 m pc ls rest) rfl (by rw [hb]; exact d0) (Nat.le_refl _) (Nat.le_refl _)
  generalize hT1 : (T.setVm vm₁).pushCell { cls := cX, slots := kX.instanceTypes.map defaultValue, vm := .none } = T1 at X₁ st1
  have hcat : (Value.ref T.heap.size).category = 1 := rfl
  have hcellA : T1.heap[T.heap.size]? = some (freshCell cX kX) := by rw [← hT1]; exact State.heap_pushCell_size _ _
  have d3' : decode c.code (pc + 3) = .ok (.dup, 1) := by rw [hb]; exact d3
  have d4' : decode c.code (pc + 4) = .ok (.ldc is, 2) := by rw [hb]; exact d4
  have hstr' : vk_R own is text sa s' := vk_R.warm hW0 hstr
  obtain ⟨V, ce, L, Z, hL, hlt, hcl9, hvm9, st⟩ := vx_ctorMadeS X₁ hexec htr (own := own) (cls := cls) (names := names) (ic := ic) hown' hcls hnames h (fun x hx => nomatch hx) hfX hkX hcellA (by rw [hhp]; exact Nat.le_refl _) (msg := .ref sa) rfl
    (g := { method := m, pc := pc + 6, locals := ls, stack := .ref sa :: .ref T.heap.size :: .ref T.heap.size :: rest, locked := none }) rfl hsize (rest := rest) rfl
    (by rw [hb]; exact d6) hRframes (by simp only [List.map_cons, List.sum_cons, hcat]; omega)
  have Z0 := Stand.forget (locs := []) Z (fun y hy => by rw [hL y hy, hhp]; exact Nat.le_refl _)
  obtain ⟨f1, f2⟩ := vx_frame Z0.same
  rw [hhp] at f1 f2
  have hcid : ce.cls = D.1 ci := by
    rw [hcl9]
    have h1 := (hK.1 ci _ hc).2.1
    rw [hvm] at hfX
    exact Option.some.inj (hfX.symm.trans h1)
  have hh : (V.setCell T.heap.size ce).heap[T.heap.size]? = some ce := heapAt_setCell_self (s := V) ce hlt
  subst hA'
  have X5 := vx_back9 X Y Z0
  have X6 : Stand p l e R s m args below meth c (V.setCell T.heap.size ce) locs (cells + 1) (slots + 6) := { X5 with same := X5.same.mono (by omega) (by omega) }
  have hk9 : ∀ (k : Nat) (x : Nat × va_E), ws[k]? = some x → (V.setCell T.heap.size ce).heap[x.1]? = T.heap[x.1]? := fun k x hx => f2 x.1 ((hP k x hx).lt) (fun z hz => nomatch hz)
  obtain ⟨t, a1, b1⟩ := kk T.heap.size (V.setCell T.heap.size ce).heap ((hP.kept hk9).app (fun k x hx => by
      have hz : k < 1 := (List.getElem?_eq_some_iff.mp hx).1
      rw [show k = 0 by omega] at hx
      cases hx
      exact ⟨_, hc, ce, hh, hcid, hvm9, fun k hk => absurd hk (Nat.not_lt_zero k)⟩)) (hD.push hP rfl (hA _ hS.1)) ⟨Nat.le_trans hS.1 f1, fun q h1 h2 => (f2 q (Nat.lt_of_lt_of_le h1 hS.1) (fun z hz => nomatch hz)).trans (hS.2.1 q h1 h2), hS.2.2⟩ _ rfl X6
  refine ⟨t, st1 _ ?_, b1⟩
  show Steps p.tables e below (T1.setTop { method := m, pc := pc + 3, locals := ls, stack := .ref T.heap.size :: rest, locked := none }) _
  jvm_step X₁.here [X₁.here.top, hexec, d3', Value.category]
  exact X₁.ldcString hexec (own := own) (text := text) (index := is) (a := sa) hown' hstr'.1 hstr'.2
    (g := { method := m, pc := pc + 4, locals := ls, stack := .ref T.heap.size :: .ref T.heap.size :: rest, locked := none }) rfl d4' _ (st _ a1)
/-- 'new E()' that isn't thrown at once: the object goes on the stack -/
theorem vx_make0 {cc : ByteArray} {pc : Nat} (hexec : p.tables.exec = Jvm.exec) (hb : c.code = cc) (hl : l.stackTraces = false) {own cls : String} {names : List String} {ik ic ci : Nat} {A : Nat → Prop} {T0 : u_T}
    (hown : s.vm.findClass own = some m.cls) (hcls : Bundle.fit cls = true) (hnames : ∀ n ∈ names, Bundle.fit n = true)
    (hk : (Cond.classLink own ik cls).before args s = true) (hini : (Cond.initialized cls).before args s = true) (hat : ∀ w ∈ vx_at0 own ic cls names, w.before args s = true)
    (hgood : ∀ w ∈ Cond.classLink own ik cls :: Cond.initialized cls :: vx_at0 own ic cls names, vx_ot w = true)
    (hU : vx_Zq Bundle.tN "UNASSIGNED_STACK" Bundle.steD A s s.heap) (hN : vx_Zq Bundle.tN "SUPPRESSED_SENTINEL" Bundle.listD A s s.heap) (hS : va_S A s.heap H locs) (hsize : ls.size = c.maxLocals)
    (d0 : decode cc pc = .ok (.new ik, 3)) (d3 : decode cc (pc + 3) = .ok (.dup, 1)) (d4 : decode cc (pc + 4) = .ok (.invokespecial ic, 3))
    (hK : va_K D cl tys s) (hP : va_P D cl ws H) (hD : va_D A ws) (hA : ∀ q, s.heap.size ≤ q → A q) (hc : cl[ci]? = some (cls, T0, 0))
    (hRframes : names.length + 3 < R.frames) (hRlocals : (rest.map fun v => v.category).sum + (13 * (names.length + 1) + 42) ≤ R.locals) (hRcells : cells + 1 ≤ R.cells) (hRslots : slots + 6 ≤ R.slots)
    (kk : ∀ (q : Nat) (H1 : Heap), va_P D cl (ws ++ [(q, .inr (ci, []))]) H1 → va_D A (ws ++ [(q, .inr (ci, []))]) → va_S A s.heap H1 locs → W p l e R s m args below meth c H1 locs (cells + 1) (slots + 6) Q (F0 m (pc + 7) ls (.ref q :: rest))) :
    W p l e R s m args below meth c H locs cells slots Q (F0 m pc ls rest) := by
  intro T hT X
  subst hT
  have htr : e.platform.stackTraces = false := (show e.platform.stackTraces = l.stackTraces by rw [X.admits.platform]).trans hl
  have Y := vx_rebase X (R' := { frames := R.frames, locals := R.locals, cells := 1, slots := 6 }) (Nat.le_refl _) (Nat.le_refl _) hRcells hRslots
  obtain ⟨s', hA'⟩ : ∃ z, z = (T.setVm s.vm).setFrames (.invoking m args :: below) := ⟨_, rfl⟩
  rw [← hA'] at Y
  have hvm : s'.vm = s.vm := by rw [hA']; rfl
  have hhp : s'.heap = T.heap := by rw [hA']; rfl
  have hW0 : s.WarmedH s'.vm := by rw [hvm]; exact State.WarmedH.refl s
  have hat' : ∀ w ∈ vx_at0 own ic cls names, w.before args s' = true := fun w hw => vx_ot_at hW0 hvm.symm (hgood w (List.mem_cons_of_mem _ (List.mem_cons_of_mem _ hw))) (hat w hw)
  have hk' : (Cond.classLink own ik cls).before args s' = true := vx_ot_at hW0 hvm.symm (hgood _ List.mem_cons_self) hk
  have hini' : (Cond.initialized cls).before args s' = true := vx_ot_at hW0 hvm.symm (hgood _ (List.mem_cons_of_mem _ List.mem_cons_self)) hini
  have hU' : vx_Zq Bundle.tN "UNASSIGNED_STACK" Bundle.steD A s' s'.heap := by rw [hhp]; exact vx_Zq.moved hW0.alike (hU.kept hS.2.1)
  have hN' : vx_Zq Bundle.tN "SUPPRESSED_SENTINEL" Bundle.listD A s' s'.heap := by rw [hhp]; exact vx_Zq.moved hW0.alike (hN.kept hS.2.1)
  have h : ∀ w ∈ Bundle.ownAtoms0 own ic cls names, w.before args s' = true := vx_own hat' (vx_isRefq hU'.1) (vx_isRefq hN'.1) hU'.2.word hN'.2.word
  have hown' : s'.vm.findClass own = some m.cls := by rw [hvm]; exact hown
  have hins : (Cond.instantiable cls 6).before args s' = true := h _ (by simp [Bundle.ownAtoms0])
  obtain ⟨vm₁, cX, kX, hfX, hkX, -, -, X₁, st1⟩ := Y.newCold hexec (own := own) (C := cls) (index := ik) (n := 6) hown' hk' hins hini'
    (g := F0 m pc ls rest) rfl (by rw [hb]; exact d0) (Nat.le_refl _) (Nat.le_refl _)
  generalize hT1 : (T.setVm vm₁).pushCell { cls := cX, slots := kX.instanceTypes.map defaultValue, vm := .none } = T1 at X₁ st1
  have hcat : (Value.ref T.heap.size).category = 1 := rfl
  have hcellA : T1.heap[T.heap.size]? = some (freshCell cX kX) := by rw [← hT1]; exact State.heap_pushCell_size _ _
  have d3' : decode c.code (pc + 3) = .ok (.dup, 1) := by rw [hb]; exact d3
  obtain ⟨V, ce, L, Z, hL, hlt, hcl9, hvm9, st⟩ := vx_ctorMade0 X₁ hexec htr (own := own) (cls := cls) (names := names) (ic := ic) hown' hcls hnames h (fun x hx => nomatch hx) hfX hkX hcellA (by rw [hhp]; exact Nat.le_refl _)
    (g := { method := m, pc := pc + 4, locals := ls, stack := .ref T.heap.size :: .ref T.heap.size :: rest, locked := none }) rfl hsize (rest := rest) rfl
    (by rw [hb]; exact d4) hRframes (by simp only [List.map_cons, List.sum_cons, hcat]; omega)
  have Z0 := Stand.forget (locs := []) Z (fun y hy => by rw [hL y hy, hhp]; exact Nat.le_refl _)
  obtain ⟨f1, f2⟩ := vx_frame Z0.same
  rw [hhp] at f1 f2
  have hcid : ce.cls = D.1 ci := by
    rw [hcl9]
    have h1 := (hK.1 ci _ hc).2.1
    rw [hvm] at hfX
    exact Option.some.inj (hfX.symm.trans h1)
  have hh : (V.setCell T.heap.size ce).heap[T.heap.size]? = some ce := heapAt_setCell_self (s := V) ce hlt
  subst hA'
  have X5 := vx_back9 X Y Z0
  have X6 : Stand p l e R s m args below meth c (V.setCell T.heap.size ce) locs (cells + 1) (slots + 6) := { X5 with same := X5.same.mono (by omega) (by omega) }
  have hk9 : ∀ (k : Nat) (x : Nat × va_E), ws[k]? = some x → (V.setCell T.heap.size ce).heap[x.1]? = T.heap[x.1]? := fun k x hx => f2 x.1 ((hP k x hx).lt) (fun z hz => nomatch hz)
  obtain ⟨t, a1, b1⟩ := kk T.heap.size (V.setCell T.heap.size ce).heap ((hP.kept hk9).app (fun k x hx => by
      have hz : k < 1 := (List.getElem?_eq_some_iff.mp hx).1
      rw [show k = 0 by omega] at hx
      cases hx
      exact ⟨_, hc, ce, hh, hcid, hvm9, fun k hk => absurd hk (Nat.not_lt_zero k)⟩)) (hD.push hP rfl (hA _ hS.1)) ⟨Nat.le_trans hS.1 f1, fun q h1 h2 => (f2 q (Nat.lt_of_lt_of_le h1 hS.1) (fun z hz => nomatch hz)).trans (hS.2.1 q h1 h2), hS.2.2⟩ _ rfl X6
  refine ⟨t, st1 _ ?_, b1⟩
  show Steps p.tables e below (T1.setTop { method := m, pc := pc + 3, locals := ls, stack := .ref T.heap.size :: rest, locked := none }) _
  jvm_step X₁.here [X₁.here.top, hexec, d3', Value.category]
  exact st _ a1
/-- 'throw x' of an object that was made before -/
theorem vx_athrow {cc : ByteArray} {pc : Nat} (hexec : p.tables.exec = Jvm.exec) (hb : c.code = cc) {q : Addr} (hdg : decode cc pc = .ok (.athrow, 1)) (k : vx_W p l e R s m args below meth c H locs cells slots Q (F0 m pc ls rest) q) : W p l e R s m args below meth c H locs cells slots Q (F0 m pc ls (.ref q :: rest)) := by
  intro T hT X
  obtain ⟨t, st, hq⟩ := k T hT X
  refine ⟨t, ?_, hq⟩
  have hdg' : decode c.code pc = .ok (.athrow, 1) := by rw [hb]; exact hdg
  jvm_step X.here [X.here.top, hexec, hdg', athrow.wp_sem]
  exact st
end VXK2
/-! ===== END ===== -/
/-! ===== BEGIN a constructor that throws (launches without stack traces) ===== -/
section VXIA
variable {p : Program} {l : Launch} {e : Env} {R : Room} {s : State} {m : MethodId} {args : Array Value} {below : List Frame} {meth : Method} {c : Code} {T : State} {locs : List Loc} {cells slots : Nat}
theorem vx_callI (X : Stand p l e R s m args below meth c T locs cells slots) (hexec : p.tables.exec = Jvm.exec) {own : String} {index : Nat} {y : MethodName} {bytes : ByteArray} {maxL : Nat}
    (hown : s.vm.findClass own = some m.cls) (hy1 : y.name = "<init>") (hlink : (Cond.methodLink own index y).before args s = true) (hinst : (Cond.instanceMethod y).before args s = true)
    (hcode : (Cond.code y bytes maxL none).before args s = true) (hy : y.cls ≠ "java/lang/invoke/MethodHandle" ∧ y.cls ≠ "java/lang/invoke/VarHandle")
    {W9 : Nat} {Pre : Pt → Array Value → Prop} {Post : Pt → Array Value → Option Value → Pt → Prop} {PostX : Pt → Array Value → Addr → Pt → Prop} (hK : vx_Back l R p e below s args y 3 W9 Pre Post PostX)
    {g : JFrame} (hg : g.method = m) (hsize : g.locals.size = c.maxLocals) {a : Addr} {argsL rest : List Value} (hlen : ∀ sig, parseMethodDescriptor y.desc = some sig → argsL.length = sig.parameters.length)
    (hstack : g.stack = argsL.reverse ++ .ref a :: rest) (hW : 2 * g.monitorRoom + (rest.map fun v => v.category).sum ≤ W9) (hdg : decode c.code g.pc = .ok (.invokespecial index, 3))
    (hpre : ∀ vm₁, s.WarmedH vm₁ → Pre ⟨T.setVm vm₁, locs, cells, slots⟩ (Value.ref a :: argsL).toArray) :
    (∃ (v : Option Value) (vm₁ : Vm) (B : Pt), s.WarmedH vm₁ ∧ Stand p l e R s m args below meth c B.U B.locs B.cells B.slots ∧ Post ⟨T.setVm vm₁, locs, cells, slots⟩ (Value.ref a :: argsL).toArray v B ∧
      ∀ target, Steps p.tables e below (B.U.setTop { g with pc := g.pc + 3, stack := v.toList ++ rest }) target → Steps p.tables e below (T.setTop g) target) ∨
    (∃ (q : Addr) (vm₁ : Vm) (B : Pt), s.WarmedH vm₁ ∧ Stand p l e R s m args below meth c B.U B.locs B.cells B.slots ∧ PostX ⟨T.setVm vm₁, locs, cells, slots⟩ (Value.ref a :: argsL).toArray q B ∧
      Steps p.tables e below (T.setTop g) ((B.U.setTop { g with stack := rest }).pushFrame (.throwing q))) := by
  subst hg
  have hpl : e.platform.magicAccessors = ({} : Platform).magicAccessors := by rw [X.admits.platform]
  obtain ⟨mk, methM, cM, kP, vm₁, hnamed, hmethM, hcodeM, -, hlocalsM, -, hkP, -, hW₁, hstep₁⟩ := Steps.initColdArgs (e := e) X.here hexec X.warmed hpl hown hy1 hy hlink hinst hcode (f := g) rfl hlen hstack hdg
  have X₁ := X.noted hW₁
  rcases hK g.method meth c ⟨T.setVm vm₁, locs, cells, slots⟩ { g with stack := rest } (.invokespecial index) mk (Value.ref a :: argsL).toArray X₁ rfl hsize hdg hW (X₁.named hnamed) (hpre vm₁ X₁.warmed) with ⟨v, B, X', hpost, hsteps⟩ | ⟨q, B, X', hpost, hsteps⟩
  · exact Or.inl ⟨v, vm₁, B, X₁.warmed, X', hpost, fun target h => hstep₁ _ fun acts => by rw [doInvoke_state]; exact hsteps.trans h⟩
  · exact Or.inr ⟨q, vm₁, B, X₁.warmed, X', hpost, hstep₁ _ fun acts => by rw [doInvoke_state]; exact hsteps⟩
end VXIA
section VXIB
variable {p : Program} {l : Launch} {e : Env} {R : Room} {s : State} {m : MethodId} {args : Array Value} {below : List Frame} {meth : Method} {c : Code} {H : Heap} {locs : List Loc} {cells slots : Nat}
variable {y : MethodName} {bytes cc : ByteArray} {maxL nL mc ms n index : Nat} {ret : Option FieldType} {ws : List Cond} {rm : Room} {Pc : Array Value → State → Prop} {Qc : Array Value → State → Outcome → State → Prop} {XC : String → State → State → Prop} {free : Addr → Prop} {Ts : List Cond} {own C : String} {b : Addr} {As rest : List Value} {g : JFrame}
theorem vx_runI (S : CallFix p m c cc nL s args Ts own) (hM : vx_Met l y ws rm Pc Qc XC mc ms free) (cw : CallB R s args own index y bytes maxL none ws rm mc ms n ∧ y.name = "<init>" ∧ (Cond.instanceMethod y).before args s = true) (hp : PreS s H Pc (.ref b :: As))
    (hg : g.method = m) (hn : As.length = n) (hsize : g.locals.size = nL) (hstack : g.stack = As.reverse ++ .ref b :: rest) (hW : 2 * g.monitorRoom + (rest.map fun v => v.category).sum ≤ 8) (hdg : decode cc g.pc = .ok (.invokespecial index, 3)) (hf : cells + mc ≤ R.cells ∧ slots + ms ≤ R.slots) :
    vx_Run p l e R s m args below meth c H locs cells slots mc ms g rest (Qc (Value.ref b :: As).toArray) XC free := by
  have hK : vx_Back l R p e below s args y 3 8 (PreOf R mc ms Pc) (PostOf Qc mc ms free) (vx_Post XC mc ms free) := vx_callBack cw.1 hM hp.1
  obtain ⟨⟨-, -, -, -, -, -, hcode, -, hy, hlen, hl⟩, hy1, hin⟩ := cw
  obtain ⟨hx, hb, hml, ho, -⟩ := S
  have hPc := hp.2
  intro T hT X
  rcases vx_callI X hx (bytes := bytes) (maxL := maxL) ho hy1 hl hin hcode hy hK hg (hsize.trans hml.symm) (a := b) (argsL := As) (rest := rest) (fun sig h => hn.trans (hlen sig h)) hstack hW (by rw [hb]; exact hdg)
    (fun vm₁ hW₁ => ⟨hf.1, hf.2, hPc (T.setVm vm₁) hT hW₁⟩) with ⟨v, vm₁, ⟨U', l2, c2, s2⟩, hW₁, X', ⟨g', mk, t, L, e1, e2, hq, h1, hL, h2, h3⟩, st⟩ | ⟨q, vm₁, ⟨U', l2, c2, s2⟩, hW₁, X', ⟨g', mk, t, L, E, ce, e1, e2, hq, hce, hcv, hcl, h1, hL, h2, h3⟩, st⟩
  · dsimp only [Pt.U, Pt.locs, Pt.cells, Pt.slots] at X' e1 e2 h1 h2 h3 st
    subst h1; subst h2; subst h3
    exact Or.inl ⟨v, (T.setVm vm₁).calling g' mk (Value.ref b :: As).toArray, t, U', L, hT, X', hL, e1, e2, hq, st⟩
  · dsimp only [Pt.U, Pt.locs, Pt.cells, Pt.slots] at X' e1 e2 h1 h2 h3 st hcl
    subst h1; subst h2; subst h3
    exact Or.inr ⟨q, (T.setVm vm₁).calling g' mk (Value.ref b :: As).toArray, t, U', L, E, ce, hT, X', hL, e1, e2, hq, hce, hcv, vx_cls hW₁ hcl, st⟩
end VXIB
/-! ===== END ===== -/
/-! ===== BEGIN a private constructor of a nest mate that throws ===== -/
section VXIC
variable {p : Program} {l : Launch} {e : Env} {R : Room} {s : State} {m : MethodId} {args : Array Value} {below : List Frame} {meth : Method} {c : Code} {T : State} {locs : List Loc} {cells slots : Nat}
theorem vx_callIN (X : Stand p l e R s m args below meth c T locs cells slots) (hexec : p.tables.exec = Jvm.exec) {own : String} {index : Nat} {host : String} {y : MethodName} {bytes : ByteArray} {maxL : Nat}
    (hown : s.vm.findClass own = some m.cls) (hy1 : y.name = "<init>") (hlink : (Cond.methodLinkNest own index y host).before args s = true) (hinst : (Cond.instanceMethod y).before args s = true)
    (hcode : (Cond.code y bytes maxL none).before args s = true) (hy : y.cls ≠ "java/lang/invoke/MethodHandle" ∧ y.cls ≠ "java/lang/invoke/VarHandle")
    {W9 : Nat} {Pre : Pt → Array Value → Prop} {Post : Pt → Array Value → Option Value → Pt → Prop} {PostX : Pt → Array Value → Addr → Pt → Prop} (hK : vx_Back l R p e below s args y 3 W9 Pre Post PostX)
    {g : JFrame} (hg : g.method = m) (hsize : g.locals.size = c.maxLocals) {a : Addr} {argsL rest : List Value} (hlen : ∀ sig, parseMethodDescriptor y.desc = some sig → argsL.length = sig.parameters.length)
    (hstack : g.stack = argsL.reverse ++ .ref a :: rest) (hW : 2 * g.monitorRoom + (rest.map fun v => v.category).sum ≤ W9) (hdg : decode c.code g.pc = .ok (.invokespecial index, 3))
    (hpre : ∀ vm₁, s.WarmedH vm₁ → Pre ⟨T.setVm vm₁, locs, cells, slots⟩ (Value.ref a :: argsL).toArray) :
    (∃ (v : Option Value) (vm₁ : Vm) (B : Pt), s.WarmedH vm₁ ∧ Stand p l e R s m args below meth c B.U B.locs B.cells B.slots ∧ Post ⟨T.setVm vm₁, locs, cells, slots⟩ (Value.ref a :: argsL).toArray v B ∧
      ∀ target, Steps p.tables e below (B.U.setTop { g with pc := g.pc + 3, stack := v.toList ++ rest }) target → Steps p.tables e below (T.setTop g) target) ∨
    (∃ (q : Addr) (vm₁ : Vm) (B : Pt), s.WarmedH vm₁ ∧ Stand p l e R s m args below meth c B.U B.locs B.cells B.slots ∧ PostX ⟨T.setVm vm₁, locs, cells, slots⟩ (Value.ref a :: argsL).toArray q B ∧
      Steps p.tables e below (T.setTop g) ((B.U.setTop { g with stack := rest }).pushFrame (.throwing q))) := by
  subst hg
  have hpl : e.platform.magicAccessors = ({} : Platform).magicAccessors := by rw [X.admits.platform]
  obtain ⟨mk, methM, cM, kP, vm₁, hnamed, hmethM, hcodeM, -, hlocalsM, -, hkP, -, hW₁, hstep₁⟩ := Steps.initColdArgsNest (e := e) X.here hexec X.warmed hpl hown hy1 hy hlink hinst hcode (f := g) rfl hlen hstack hdg
  have X₁ := X.noted hW₁
  rcases hK g.method meth c ⟨T.setVm vm₁, locs, cells, slots⟩ { g with stack := rest } (.invokespecial index) mk (Value.ref a :: argsL).toArray X₁ rfl hsize hdg hW (X₁.named hnamed) (hpre vm₁ X₁.warmed) with ⟨v, B, X', hpost, hsteps⟩ | ⟨q, B, X', hpost, hsteps⟩
  · exact Or.inl ⟨v, vm₁, B, X₁.warmed, X', hpost, fun target h => hstep₁ _ fun acts => by rw [doInvoke_state]; exact hsteps.trans h⟩
  · exact Or.inr ⟨q, vm₁, B, X₁.warmed, X', hpost, hstep₁ _ fun acts => by rw [doInvoke_state]; exact hsteps⟩
end VXIC
section VXID
variable {p : Program} {l : Launch} {e : Env} {R : Room} {s : State} {m : MethodId} {args : Array Value} {below : List Frame} {meth : Method} {c : Code} {H : Heap} {locs : List Loc} {cells slots : Nat}
theorem vx_runIN {y : MethodName} {bytes cc : ByteArray} {maxL nL mc ms n index : Nat} {ws : List Cond} {rm : Room} {Pc : Array Value → State → Prop} {Qc : Array Value → State → Outcome → State → Prop} {XC : String → State → State → Prop} {free : Addr → Prop} {Ts : List Cond} {own host : String} {b : Addr} {As rest : List Value} {g : JFrame}
    (S : CallFix p m c cc nL s args Ts own) (hM : vx_Met l y ws rm Pc Qc XC mc ms free) (cw : va_CN R s args own index y host bytes maxL none ws rm mc ms n ∧ y.name = "<init>" ∧ (Cond.instanceMethod y).before args s = true) (hp : PreS s H Pc (.ref b :: As))
    (hg : g.method = m) (hn : As.length = n) (hsize : g.locals.size = nL) (hstack : g.stack = As.reverse ++ .ref b :: rest) (hW : 2 * g.monitorRoom + (rest.map fun v => v.category).sum ≤ 8) (hdg : decode cc g.pc = .ok (.invokespecial index, 3)) (hf : cells + mc ≤ R.cells ∧ slots + ms ≤ R.slots) :
    vx_Run p l e R s m args below meth c H locs cells slots mc ms g rest (Qc (Value.ref b :: As).toArray) XC free := by
  obtain ⟨⟨⟨hrc, hrs, hfr, hlo, hws, hcw⟩, hcode, hini, hy, hlen, hl⟩, hx1, hx2⟩ := cw
  have hK : vx_Back l R p e below s args y 3 8 (PreOf R mc ms Pc) (PostOf Qc mc ms free) (vx_Post XC mc ms free) := vx_back (bytes := bytes) (maxL := maxL) (ret := none) hM hp.1 hrc hrs hfr hlo hws hcw (fun a' U hW => word_at hW (Or.inl (by first | rfl | simp [Cond.onTables, Cond.keeps, Cond.steady])) hini)
  obtain ⟨hx, hb, hml, ho, -⟩ := S
  have hPc := hp.2
  intro T hT X
  rcases vx_callIN X hx (bytes := bytes) (maxL := maxL) ho hx1 hl hx2 hcode hy hK hg (hsize.trans hml.symm) (a := b) (argsL := As) (rest := rest) (fun sig h => hn.trans (hlen sig h)) hstack hW (by rw [hb]; exact hdg)
    (fun vm₁ hW₁ => ⟨hf.1, hf.2, hPc (T.setVm vm₁) hT hW₁⟩) with ⟨v, vm₁, ⟨U', l2, c2, s2⟩, hW₁, X', ⟨g', mk, t, L, e1, e2, hq, h1, hL, h2, h3⟩, st⟩ | ⟨q, vm₁, ⟨U', l2, c2, s2⟩, hW₁, X', ⟨g', mk, t, L, E, ce, e1, e2, hq, hce, hcv, hcl, h1, hL, h2, h3⟩, st⟩
  · dsimp only [Pt.U, Pt.locs, Pt.cells, Pt.slots] at X' e1 e2 h1 h2 h3 st
    subst h1; subst h2; subst h3
    exact Or.inl ⟨v, (T.setVm vm₁).calling g' mk (Value.ref b :: As).toArray, t, U', L, hT, X', hL, e1, e2, hq, st⟩
  · dsimp only [Pt.U, Pt.locs, Pt.cells, Pt.slots] at X' e1 e2 h1 h2 h3 st hcl
    subst h1; subst h2; subst h3
    exact Or.inr ⟨q, (T.setVm vm₁).calling g' mk (Value.ref b :: As).toArray, t, U', L, E, ce, hT, X', hL, e1, e2, hq, hce, hcv, vx_cls hW₁ hcl, st⟩
end VXID
/-! ===== END ===== -/
/-! ===== BEGIN a method of a class above, found by the receiver, that may throw (follows va_callVU, va_runU of this kit) ===== -/
section
variable {p : Program} {l : Launch} {e : Env} {R : Room} {s : State} {m : MethodId} {args : Array Value} {below : List Frame} {meth : Method} {c : Code} {H : Heap} {locs : List Loc} {cells slots : Nat}
theorem vx_callVU {T : State} {locs : List Loc} {cells slots : Nat} (X : Stand p l e R s m args below meth c T locs cells slots) (hexec : p.tables.exec = Jvm.exec) {own C owner : String} {index : Nat} {x y : MethodName} {bytes : ByteArray} {maxL : Nat} {ret : Option FieldType}
    (hown : s.vm.findClass own = some m.cls) (hlink : (Cond.methodLink own index x).before args s = true) (hsame : (Cond.sameMethod x.cls owner x.name x.desc).before args s = true)
    (hd0 : va_Decl s ⟨owner, x.name, x.desc⟩) (howner : owner ≠ "java/lang/invoke/MethodHandle" ∧ owner ≠ "java/lang/invoke/VarHandle")
    (hsel : (Cond.selects C x y).before args s = true) (hinst : (Cond.instanceMethod y).before args s = true) (hcode : (Cond.code y bytes maxL ret).before args s = true)
    {W : Nat} {Pre : Pt → Array Value → Prop} {Post : Pt → Array Value → Option Value → Pt → Prop} {PostX : Pt → Array Value → Addr → Pt → Prop} (hK : vx_Back l R p e below s args y 3 W Pre Post PostX)
    {b : Addr} {cellB : Cell} (hcell : T.heap[b]? = some cellB) (hobj : cellB.vm.isStatics = false) (hcls : s.vm.findClass C = some cellB.cls)
    {g : JFrame} (hg : g.method = m) (hsize : g.locals.size = c.maxLocals) {argsL rest : List Value} (hlen : ∀ sig, parseMethodDescriptor x.desc = some sig → argsL.length = sig.parameters.length)
    (hstack : g.stack = argsL.reverse ++ .ref b :: rest) (hW : 2 * g.monitorRoom + (rest.map fun v => v.category).sum ≤ W) (hdg : decode c.code g.pc = .ok (.invokevirtual index, 3))
    (hpre : ∀ vm₁, s.WarmedH vm₁ → Pre ⟨T.setVm vm₁, locs, cells, slots⟩ (Value.ref b :: argsL).toArray) :
    (∃ (v : Option Value) (vm₁ : Vm) (B : Pt), s.WarmedH vm₁ ∧ Stand p l e R s m args below meth c B.U B.locs B.cells B.slots ∧ Post ⟨T.setVm vm₁, locs, cells, slots⟩ (Value.ref b :: argsL).toArray v B ∧
      ∀ target, Steps p.tables e below (B.U.setTop { g with pc := g.pc + 3, stack := v.toList ++ rest }) target → Steps p.tables e below (T.setTop g) target) ∨
    (∃ (q : Addr) (vm₁ : Vm) (B : Pt), s.WarmedH vm₁ ∧ Stand p l e R s m args below meth c B.U B.locs B.cells B.slots ∧ PostX ⟨T.setVm vm₁, locs, cells, slots⟩ (Value.ref b :: argsL).toArray q B ∧
      Steps p.tables e below (T.setTop g) ((B.U.setTop { g with stack := rest }).pushFrame (.throwing q))) := by
  obtain ⟨r0, r, hn, hrm, hstR, hsigR⟩ := hd0
  obtain ⟨cn, ck, r1, hcn, hck, hni, hf, hn1⟩ := Cond.sameMethod_found hsame
  cases hn.symm.trans hn1
  obtain ⟨mk, methM, hnamed, hmethM, -, habM⟩ := Cond.instanceMethod_spec hinst
  obtain ⟨c2, r2, m2, q1, q2, q3, q4, kP, hkP, hkPi⟩ := Cond.selects_spec hsel
  cases hcls.symm.trans q1
  cases hf.symm.trans q2
  cases hnamed.symm.trans q3
  have hselP : selectMethod e.platform s.vm cellB.cls r0 = .method mk := by rw [Launch.admits_selectMethod X.admits]; exact q4
  obtain ⟨vm₁, X₁, hstep₁⟩ := X.invokevirtualUp hexec hown hlink hsame howner hn hrm hstR (a := b) (cell := cellB) hcell
    (fun z h => by rw [h] at hobj; cases hobj) hselP hmethM habM hkP hkPi (g := g) hg (argsL := argsL) (rest := rest) (hlen _ hsigR) hstack hdg
  rcases hK m meth c ⟨T.setVm vm₁, locs, cells, slots⟩ { g with stack := rest } (.invokevirtual index) mk (Value.ref b :: argsL).toArray X₁ hg hsize hdg hW (X₁.named hnamed) (hpre vm₁ X₁.warmed) with ⟨v, B, X', hpost, hsteps⟩ | ⟨q, B, X', hpost, hsteps⟩
  · exact Or.inl ⟨v, vm₁, B, X₁.warmed, X', hpost, fun target h => hstep₁ _ fun acts => by rw [doInvoke_state]; exact hsteps.trans h⟩
  · exact Or.inr ⟨q, vm₁, B, X₁.warmed, X', hpost, hstep₁ _ fun acts => by rw [doInvoke_state]; exact hsteps⟩
theorem vx_runU {x y : MethodName} {bytes cc : ByteArray} {maxL nL mc ms n index : Nat} {ret : Option FieldType} {ws : List Cond} {rm : Room} {Pc : Array Value → State → Prop} {Qc : Array Value → State → Outcome → State → Prop} {XC : String → State → State → Prop} {free : Addr → Prop} {Ts : List Cond} {own C owner : String} {b : Addr} {As rest : List Value} {g : JFrame}
    (S : CallFix p m c cc nL s args Ts own) (hM : vx_Met l y ws rm Pc Qc XC mc ms free) (cw : va_CU R s args own C owner index x y bytes maxL ret ws rm mc ms n) (hp : PreV s H C b Pc As)
    (hg : g.method = m) (hn : As.length = n) (hsize : g.locals.size = nL) (hstack : g.stack = As.reverse ++ .ref b :: rest) (hW : 2 * g.monitorRoom + (rest.map fun v => v.category).sum ≤ 8) (hdg : decode cc g.pc = .ok (.invokevirtual index, 3)) (hf : cells + mc ≤ R.cells ∧ slots + ms ≤ R.slots) :
    vx_Run p l e R s m args below meth c H locs cells slots mc ms g rest (Qc (Value.ref b :: As).toArray) XC free := by
  obtain ⟨hrc, hrs, hfr, hlo, hws, hcw⟩ := cw.back
  have hini := cw.init
  have hK : vx_Back l R p e below s args y 3 8 (PreOf R mc ms Pc) (PostOf Qc mc ms free) (vx_Post XC mc ms free) := vx_back (bytes := bytes) (maxL := maxL) (ret := ret) hM hp.1 hrc hrs hfr hlo hws hcw (fun a' U hW => word_at hW (Or.inl (by first | rfl | simp [Cond.onTables, Cond.keeps, Cond.steady])) hini)
  obtain ⟨hx, hb, hml, ho, -⟩ := S
  obtain ⟨-, ⟨cellB, hcB, hoB, hclB⟩, hPc⟩ := hp
  intro T hT X
  rcases vx_callVU X hx (C := C) (owner := owner) (bytes := bytes) (maxL := maxL) (ret := ret) ho cw.link cw.same cw.decl cw.notMH cw.sel cw.inst cw.code hK (by rw [hT]; exact hcB) hoB hclB hg (hsize.trans hml.symm) (argsL := As) (rest := rest) (fun sig h => hn.trans (cw.len sig h)) hstack hW (by rw [hb]; exact hdg)
    (fun vm₁ hW₁ => ⟨hf.1, hf.2, hPc (T.setVm vm₁) hT hW₁⟩) with ⟨v, vm₁, ⟨U', l2, c2, s2⟩, hW₁, X', ⟨g', mk, t, L, e1, e2, hq, h1, hL, h2, h3⟩, st⟩ | ⟨q, vm₁, ⟨U', l2, c2, s2⟩, hW₁, X', ⟨g', mk, t, L, E, ce, e1, e2, hq, hce, hcv, hcl, h1, hL, h2, h3⟩, st⟩
  · dsimp only [Pt.U, Pt.locs, Pt.cells, Pt.slots] at X' e1 e2 h1 h2 h3 st
    subst h1; subst h2; subst h3
    exact Or.inl ⟨v, (T.setVm vm₁).calling g' mk (Value.ref b :: As).toArray, t, U', L, hT, X', hL, e1, e2, hq, st⟩
  · dsimp only [Pt.U, Pt.locs, Pt.cells, Pt.slots] at X' e1 e2 h1 h2 h3 st hcl
    subst h1; subst h2; subst h3
    exact Or.inr ⟨q, (T.setVm vm₁).calling g' mk (Value.ref b :: As).toArray, t, U', L, E, ce, hT, X', hL, e1, e2, hq, hce, hcv, vx_cls hW₁ hcl, st⟩
end
/-! ===== END ===== -/
/-! ===== BEGIN super.m(..) that may throw (follows va_callSU, va_runSU) ===== -/
section
variable {p : Program} {l : Launch} {e : Env} {R : Room} {s : State} {m : MethodId} {args : Array Value} {below : List Frame} {meth : Method} {c : Code} {H : Heap} {locs : List Loc} {cells slots : Nat}
theorem vx_callSU {T : State} {locs : List Loc} {cells slots : Nat} (X : Stand p l e R s m args below meth c T locs cells slots) (hexec : p.tables.exec = Jvm.exec) {own : String} {index : Nat} {y : MethodName} {bytes : ByteArray} {maxL : Nat} {ret : Option FieldType}
    (hown : s.vm.findClass own = some m.cls) (hlink : (Cond.methodLink own index y).before args s = true) (hsame : (Cond.sameMethod y.cls y.cls y.name y.desc).before args s = true) (hsup : (Cond.superclass own y.cls).before args s = true)
    (hinst : (Cond.instanceMethod y).before args s = true) (hcode : (Cond.code y bytes maxL ret).before args s = true) (hno : y.name ≠ "<init>")
    {W : Nat} {Pre : Pt → Array Value → Prop} {Post : Pt → Array Value → Option Value → Pt → Prop} {PostX : Pt → Array Value → Addr → Pt → Prop} (hK : vx_Back l R p e below s args y 3 W Pre Post PostX)
    {b : Addr} {cellB : Cell} {kB : Class} (hcell : T.heap[b]? = some cellB) (hobj : cellB.vm.isStatics = false) (hkB : s.vm.classes[cellB.cls]? = some kB)
    {g : JFrame} (hg : g.method = m) (hsize : g.locals.size = c.maxLocals) {argsL rest : List Value} (hlen : ∀ sig, parseMethodDescriptor y.desc = some sig → argsL.length = sig.parameters.length)
    (hstack : g.stack = argsL.reverse ++ .ref b :: rest) (hW : 2 * g.monitorRoom + (rest.map fun v => v.category).sum ≤ W) (hdg : decode c.code g.pc = .ok (.invokespecial index, 3))
    (hpre : ∀ vm₁, s.WarmedH vm₁ → Pre ⟨T.setVm vm₁, locs, cells, slots⟩ (Value.ref b :: argsL).toArray) :
    (∃ (v : Option Value) (vm₁ : Vm) (B : Pt), s.WarmedH vm₁ ∧ Stand p l e R s m args below meth c B.U B.locs B.cells B.slots ∧ Post ⟨T.setVm vm₁, locs, cells, slots⟩ (Value.ref b :: argsL).toArray v B ∧
      ∀ target, Steps p.tables e below (B.U.setTop { g with pc := g.pc + 3, stack := v.toList ++ rest }) target → Steps p.tables e below (T.setTop g) target) ∨
    (∃ (q : Addr) (vm₁ : Vm) (B : Pt), s.WarmedH vm₁ ∧ Stand p l e R s m args below meth c B.U B.locs B.cells B.slots ∧ PostX ⟨T.setVm vm₁, locs, cells, slots⟩ (Value.ref b :: argsL).toArray q B ∧
      Steps p.tables e below (T.setTop g) ((B.U.setTop { g with stack := rest }).pushFrame (.throwing q))) := by
  obtain ⟨mk, methM, hnamed, hmethM, hstM, habM⟩ := Cond.instanceMethod_spec hinst
  obtain ⟨methM', cM, hmethM', -, -, -, -, -, -, hsigM⟩ := Cond.code_spec hnamed hcode
  cases hmethM.symm.trans hmethM'
  obtain ⟨ps, dk, kp, hps, hdk, hkp, hsuper, -, -, hnid⟩ := Cond.superclass_spec hown hsup
  have hn : s.methodNamed? ⟨y.cls, y.name, y.desc⟩ = some mk := hnamed
  have hpm : ps = mk.cls := Option.some.inj (hps.symm.trans (findClass_of_methodNamed hnamed))
  have hsub : s.vm.isSubclass ps mk.cls = true := by rw [hpm]; simp [Vm.isSubclass, Vm.isSubclassAux]
  obtain ⟨vm₁, X₁, hstep₁⟩ := X.invokespecialUp hexec hown hlink hsame hn hmethM hstM habM hno hdk hnid hps hsuper hsub (a := b) (cell := cellB) hcell
    (fun z h => by rw [h] at hobj; cases hobj) hkB (g := g) hg (argsL := argsL) (rest := rest) (hlen _ hsigM) hstack hdg
  rcases hK m meth c ⟨T.setVm vm₁, locs, cells, slots⟩ { g with stack := rest } (.invokespecial index) mk (Value.ref b :: argsL).toArray X₁ hg hsize hdg hW (X₁.named hnamed) (hpre vm₁ X₁.warmed) with ⟨v, B, X', hpost, hsteps⟩ | ⟨q, B, X', hpost, hsteps⟩
  · exact Or.inl ⟨v, vm₁, B, X₁.warmed, X', hpost, fun target h => hstep₁ _ (by rw [doInvoke_state]; exact hsteps.trans h)⟩
  · exact Or.inr ⟨q, vm₁, B, X₁.warmed, X', hpost, hstep₁ _ (by rw [doInvoke_state]; exact hsteps)⟩
theorem vx_runSU {y : MethodName} {bytes cc : ByteArray} {maxL nL mc ms n index : Nat} {ret : Option FieldType} {ws : List Cond} {rm : Room} {Pc : Array Value → State → Prop} {Qc : Array Value → State → Outcome → State → Prop} {XC : String → State → State → Prop} {free : Addr → Prop} {Ts : List Cond} {own C : String} {cC : ClassId} {b : Addr} {As rest : List Value} {g : JFrame}
    (hat : ClassAt s C cC) (S : CallFix p m c cc nL s args Ts own) (hM : vx_Met l y ws rm Pc Qc XC mc ms free) (cw : va_CS R s args own index y bytes maxL ret ws rm mc ms n) (hp : PreV s H C b Pc As)
    (hg : g.method = m) (hn : As.length = n) (hsize : g.locals.size = nL) (hstack : g.stack = As.reverse ++ .ref b :: rest) (hW : 2 * g.monitorRoom + (rest.map fun v => v.category).sum ≤ 8) (hdg : decode cc g.pc = .ok (.invokespecial index, 3)) (hf : cells + mc ≤ R.cells ∧ slots + ms ≤ R.slots) :
    vx_Run p l e R s m args below meth c H locs cells slots mc ms g rest (Qc (Value.ref b :: As).toArray) XC free := by
  obtain ⟨⟨hrc, hrs, hfr, hlo, hws, hcw⟩, hl1, hl2, hl3, hl4, hini, hcode, hno, hlen⟩ := cw
  have hK : vx_Back l R p e below s args y 3 8 (PreOf R mc ms Pc) (PostOf Qc mc ms free) (vx_Post XC mc ms free) := vx_back (bytes := bytes) (maxL := maxL) (ret := ret) hM hp.1 hrc hrs hfr hlo hws hcw (fun a' U hW => word_at hW (Or.inl (by first | rfl | simp [Cond.onTables, Cond.keeps, Cond.steady])) hini)
  obtain ⟨hx, hb, hml, ho, -⟩ := S
  obtain ⟨-, ⟨cellB, hcB, hoB, hclB⟩, hPc⟩ := hp
  obtain ⟨hfc, kB, hkB, -⟩ := hat
  cases hfc.symm.trans hclB
  intro T hT X
  rcases vx_callSU X hx (bytes := bytes) (maxL := maxL) (ret := ret) ho hl1 hl2 hl3 hl4 hcode hno hK (by rw [hT]; exact hcB) hoB hkB hg (hsize.trans hml.symm) (argsL := As) (rest := rest) (fun sig h => hn.trans (hlen sig h)) hstack hW (by rw [hb]; exact hdg)
    (fun vm₁ hW₁ => ⟨hf.1, hf.2, hPc (T.setVm vm₁) hT hW₁⟩) with ⟨v, vm₁, ⟨U', l2, c2, s2⟩, hW₁, X', ⟨g', mk, t, L, e1, e2, hq, h1, hL, h2, h3⟩, st⟩ | ⟨q, vm₁, ⟨U', l2, c2, s2⟩, hW₁, X', ⟨g', mk, t, L, E, ce, e1, e2, hq, hce, hcv, hcl, h1, hL, h2, h3⟩, st⟩
  · dsimp only [Pt.U, Pt.locs, Pt.cells, Pt.slots] at X' e1 e2 h1 h2 h3 st
    subst h1; subst h2; subst h3
    exact Or.inl ⟨v, (T.setVm vm₁).calling g' mk (Value.ref b :: As).toArray, t, U', L, hT, X', hL, e1, e2, hq, st⟩
  · dsimp only [Pt.U, Pt.locs, Pt.cells, Pt.slots] at X' e1 e2 h1 h2 h3 st hcl
    subst h1; subst h2; subst h3
    exact Or.inr ⟨q, (T.setVm vm₁).calling g' mk (Value.ref b :: As).toArray, t, U', L, E, ce, hT, X', hL, e1, e2, hq, hce, hcv, vx_cls hW₁ hcl, st⟩
end
/-! ===== END ===== -/
/-! ===== BEGIN a private method of a nest mate that may throw (follows va_callVN, va_callSN, va_runVN, va_runSN) ===== -/
section
variable {p : Program} {l : Launch} {e : Env} {R : Room} {s : State} {m : MethodId} {args : Array Value} {below : List Frame} {meth : Method} {c : Code} {H : Heap} {locs : List Loc} {cells slots : Nat}
variable {T : State}
theorem vx_callVN (X : Stand p l e R s m args below meth c T locs cells slots) (hexec : p.tables.exec = Jvm.exec) {own C : String} {index : Nat} {host : String} {y : MethodName} {bytes : ByteArray} {maxL : Nat} {ret : Option FieldType}
    (hown : s.vm.findClass own = some m.cls) (hlink : (Cond.methodLinkNest own index y host).before args s = true) (hinst : (Cond.instanceMethod y).before args s = true) (hsel : (Cond.selects C y y).before args s = true)
    (hcode : (Cond.code y bytes maxL ret).before args s = true) (hy : y.cls ≠ "java/lang/invoke/MethodHandle" ∧ y.cls ≠ "java/lang/invoke/VarHandle")
    {W : Nat} {Pre : Pt → Array Value → Prop} {Post : Pt → Array Value → Option Value → Pt → Prop} {PostX : Pt → Array Value → Addr → Pt → Prop} (hK : vx_Back l R p e below s args y 3 W Pre Post PostX)
    {b : Addr} {cellB : Cell} (hcell : T.heap[b]? = some cellB) (hobj : cellB.vm.isStatics = false) (hcls : s.vm.findClass C = some cellB.cls)
    {g : JFrame} (hg : g.method = m) (hsize : g.locals.size = c.maxLocals) {argsL rest : List Value} (hlen : ∀ sig, parseMethodDescriptor y.desc = some sig → argsL.length = sig.parameters.length)
    (hstack : g.stack = argsL.reverse ++ .ref b :: rest) (hW : 2 * g.monitorRoom + (rest.map fun v => v.category).sum ≤ W) (hdg : decode c.code g.pc = .ok (.invokevirtual index, 3))
    (hpre : ∀ vm₁, s.WarmedH vm₁ → Pre ⟨T.setVm vm₁, locs, cells, slots⟩ (Value.ref b :: argsL).toArray) :
    (∃ (v : Option Value) (vm₁ : Vm) (B : Pt), s.WarmedH vm₁ ∧ Stand p l e R s m args below meth c B.U B.locs B.cells B.slots ∧ Post ⟨T.setVm vm₁, locs, cells, slots⟩ (Value.ref b :: argsL).toArray v B ∧
      ∀ target, Steps p.tables e below (B.U.setTop { g with pc := g.pc + 3, stack := v.toList ++ rest }) target → Steps p.tables e below (T.setTop g) target) ∨
    (∃ (q : Addr) (vm₁ : Vm) (B : Pt), s.WarmedH vm₁ ∧ Stand p l e R s m args below meth c B.U B.locs B.cells B.slots ∧ PostX ⟨T.setVm vm₁, locs, cells, slots⟩ (Value.ref b :: argsL).toArray q B ∧
      Steps p.tables e below (T.setTop g) ((B.U.setTop { g with stack := rest }).pushFrame (.throwing q))) := by
  obtain ⟨mk, methM, hnamed, hmethM, hstM, habM⟩ := Cond.instanceMethod_spec hinst
  obtain ⟨methM', cM, hmethM', -, -, -, -, -, -, hsigM⟩ := Cond.code_spec hnamed hcode
  cases hmethM.symm.trans hmethM'
  obtain ⟨c2, r2, m2, q1, q2, q3, q4, kP, hkP, hkPi⟩ := Cond.selects_spec hsel
  cases hcls.symm.trans q1
  cases (State.methodFound?_of_named hnamed hy).symm.trans q2
  cases hnamed.symm.trans q3
  have hselP : selectMethod e.platform s.vm cellB.cls mk = .method mk := by rw [Launch.admits_selectMethod X.admits]; exact q4
  obtain ⟨vm₁, X₁, hstep₁⟩ := X.invokevirtualNest hexec hown hlink hnamed hmethM hstM hkP hkPi hy (a := b) (cell := cellB) hcell
    (fun z h => by rw [h] at hobj; cases hobj) hselP hmethM habM hkP hkPi (g := g) hg (argsL := argsL) (rest := rest) (hlen _ hsigM) hstack hdg
  rcases hK m meth c ⟨T.setVm vm₁, locs, cells, slots⟩ { g with stack := rest } (.invokevirtual index) mk (Value.ref b :: argsL).toArray X₁ hg hsize hdg hW (X₁.named hnamed) (hpre vm₁ X₁.warmed) with ⟨v, B, X', hpost, hsteps⟩ | ⟨q, B, X', hpost, hsteps⟩
  · exact Or.inl ⟨v, vm₁, B, X₁.warmed, X', hpost, fun target h => hstep₁ _ fun acts => by rw [doInvoke_state]; exact hsteps.trans h⟩
  · exact Or.inr ⟨q, vm₁, B, X₁.warmed, X', hpost, hstep₁ _ fun acts => by rw [doInvoke_state]; exact hsteps⟩
theorem vx_callSN (X : Stand p l e R s m args below meth c T locs cells slots) (hexec : p.tables.exec = Jvm.exec) {own : String} {index : Nat} {host : String} {y : MethodName} {bytes : ByteArray} {maxL : Nat} {ret : Option FieldType}
    (hown : s.vm.findClass own = some m.cls) (hlink : (Cond.methodLinkNest own index y host).before args s = true) (hstat : (Cond.static y).before args s = true) (hinit : (Cond.initialized y.cls).before args s = true)
    (hcode : (Cond.code y bytes maxL ret).before args s = true) (hy : y.cls ≠ "java/lang/invoke/MethodHandle" ∧ y.cls ≠ "java/lang/invoke/VarHandle")
    {W : Nat} {Pre : Pt → Array Value → Prop} {Post : Pt → Array Value → Option Value → Pt → Prop} {PostX : Pt → Array Value → Addr → Pt → Prop} (hK : vx_Back l R p e below s args y 3 W Pre Post PostX)
    {g : JFrame} (hg : g.method = m) (hsize : g.locals.size = c.maxLocals) {argsL rest : List Value} (hlen : ∀ sig, parseMethodDescriptor y.desc = some sig → argsL.length = sig.parameters.length)
    (hstack : g.stack = argsL.reverse ++ rest) (hW : 2 * g.monitorRoom + (rest.map fun v => v.category).sum ≤ W) (hdg : decode c.code g.pc = .ok (.invokestatic index, 3))
    (hpre : ∀ vm₁, s.WarmedH vm₁ → Pre ⟨T.setVm vm₁, locs, cells, slots⟩ argsL.toArray) :
    (∃ (v : Option Value) (vm₁ : Vm) (B : Pt), s.WarmedH vm₁ ∧ Stand p l e R s m args below meth c B.U B.locs B.cells B.slots ∧ Post ⟨T.setVm vm₁, locs, cells, slots⟩ argsL.toArray v B ∧
      ∀ target, Steps p.tables e below (B.U.setTop { g with pc := g.pc + 3, stack := v.toList ++ rest }) target → Steps p.tables e below (T.setTop g) target) ∨
    (∃ (q : Addr) (vm₁ : Vm) (B : Pt), s.WarmedH vm₁ ∧ Stand p l e R s m args below meth c B.U B.locs B.cells B.slots ∧ PostX ⟨T.setVm vm₁, locs, cells, slots⟩ argsL.toArray q B ∧
      Steps p.tables e below (T.setTop g) ((B.U.setTop { g with stack := rest }).pushFrame (.throwing q))) := by
  obtain ⟨mk, hnamed⟩ := Cond.code_named hcode
  obtain ⟨methM, cM, hmethM, -, -, -, -, -, -, hsigM⟩ := Cond.code_spec hnamed hcode
  have hstatic : methM.isStatic = true := Cond.static_spec hnamed hmethM hstat
  obtain ⟨kP, hkP, -⟩ := className_of_methodNamed hnamed
  have hinitP : kP.init = .initialized := Cond.initialized_spec (findClass_of_methodNamed hnamed) hkP hinit
  obtain ⟨vm₁, X₁, hstep₁⟩ := X.invokestaticNest hexec hown hlink hnamed hmethM hstatic hkP hinitP hy (g := g) hg (argsL := argsL) (rest := rest) (hlen _ hsigM) hstack hdg
  rcases hK m meth c ⟨T.setVm vm₁, locs, cells, slots⟩ { g with stack := rest } (.invokestatic index) mk argsL.toArray X₁ hg hsize hdg hW (X₁.named hnamed) (hpre vm₁ X₁.warmed) with ⟨v, B, X', hpost, hsteps⟩ | ⟨q, B, X', hpost, hsteps⟩
  · exact Or.inl ⟨v, vm₁, B, X₁.warmed, X', hpost, fun target h => hstep₁ _ fun acts => by rw [doInvoke_state]; exact hsteps.trans h⟩
  · exact Or.inr ⟨q, vm₁, B, X₁.warmed, X', hpost, hstep₁ _ fun acts => by rw [doInvoke_state]; exact hsteps⟩
theorem vx_runVN {y : MethodName} {bytes cc : ByteArray} {maxL nL mc ms n index : Nat} {ret : Option FieldType} {ws : List Cond} {rm : Room} {Pc : Array Value → State → Prop} {Qc : Array Value → State → Outcome → State → Prop} {XC : String → State → State → Prop} {free : Addr → Prop} {Ts : List Cond} {own C host : String} {b : Addr} {As rest : List Value} {g : JFrame}
    (S : CallFix p m c cc nL s args Ts own) (hM : vx_Met l y ws rm Pc Qc XC mc ms free) (cw : va_CN R s args own index y host bytes maxL ret ws rm mc ms n ∧ (Cond.instanceMethod y).before args s = true ∧ (Cond.selects C y y).before args s = true) (hp : PreV s H C b Pc As)
    (hg : g.method = m) (hn : As.length = n) (hsize : g.locals.size = nL) (hstack : g.stack = As.reverse ++ .ref b :: rest) (hW : 2 * g.monitorRoom + (rest.map fun v => v.category).sum ≤ 8) (hdg : decode cc g.pc = .ok (.invokevirtual index, 3)) (hf : cells + mc ≤ R.cells ∧ slots + ms ≤ R.slots) :
    vx_Run p l e R s m args below meth c H locs cells slots mc ms g rest (Qc (Value.ref b :: As).toArray) XC free := by
  obtain ⟨⟨⟨hrc, hrs, hfr, hlo, hws, hcw⟩, hcode, hini, hy, hlen, hl⟩, hx1, hx2⟩ := cw
  have hK : vx_Back l R p e below s args y 3 8 (PreOf R mc ms Pc) (PostOf Qc mc ms free) (vx_Post XC mc ms free) := vx_back (bytes := bytes) (maxL := maxL) (ret := ret) hM hp.1 hrc hrs hfr hlo hws hcw (fun a' U hW => word_at hW (Or.inl (by first | rfl | simp [Cond.onTables, Cond.keeps, Cond.steady])) hini)
  obtain ⟨hx, hb, hml, ho, -⟩ := S
  obtain ⟨-, ⟨cellB, hcB, hoB, hclB⟩, hPc⟩ := hp
  intro T hT X
  rcases vx_callVN X hx (C := C) (bytes := bytes) (maxL := maxL) (ret := ret) ho hl hx1 hx2 hcode hy hK (by rw [hT]; exact hcB) hoB hclB hg (hsize.trans hml.symm) (argsL := As) (rest := rest) (fun sig h => hn.trans (hlen sig h)) hstack hW (by rw [hb]; exact hdg)
    (fun vm₁ hW₁ => ⟨hf.1, hf.2, hPc (T.setVm vm₁) hT hW₁⟩) with ⟨v, vm₁, ⟨U', l2, c2, s2⟩, hW₁, X', ⟨g', mk, t, L, e1, e2, hq, h1, hL, h2, h3⟩, st⟩ | ⟨q, vm₁, ⟨U', l2, c2, s2⟩, hW₁, X', ⟨g', mk, t, L, E, ce, e1, e2, hq, hce, hcv, hcl, h1, hL, h2, h3⟩, st⟩
  · dsimp only [Pt.U, Pt.locs, Pt.cells, Pt.slots] at X' e1 e2 h1 h2 h3 st
    subst h1; subst h2; subst h3
    exact Or.inl ⟨v, (T.setVm vm₁).calling g' mk (Value.ref b :: As).toArray, t, U', L, hT, X', hL, e1, e2, hq, st⟩
  · dsimp only [Pt.U, Pt.locs, Pt.cells, Pt.slots] at X' e1 e2 h1 h2 h3 st hcl
    subst h1; subst h2; subst h3
    exact Or.inr ⟨q, (T.setVm vm₁).calling g' mk (Value.ref b :: As).toArray, t, U', L, E, ce, hT, X', hL, e1, e2, hq, hce, hcv, vx_cls hW₁ hcl, st⟩
theorem vx_runSN {y : MethodName} {bytes cc : ByteArray} {maxL nL mc ms n index : Nat} {ret : Option FieldType} {ws : List Cond} {rm : Room} {Pc : Array Value → State → Prop} {Qc : Array Value → State → Outcome → State → Prop} {XC : String → State → State → Prop} {free : Addr → Prop} {Ts : List Cond} {own host : String} {As rest : List Value} {g : JFrame}
    (S : CallFix p m c cc nL s args Ts own) (hM : vx_Met l y ws rm Pc Qc XC mc ms free) (cw : va_CN R s args own index y host bytes maxL ret ws rm mc ms n ∧ (Cond.static y).before args s = true ∧ True) (hp : PreS s H Pc As)
    (hg : g.method = m) (hn : As.length = n) (hsize : g.locals.size = nL) (hstack : g.stack = As.reverse ++ rest) (hW : 2 * g.monitorRoom + (rest.map fun v => v.category).sum ≤ 8) (hdg : decode cc g.pc = .ok (.invokestatic index, 3)) (hf : cells + mc ≤ R.cells ∧ slots + ms ≤ R.slots) :
    vx_Run p l e R s m args below meth c H locs cells slots mc ms g rest (Qc As.toArray) XC free := by
  obtain ⟨⟨⟨hrc, hrs, hfr, hlo, hws, hcw⟩, hcode, hini, hy, hlen, hl⟩, hx1, hx2⟩ := cw
  have hK : vx_Back l R p e below s args y 3 8 (PreOf R mc ms Pc) (PostOf Qc mc ms free) (vx_Post XC mc ms free) := vx_back (bytes := bytes) (maxL := maxL) (ret := ret) hM hp.1 hrc hrs hfr hlo hws hcw (fun a' U hW => word_at hW (Or.inl (by first | rfl | simp [Cond.onTables, Cond.keeps, Cond.steady])) hini)
  obtain ⟨hx, hb, hml, ho, -⟩ := S
  have hPc := hp.2
  intro T hT X
  rcases vx_callSN X hx (bytes := bytes) (maxL := maxL) (ret := ret) ho hl hx1 hini hcode hy hK hg (hsize.trans hml.symm) (argsL := As) (rest := rest) (fun sig h => hn.trans (hlen sig h)) hstack hW (by rw [hb]; exact hdg)
    (fun vm₁ hW₁ => ⟨hf.1, hf.2, hPc (T.setVm vm₁) hT hW₁⟩) with ⟨v, vm₁, ⟨U', l2, c2, s2⟩, hW₁, X', ⟨g', mk, t, L, e1, e2, hq, h1, hL, h2, h3⟩, st⟩ | ⟨q, vm₁, ⟨U', l2, c2, s2⟩, hW₁, X', ⟨g', mk, t, L, E, ce, e1, e2, hq, hce, hcv, hcl, h1, hL, h2, h3⟩, st⟩
  · dsimp only [Pt.U, Pt.locs, Pt.cells, Pt.slots] at X' e1 e2 h1 h2 h3 st
    subst h1; subst h2; subst h3
    exact Or.inl ⟨v, (T.setVm vm₁).calling g' mk As.toArray, t, U', L, hT, X', hL, e1, e2, hq, st⟩
  · dsimp only [Pt.U, Pt.locs, Pt.cells, Pt.slots] at X' e1 e2 h1 h2 h3 st hcl
    subst h1; subst h2; subst h3
    exact Or.inr ⟨q, (T.setVm vm₁).calling g' mk As.toArray, t, U', L, E, ce, hT, X', hL, e1, e2, hq, hce, hcv, vx_cls hW₁ hcl, st⟩
end
/-! ===== END ===== -/
/-! ===== BEGIN calls by an interface of methods that may throw (vx_callIF, vx_runF follow va_callIF, va_runF of this kit) ===== -/
section
variable {p : Program} {l : Launch} {e : Env} {R : Room} {s : State} {m : MethodId} {args : Array Value} {below : List Frame} {meth : Method} {c : Code} {H : Heap} {locs : List Loc} {cells slots : Nat} {Q : State → Prop}
variable {mc ms : Nat} {free : Addr → Prop} {A0 A1 : Nat → Prop} {H0 : Heap} {a : Array Value} {pc : Nat} {ls : Array Slot} {st0 rest : List Value}
def vx_Run5 (p : Program) (l : Launch) (e : Env) (R : Room) (s : State) (m : MethodId) (args : Array Value) (below : List Frame) (meth : Method) (c : Code) (H : Heap) (locs : List Loc) (cells slots mc ms : Nat) (g : JFrame) (rest : List Value) (Qa : State → Outcome → State → Prop) (XC : String → State → State → Prop) (free : Addr → Prop) : Prop :=
  ∀ T : State, T.heap = H → Stand p l e R s m args below meth c T locs cells slots →
    (∃ (v : Option Value) (st₀ t T' : State) (L : List Loc), st₀.heap = H ∧ Stand p l e R s m args below meth c T' (locs ++ L) (cells + mc) (slots + ms) ∧ (∀ q ∈ L, free q.base) ∧ T'.heap = t.heap ∧ T'.vm = t.vm ∧ Qa st₀ (.returned v) t ∧
      Goes p e below T g T' { g with pc := g.pc + 5, stack := v.toList ++ rest }) ∨
    (∃ (q : Addr) (st₀ t T' : State) (L : List Loc) (E : String) (ce : Cell), st₀.heap = H ∧ Stand p l e R s m args below meth c T' (locs ++ L) (cells + mc) (slots + ms) ∧ (∀ z ∈ L, free z.base) ∧ T'.heap = t.heap ∧ T'.vm = t.vm ∧ XC E st₀ t ∧ t.heap[q]? = some ce ∧ ce.vm = .none ∧ s.vm.findClass E = some ce.cls ∧
      Steps p.tables e below (T.setTop g) ((T'.setTop { g with stack := rest }).pushFrame (.throwing q)))
theorem vx_callIF {T : State} (X : Stand p l e R s m args below meth c T locs cells slots) (hexec : p.tables.exec = Jvm.exec) {own C : String} {index count : Nat} {x y : MethodName} {bytes : ByteArray} {maxL : Nat} {ret : Option FieldType}
    (hown : s.vm.findClass own = some m.cls) (hlink : (Cond.methodLink own index x).before args s = true) (hdecl : (Cond.declares x).before args s = true) (hface : (Cond.interfaceMethod x.cls x.cls x.name x.desc).before args s = true)
    (hsel : (Cond.selects C x y).before args s = true) (hinst : (Cond.instanceMethod y).before args s = true) (hpub : (Cond.publicMethod y).before args s = true) (hunh : (Cond.unhidden C x.name x.desc).before args s = true)
    (hcast : (Cond.castable C x.cls).before args s = true) (hcode : (Cond.code y bytes maxL ret).before args s = true) (hx : x.cls ≠ "java/lang/invoke/MethodHandle" ∧ x.cls ≠ "java/lang/invoke/VarHandle")
    {W9 : Nat} {Pre : Pt → Array Value → Prop} {Post : Pt → Array Value → Option Value → Pt → Prop} {PostX : Pt → Array Value → Addr → Pt → Prop} (hK : vx_Back l R p e below s args y 5 W9 Pre Post PostX)
    {b : Addr} {cellB : Cell} {kB : Class} (hcell : T.heap[b]? = some cellB) (hobj : cellB.vm.isStatics = false) (hcls : s.vm.findClass C = some cellB.cls) (hkB : s.vm.classes[cellB.cls]? = some kB)
    {g : JFrame} (hg : g.method = m) (hsize : g.locals.size = c.maxLocals) {argsL rest : List Value} (hlen : ∀ sig, parseMethodDescriptor x.desc = some sig → argsL.length = sig.parameters.length)
    (hstack : g.stack = argsL.reverse ++ .ref b :: rest) (hW : 2 * g.monitorRoom + (rest.map fun v => v.category).sum ≤ W9) (hdg : decode c.code g.pc = .ok (.invokeinterface index count, 5))
    (hpre : ∀ vm₁, s.WarmedH vm₁ → Pre ⟨T.setVm vm₁, locs, cells, slots⟩ (Value.ref b :: argsL).toArray) :
    (∃ (v : Option Value) (vm₁ : Vm) (B : Pt), s.WarmedH vm₁ ∧ Stand p l e R s m args below meth c B.U B.locs B.cells B.slots ∧ Post ⟨T.setVm vm₁, locs, cells, slots⟩ (Value.ref b :: argsL).toArray v B ∧
      ∀ target, Steps p.tables e below (B.U.setTop { g with pc := g.pc + 5, stack := v.toList ++ rest }) target → Steps p.tables e below (T.setTop g) target) ∨
    (∃ (q : Addr) (vm₁ : Vm) (B : Pt), s.WarmedH vm₁ ∧ Stand p l e R s m args below meth c B.U B.locs B.cells B.slots ∧ PostX ⟨T.setVm vm₁, locs, cells, slots⟩ (Value.ref b :: argsL).toArray q B ∧
      Steps p.tables e below (T.setTop g) ((B.U.setTop { g with stack := rest }).pushFrame (.throwing q))) := by
  obtain ⟨r0, r, hn, hrm, hstR, hsigR⟩ := Cond.declares_spec hdecl
  obtain ⟨cL, kL, r1, hcL, hkL, hiL, hfoundL, hn1⟩ := Cond.interfaceMethod_spec hface
  cases hn.symm.trans hn1
  have hr0cls : r0.cls = cL := Option.some.inj ((findClass_of_methodNamed hn).symm.trans hcL)
  obtain ⟨hnameR, hdescR⟩ := name_of_methodNamed hn hrm
  obtain ⟨mk, methM, hnamed, hmethM, -, habM⟩ := Cond.instanceMethod_spec hinst
  obtain ⟨c2, r2, m2, q1, q2, q3, q4, -⟩ := Cond.selects_spec hsel
  cases hcls.symm.trans q1
  cases hfoundL.symm.trans q2
  cases hnamed.symm.trans q3
  have hselP : selectMethod e.platform s.vm cellB.cls r0 = .method mk := by rw [Launch.admits_selectMethod X.admits]; exact q4
  have hpubM : hasFlag methM.accessFlags Acc.public_ = true := Cond.publicMethod_spec hnamed hmethM hpub
  have hway : ((cellB.cls :: s.vm.superclasses cellB.cls).any fun k => (declaredIn s.vm r.name r.desc k).any fun (_, z) => z.isPrivate || z.isStatic) = false := by
    rw [hnameR, hdescR]; exact Cond.unhidden_spec hcls hunh
  obtain ⟨c3, t3, w1, w2, w3⟩ := Cond.castable_spec hcast
  cases hcls.symm.trans w1
  cases hcL.symm.trans w2
  obtain ⟨vm₁, X₁, hstep₁⟩ := X.invokeinterface hexec hown hlink hn hrm hstR (by rw [hr0cls]; exact hkL) hiL hx (a := b) (cell := cellB) (kcell := kB) hcell
    (fun z h => by rw [h] at hobj; cases hobj) hkB (by rw [hr0cls]; exact w3) hselP hmethM hway hpubM habM (g := g) hg (argsL := argsL) (rest := rest) (hlen _ hsigR) hstack hdg
  rcases hK m meth c ⟨T.setVm vm₁, locs, cells, slots⟩ { g with stack := rest } (.invokeinterface index count) mk (Value.ref b :: argsL).toArray X₁ hg hsize hdg hW (X₁.named hnamed) (hpre vm₁ X₁.warmed) with ⟨v, B, X', hpost, hsteps⟩ | ⟨q, B, X', hpost, hsteps⟩
  · exact Or.inl ⟨v, vm₁, B, X₁.warmed, X', hpost, fun target h => hstep₁ _ fun acts => by rw [doInvoke_state]; exact hsteps.trans h⟩
  · exact Or.inr ⟨q, vm₁, B, X₁.warmed, X', hpost, hstep₁ _ fun acts => by rw [doInvoke_state]; exact hsteps⟩
theorem vx_runF {x y : MethodName} {bytes cc : ByteArray} {maxL nL mc ms n index count : Nat} {ret : Option FieldType} {ws : List Cond} {rm : Room} {Pc : Array Value → State → Prop} {Qc : Array Value → State → Outcome → State → Prop} {XC : String → State → State → Prop} {free : Addr → Prop} {Ts : List Cond} {own C : String} {cC : ClassId} {b : Addr} {As rest : List Value} {g : JFrame}
    (hat : ClassAt s C cC) (S : CallFix p m c cc nL s args Ts own) (hM : vx_Met l y ws rm Pc Qc XC mc ms free) (cw : va_CI R s args own C index x y bytes maxL ret ws rm mc ms n) (hp : PreV s H C b Pc As)
    (hg : g.method = m) (hn : As.length = n) (hsize : g.locals.size = nL) (hstack : g.stack = As.reverse ++ .ref b :: rest) (hW : 2 * g.monitorRoom + (rest.map fun v => v.category).sum ≤ 8) (hdg : decode cc g.pc = .ok (.invokeinterface index count, 5)) (hf : cells + mc ≤ R.cells ∧ slots + ms ≤ R.slots) :
    vx_Run5 p l e R s m args below meth c H locs cells slots mc ms g rest (Qc (Value.ref b :: As).toArray) XC free := by
  obtain ⟨hrc, hrs, hfr, hlo, hws, hcw⟩ := cw.back
  have hini := cw.init
  have hK : vx_Back l R p e below s args y 5 8 (PreOf R mc ms Pc) (PostOf Qc mc ms free) (vx_Post XC mc ms free) := vx_back (bytes := bytes) (maxL := maxL) (ret := ret) hM hp.1 hrc hrs hfr hlo hws hcw (fun a' U hW => word_at hW (Or.inl (by first | rfl | simp [Cond.onTables, Cond.keeps, Cond.steady])) hini)
  obtain ⟨hx, hb, hml, ho, -⟩ := S
  obtain ⟨-, ⟨cellB, hcB, hoB, hclB⟩, hPc⟩ := hp
  obtain ⟨hfc, kB, hkB, -⟩ := hat
  cases hfc.symm.trans hclB
  intro T hT X
  rcases vx_callIF X hx (C := C) (bytes := bytes) (maxL := maxL) (ret := ret) ho cw.link cw.decl cw.face cw.sel cw.inst cw.pub cw.unh cw.cast cw.code cw.notMH hK (by rw [hT]; exact hcB) hoB hclB hkB hg (hsize.trans hml.symm) (argsL := As) (rest := rest) (fun sig h => hn.trans (cw.len sig h)) hstack hW (by rw [hb]; exact hdg)
    (fun vm₁ hW₁ => ⟨hf.1, hf.2, hPc (T.setVm vm₁) hT hW₁⟩) with ⟨v, vm₁, ⟨U', l2, c2, s2⟩, hW₁, X', ⟨g', mk, t, L, e1, e2, hq, h1, hL, h2, h3⟩, st⟩ | ⟨q, vm₁, ⟨U', l2, c2, s2⟩, hW₁, X', ⟨g', mk, t, L, E, ce, e1, e2, hq, hce, hcv, hcl, h1, hL, h2, h3⟩, st⟩
  · dsimp only [Pt.U, Pt.locs, Pt.cells, Pt.slots] at X' e1 e2 h1 h2 h3 st
    subst h1; subst h2; subst h3
    exact Or.inl ⟨v, (T.setVm vm₁).calling g' mk (Value.ref b :: As).toArray, t, U', L, hT, X', hL, e1, e2, hq, st⟩
  · dsimp only [Pt.U, Pt.locs, Pt.cells, Pt.slots] at X' e1 e2 h1 h2 h3 st hcl
    subst h1; subst h2; subst h3
    exact Or.inr ⟨q, (T.setVm vm₁).calling g' mk (Value.ref b :: As).toArray, t, U', L, E, ce, hT, X', hL, e1, e2, hq, hce, hcv, vx_cls hW₁ hcl, st⟩
theorem vx_callFv {S SX : Type} {post : S → Prop} {px : SX → Prop} {B : S → State → Prop} {BX : String → SX → State → Prop} {AX : Nat → Prop} (hr : vx_Run5 p l e R s m args below meth c H locs cells slots mc ms (F0 m pc ls st0) rest (va_Qv post B A1 a) (vx_X px BX AX) free) (hS : va_S A0 H0 H locs) (hA : ∀ q, q < H.size → A1 q → A0 q) (hf : ∀ q, free q → A0 q) (hAX : ∀ q, q < H.size → AX q → A0 q)
    (kx : ∀ (E : String) (ce : Cell) (q9 : Addr) (u : SX) (t : State) (H1 : Heap) (locs1 : List Loc), t.heap = H1 → s.vm.Alike t.vm → px u → BX E u t → H.size ≤ H1.size → (∀ q : Nat, q < H.size → ¬ AX q → H1[q]? = H[q]?) → va_S A0 H0 H1 locs1 → H1[q9]? = some ce → ce.vm = .none → s.vm.findClass E = some ce.cls → vx_W p l e R s m args below meth c H1 locs1 (cells + mc) (slots + ms) Q (F0 m pc ls rest) q9)
    (kk : ∀ (u : S) (t : State) (H1 : Heap) (locs1 : List Loc), t.heap = H1 → s.vm.Alike t.vm → post u → B u t → H.size ≤ H1.size → (∀ q : Nat, q < H.size → ¬ A1 q → H1[q]? = H[q]?) → va_S A0 H0 H1 locs1 → W p l e R s m args below meth c H1 locs1 (cells + mc) (slots + ms) Q (F0 m (pc + 5) ls (rest))) : W p l e R s m args below meth c H locs cells slots Q (F0 m pc ls st0) := by
  intro T hT X
  rcases hr T hT X with ⟨v, st₀, t, T', L, h0, X', hL, e1, e2, ⟨⟨u, hv, hp, hb⟩, hF⟩, st⟩ | ⟨q, st₀, t, T', L, E, ce, h0, X', hL, e1, e2, ⟨u, hp, hb, hF⟩, hce, hcv, hcl, st⟩
  · cases hv
    obtain ⟨k1, k2, k3⟩ := vx_keep h0 e1 hS hA hf hL hF
    obtain ⟨t2, a1, b1⟩ := kk u t T'.heap (locs ++ L) e1.symm (by rw [← e2]; exact X'.warmed.alike) hp hb k1 k2 k3 T' rfl X'
    exact ⟨t2, st t2 a1, b1⟩
  · obtain ⟨k1, k2, k3⟩ := vx_keep h0 e1 hS hAX hf hL hF
    obtain ⟨t2, a1, b1⟩ := kx E ce q u t T'.heap (locs ++ L) e1.symm (by rw [← e2]; exact X'.warmed.alike) hp hb k1 k2 k3 (by rw [e1]; exact hce) hcv hcl T' rfl X'
    exact ⟨t2, st.trans a1, b1⟩
theorem vx_callFi {S SX : Type} {post : Int32 → S → Prop} {px : SX → Prop} {B : S → State → Prop} {BX : String → SX → State → Prop} {AX : Nat → Prop} (hr : vx_Run5 p l e R s m args below meth c H locs cells slots mc ms (F0 m pc ls st0) rest (va_Qi post B A1 a) (vx_X px BX AX) free) (hS : va_S A0 H0 H locs) (hA : ∀ q, q < H.size → A1 q → A0 q) (hf : ∀ q, free q → A0 q) (hAX : ∀ q, q < H.size → AX q → A0 q)
    (kx : ∀ (E : String) (ce : Cell) (q9 : Addr) (u : SX) (t : State) (H1 : Heap) (locs1 : List Loc), t.heap = H1 → s.vm.Alike t.vm → px u → BX E u t → H.size ≤ H1.size → (∀ q : Nat, q < H.size → ¬ AX q → H1[q]? = H[q]?) → va_S A0 H0 H1 locs1 → H1[q9]? = some ce → ce.vm = .none → s.vm.findClass E = some ce.cls → vx_W p l e R s m args below meth c H1 locs1 (cells + mc) (slots + ms) Q (F0 m pc ls rest) q9)
    (kk : ∀ (r : Int32) (u : S) (t : State) (H1 : Heap) (locs1 : List Loc), t.heap = H1 → s.vm.Alike t.vm → post r u → B u t → H.size ≤ H1.size → (∀ q : Nat, q < H.size → ¬ A1 q → H1[q]? = H[q]?) → va_S A0 H0 H1 locs1 → W p l e R s m args below meth c H1 locs1 (cells + mc) (slots + ms) Q (F0 m (pc + 5) ls (.int r :: rest))) : W p l e R s m args below meth c H locs cells slots Q (F0 m pc ls st0) := by
  intro T hT X
  rcases hr T hT X with ⟨v, st₀, t, T', L, h0, X', hL, e1, e2, ⟨⟨r, u, hv, hp, hb⟩, hF⟩, st⟩ | ⟨q, st₀, t, T', L, E, ce, h0, X', hL, e1, e2, ⟨u, hp, hb, hF⟩, hce, hcv, hcl, st⟩
  · cases hv
    obtain ⟨k1, k2, k3⟩ := vx_keep h0 e1 hS hA hf hL hF
    obtain ⟨t2, a1, b1⟩ := kk r u t T'.heap (locs ++ L) e1.symm (by rw [← e2]; exact X'.warmed.alike) hp hb k1 k2 k3 T' rfl X'
    exact ⟨t2, st t2 a1, b1⟩
  · obtain ⟨k1, k2, k3⟩ := vx_keep h0 e1 hS hAX hf hL hF
    obtain ⟨t2, a1, b1⟩ := kx E ce q u t T'.heap (locs ++ L) e1.symm (by rw [← e2]; exact X'.warmed.alike) hp hb k1 k2 k3 (by rw [e1]; exact hce) hcv hcl T' rfl X'
    exact ⟨t2, st.trans a1, b1⟩
theorem vx_callFl {S SX : Type} {post : Int64 → S → Prop} {px : SX → Prop} {B : S → State → Prop} {BX : String → SX → State → Prop} {AX : Nat → Prop} (hr : vx_Run5 p l e R s m args below meth c H locs cells slots mc ms (F0 m pc ls st0) rest (va_Ql post B A1 a) (vx_X px BX AX) free) (hS : va_S A0 H0 H locs) (hA : ∀ q, q < H.size → A1 q → A0 q) (hf : ∀ q, free q → A0 q) (hAX : ∀ q, q < H.size → AX q → A0 q)
    (kx : ∀ (E : String) (ce : Cell) (q9 : Addr) (u : SX) (t : State) (H1 : Heap) (locs1 : List Loc), t.heap = H1 → s.vm.Alike t.vm → px u → BX E u t → H.size ≤ H1.size → (∀ q : Nat, q < H.size → ¬ AX q → H1[q]? = H[q]?) → va_S A0 H0 H1 locs1 → H1[q9]? = some ce → ce.vm = .none → s.vm.findClass E = some ce.cls → vx_W p l e R s m args below meth c H1 locs1 (cells + mc) (slots + ms) Q (F0 m pc ls rest) q9)
    (kk : ∀ (r : Int64) (u : S) (t : State) (H1 : Heap) (locs1 : List Loc), t.heap = H1 → s.vm.Alike t.vm → post r u → B u t → H.size ≤ H1.size → (∀ q : Nat, q < H.size → ¬ A1 q → H1[q]? = H[q]?) → va_S A0 H0 H1 locs1 → W p l e R s m args below meth c H1 locs1 (cells + mc) (slots + ms) Q (F0 m (pc + 5) ls (.long r :: rest))) : W p l e R s m args below meth c H locs cells slots Q (F0 m pc ls st0) := by
  intro T hT X
  rcases hr T hT X with ⟨v, st₀, t, T', L, h0, X', hL, e1, e2, ⟨⟨r, u, hv, hp, hb⟩, hF⟩, st⟩ | ⟨q, st₀, t, T', L, E, ce, h0, X', hL, e1, e2, ⟨u, hp, hb, hF⟩, hce, hcv, hcl, st⟩
  · cases hv
    obtain ⟨k1, k2, k3⟩ := vx_keep h0 e1 hS hA hf hL hF
    obtain ⟨t2, a1, b1⟩ := kk r u t T'.heap (locs ++ L) e1.symm (by rw [← e2]; exact X'.warmed.alike) hp hb k1 k2 k3 T' rfl X'
    exact ⟨t2, st t2 a1, b1⟩
  · obtain ⟨k1, k2, k3⟩ := vx_keep h0 e1 hS hAX hf hL hF
    obtain ⟨t2, a1, b1⟩ := kx E ce q u t T'.heap (locs ++ L) e1.symm (by rw [← e2]; exact X'.warmed.alike) hp hb k1 k2 k3 (by rw [e1]; exact hce) hcv hcl T' rfl X'
    exact ⟨t2, st.trans a1, b1⟩
theorem vx_callFf {S SX : Type} {post : UInt32 → S → Prop} {px : SX → Prop} {B : S → State → Prop} {BX : String → SX → State → Prop} {AX : Nat → Prop} (hr : vx_Run5 p l e R s m args below meth c H locs cells slots mc ms (F0 m pc ls st0) rest (va_Qf post B A1 a) (vx_X px BX AX) free) (hS : va_S A0 H0 H locs) (hA : ∀ q, q < H.size → A1 q → A0 q) (hf : ∀ q, free q → A0 q) (hAX : ∀ q, q < H.size → AX q → A0 q)
    (kx : ∀ (E : String) (ce : Cell) (q9 : Addr) (u : SX) (t : State) (H1 : Heap) (locs1 : List Loc), t.heap = H1 → s.vm.Alike t.vm → px u → BX E u t → H.size ≤ H1.size → (∀ q : Nat, q < H.size → ¬ AX q → H1[q]? = H[q]?) → va_S A0 H0 H1 locs1 → H1[q9]? = some ce → ce.vm = .none → s.vm.findClass E = some ce.cls → vx_W p l e R s m args below meth c H1 locs1 (cells + mc) (slots + ms) Q (F0 m pc ls rest) q9)
    (kk : ∀ (r : UInt32) (u : S) (t : State) (H1 : Heap) (locs1 : List Loc), t.heap = H1 → s.vm.Alike t.vm → post r u → B u t → H.size ≤ H1.size → (∀ q : Nat, q < H.size → ¬ A1 q → H1[q]? = H[q]?) → va_S A0 H0 H1 locs1 → W p l e R s m args below meth c H1 locs1 (cells + mc) (slots + ms) Q (F0 m (pc + 5) ls (.float r :: rest))) : W p l e R s m args below meth c H locs cells slots Q (F0 m pc ls st0) := by
  intro T hT X
  rcases hr T hT X with ⟨v, st₀, t, T', L, h0, X', hL, e1, e2, ⟨⟨r, u, hv, hp, hb⟩, hF⟩, st⟩ | ⟨q, st₀, t, T', L, E, ce, h0, X', hL, e1, e2, ⟨u, hp, hb, hF⟩, hce, hcv, hcl, st⟩
  · cases hv
    obtain ⟨k1, k2, k3⟩ := vx_keep h0 e1 hS hA hf hL hF
    obtain ⟨t2, a1, b1⟩ := kk r u t T'.heap (locs ++ L) e1.symm (by rw [← e2]; exact X'.warmed.alike) hp hb k1 k2 k3 T' rfl X'
    exact ⟨t2, st t2 a1, b1⟩
  · obtain ⟨k1, k2, k3⟩ := vx_keep h0 e1 hS hAX hf hL hF
    obtain ⟨t2, a1, b1⟩ := kx E ce q u t T'.heap (locs ++ L) e1.symm (by rw [← e2]; exact X'.warmed.alike) hp hb k1 k2 k3 (by rw [e1]; exact hce) hcv hcl T' rfl X'
    exact ⟨t2, st.trans a1, b1⟩
theorem vx_callFd {S SX : Type} {post : UInt64 → S → Prop} {px : SX → Prop} {B : S → State → Prop} {BX : String → SX → State → Prop} {AX : Nat → Prop} (hr : vx_Run5 p l e R s m args below meth c H locs cells slots mc ms (F0 m pc ls st0) rest (va_Qd post B A1 a) (vx_X px BX AX) free) (hS : va_S A0 H0 H locs) (hA : ∀ q, q < H.size → A1 q → A0 q) (hf : ∀ q, free q → A0 q) (hAX : ∀ q, q < H.size → AX q → A0 q)
    (kx : ∀ (E : String) (ce : Cell) (q9 : Addr) (u : SX) (t : State) (H1 : Heap) (locs1 : List Loc), t.heap = H1 → s.vm.Alike t.vm → px u → BX E u t → H.size ≤ H1.size → (∀ q : Nat, q < H.size → ¬ AX q → H1[q]? = H[q]?) → va_S A0 H0 H1 locs1 → H1[q9]? = some ce → ce.vm = .none → s.vm.findClass E = some ce.cls → vx_W p l e R s m args below meth c H1 locs1 (cells + mc) (slots + ms) Q (F0 m pc ls rest) q9)
    (kk : ∀ (r : UInt64) (u : S) (t : State) (H1 : Heap) (locs1 : List Loc), t.heap = H1 → s.vm.Alike t.vm → post r u → B u t → H.size ≤ H1.size → (∀ q : Nat, q < H.size → ¬ A1 q → H1[q]? = H[q]?) → va_S A0 H0 H1 locs1 → W p l e R s m args below meth c H1 locs1 (cells + mc) (slots + ms) Q (F0 m (pc + 5) ls (.double r :: rest))) : W p l e R s m args below meth c H locs cells slots Q (F0 m pc ls st0) := by
  intro T hT X
  rcases hr T hT X with ⟨v, st₀, t, T', L, h0, X', hL, e1, e2, ⟨⟨r, u, hv, hp, hb⟩, hF⟩, st⟩ | ⟨q, st₀, t, T', L, E, ce, h0, X', hL, e1, e2, ⟨u, hp, hb, hF⟩, hce, hcv, hcl, st⟩
  · cases hv
    obtain ⟨k1, k2, k3⟩ := vx_keep h0 e1 hS hA hf hL hF
    obtain ⟨t2, a1, b1⟩ := kk r u t T'.heap (locs ++ L) e1.symm (by rw [← e2]; exact X'.warmed.alike) hp hb k1 k2 k3 T' rfl X'
    exact ⟨t2, st t2 a1, b1⟩
  · obtain ⟨k1, k2, k3⟩ := vx_keep h0 e1 hS hAX hf hL hF
    obtain ⟨t2, a1, b1⟩ := kx E ce q u t T'.heap (locs ++ L) e1.symm (by rw [← e2]; exact X'.warmed.alike) hp hb k1 k2 k3 (by rw [e1]; exact hce) hcv hcl T' rfl X'
    exact ⟨t2, st.trans a1, b1⟩
end
/-! ===== END ===== -/
/-! ===== BEGIN by an interface, a method with a table of its own that may throw (follows va_callIFW, va_runFW) ===== -/
section
variable {p : Program} {l : Launch} {e : Env} {R : Room} {s : State} {m : MethodId} {args : Array Value} {below : List Frame} {meth : Method} {c : Code} {H : Heap} {locs : List Loc} {cells slots : Nat}
theorem vx_callIFW {T : State} (X : Stand p l e R s m args below meth c T locs cells slots) (hexec : p.tables.exec = Jvm.exec) {own C : String} {index count : Nat} {x y : MethodName} {bytes : ByteArray} {maxL : Nat} {ret : Option FieldType} {hh : List (Nat × Nat × Nat × Nat)}
    (hown : s.vm.findClass own = some m.cls) (hlink : (Cond.methodLink own index x).before args s = true) (hdecl : (Cond.declares x).before args s = true) (hface : (Cond.interfaceMethod x.cls x.cls x.name x.desc).before args s = true)
    (hsel : (Cond.selects C x y).before args s = true) (hinst : (Cond.instanceMethod y).before args s = true) (hpub : (Cond.publicMethod y).before args s = true) (hunh : (Cond.unhidden C x.name x.desc).before args s = true)
    (hcast : (Cond.castable C x.cls).before args s = true) (hcode : (Cond.codeWith y bytes maxL ret hh).before args s = true) (hx : x.cls ≠ "java/lang/invoke/MethodHandle" ∧ x.cls ≠ "java/lang/invoke/VarHandle")
    {W : Nat} {Pre : Pt → Array Value → Prop} {Post : Pt → Array Value → Option Value → Pt → Prop} {PostX : Pt → Array Value → Addr → Pt → Prop} (hK : vx_Back l R p e below s args y 5 W Pre Post PostX)
    {b : Addr} {cellB : Cell} {kB : Class} (hcell : T.heap[b]? = some cellB) (hobj : cellB.vm.isStatics = false) (hcls : s.vm.findClass C = some cellB.cls) (hkB : s.vm.classes[cellB.cls]? = some kB)
    {g : JFrame} (hg : g.method = m) (hsize : g.locals.size = c.maxLocals) {argsL rest : List Value} (hlen : ∀ sig, parseMethodDescriptor x.desc = some sig → argsL.length = sig.parameters.length)
    (hstack : g.stack = argsL.reverse ++ .ref b :: rest) (hW : 2 * g.monitorRoom + (rest.map fun v => v.category).sum ≤ W) (hdg : decode c.code g.pc = .ok (.invokeinterface index count, 5))
    (hpre : ∀ vm₁, s.WarmedH vm₁ → Pre ⟨T.setVm vm₁, locs, cells, slots⟩ (Value.ref b :: argsL).toArray) :
    (∃ (v : Option Value) (vm₁ : Vm) (B : Pt), s.WarmedH vm₁ ∧ Stand p l e R s m args below meth c B.U B.locs B.cells B.slots ∧ Post ⟨T.setVm vm₁, locs, cells, slots⟩ (Value.ref b :: argsL).toArray v B ∧
      ∀ target, Steps p.tables e below (B.U.setTop { g with pc := g.pc + 5, stack := v.toList ++ rest }) target → Steps p.tables e below (T.setTop g) target) ∨
    (∃ (q : Addr) (vm₁ : Vm) (B : Pt), s.WarmedH vm₁ ∧ Stand p l e R s m args below meth c B.U B.locs B.cells B.slots ∧ PostX ⟨T.setVm vm₁, locs, cells, slots⟩ (Value.ref b :: argsL).toArray q B ∧
      Steps p.tables e below (T.setTop g) ((B.U.setTop { g with stack := rest }).pushFrame (.throwing q))) := by
  obtain ⟨r0, r, hn, hrm, hstR, hsigR⟩ := Cond.declares_spec hdecl
  obtain ⟨cL, kL, r1, hcL, hkL, hiL, hfoundL, hn1⟩ := Cond.interfaceMethod_spec hface
  cases hn.symm.trans hn1
  have hr0cls : r0.cls = cL := Option.some.inj ((findClass_of_methodNamed hn).symm.trans hcL)
  obtain ⟨hnameR, hdescR⟩ := name_of_methodNamed hn hrm
  obtain ⟨mk, methM, hnamed, hmethM, -, habM⟩ := Cond.instanceMethod_spec hinst
  obtain ⟨c2, r2, m2, q1, q2, q3, q4, -⟩ := Cond.selects_spec hsel
  cases hcls.symm.trans q1
  cases hfoundL.symm.trans q2
  cases hnamed.symm.trans q3
  have hselP : selectMethod e.platform s.vm cellB.cls r0 = .method mk := by rw [Launch.admits_selectMethod X.admits]; exact q4
  have hpubM : hasFlag methM.accessFlags Acc.public_ = true := Cond.publicMethod_spec hnamed hmethM hpub
  have hway : ((cellB.cls :: s.vm.superclasses cellB.cls).any fun k => (declaredIn s.vm r.name r.desc k).any fun (_, z) => z.isPrivate || z.isStatic) = false := by
    rw [hnameR, hdescR]; exact Cond.unhidden_spec hcls hunh
  obtain ⟨c3, t3, w1, w2, w3⟩ := Cond.castable_spec hcast
  cases hcls.symm.trans w1
  cases hcL.symm.trans w2
  obtain ⟨vm₁, X₁, hstep₁⟩ := X.invokeinterface hexec hown hlink hn hrm hstR (by rw [hr0cls]; exact hkL) hiL hx (a := b) (cell := cellB) (kcell := kB) hcell
    (fun z h => by rw [h] at hobj; cases hobj) hkB (by rw [hr0cls]; exact w3) hselP hmethM hway hpubM habM (g := g) hg (argsL := argsL) (rest := rest) (hlen _ hsigR) hstack hdg
  rcases hK m meth c ⟨T.setVm vm₁, locs, cells, slots⟩ { g with stack := rest } (.invokeinterface index count) mk (Value.ref b :: argsL).toArray X₁ hg hsize hdg hW (X₁.named hnamed) (hpre vm₁ X₁.warmed) with ⟨v, B, X', hpost, hsteps⟩ | ⟨q, B, X', hpost, hsteps⟩
  · exact Or.inl ⟨v, vm₁, B, X₁.warmed, X', hpost, fun target h => hstep₁ _ fun acts => by rw [doInvoke_state]; exact hsteps.trans h⟩
  · exact Or.inr ⟨q, vm₁, B, X₁.warmed, X', hpost, hstep₁ _ fun acts => by rw [doInvoke_state]; exact hsteps⟩
theorem vx_runFW {x y : MethodName} {bytes cc : ByteArray} {maxL nL mc ms n index count : Nat} {ret : Option FieldType} {hh : List (Nat × Nat × Nat × Nat)} {ws : List Cond} {rm : Room} {Pc : Array Value → State → Prop} {Qc : Array Value → State → Outcome → State → Prop} {XC : String → State → State → Prop} {free : Addr → Prop} {Ts : List Cond} {own C : String} {cC : ClassId} {b : Addr} {As rest : List Value} {g : JFrame}
    (hat : ClassAt s C cC) (S : CallFix p m c cc nL s args Ts own) (hM : vx_Met l y ws rm Pc Qc XC mc ms free) (cw : va_CIW R s args own C index x y bytes maxL ret hh ws rm mc ms n) (hp : PreV s H C b Pc As)
    (hg : g.method = m) (hn : As.length = n) (hsize : g.locals.size = nL) (hstack : g.stack = As.reverse ++ .ref b :: rest) (hW : 2 * g.monitorRoom + (rest.map fun v => v.category).sum ≤ 8) (hdg : decode cc g.pc = .ok (.invokeinterface index count, 5)) (hf : cells + mc ≤ R.cells ∧ slots + ms ≤ R.slots) :
    vx_Run5 p l e R s m args below meth c H locs cells slots mc ms g rest (Qc (Value.ref b :: As).toArray) XC free := by
  obtain ⟨hrc, hrs, hfr, hlo, hws, hcw⟩ := cw.back
  have hini := cw.init
  have hK : vx_Back l R p e below s args y 5 8 (PreOf R mc ms Pc) (PostOf Qc mc ms free) (vx_Post XC mc ms free) := vx_backW (hh := hh) (bytes := bytes) (maxL := maxL) (ret := ret) hM hp.1 hrc hrs hfr hlo hws hcw (fun a' U hW => word_at hW (Or.inl (by first | rfl | simp [Cond.onTables, Cond.keeps, Cond.steady])) hini)
  obtain ⟨hx, hb, hml, ho, -⟩ := S
  obtain ⟨-, ⟨cellB, hcB, hoB, hclB⟩, hPc⟩ := hp
  obtain ⟨hfc, kB, hkB, -⟩ := hat
  cases hfc.symm.trans hclB
  intro T hT X
  rcases vx_callIFW X hx (C := C) (hh := hh) (bytes := bytes) (maxL := maxL) (ret := ret) ho cw.link cw.decl cw.face cw.sel cw.inst cw.pub cw.unh cw.cast cw.code cw.notMH hK (by rw [hT]; exact hcB) hoB hclB hkB hg (hsize.trans hml.symm) (argsL := As) (rest := rest) (fun sig h => hn.trans (cw.len sig h)) hstack hW (by rw [hb]; exact hdg)
    (fun vm₁ hW₁ => ⟨hf.1, hf.2, hPc (T.setVm vm₁) hT hW₁⟩) with ⟨v, vm₁, ⟨U', l2, c2, s2⟩, hW₁, X', ⟨g', mk, t, L, e1, e2, hq, h1, hL, h2, h3⟩, st⟩ | ⟨q, vm₁, ⟨U', l2, c2, s2⟩, hW₁, X', ⟨g', mk, t, L, E, ce, e1, e2, hq, hce, hcv, hcl, h1, hL, h2, h3⟩, st⟩
  · dsimp only [Pt.U, Pt.locs, Pt.cells, Pt.slots] at X' e1 e2 h1 h2 h3 st
    subst h1; subst h2; subst h3
    exact Or.inl ⟨v, (T.setVm vm₁).calling g' mk (Value.ref b :: As).toArray, t, U', L, hT, X', hL, e1, e2, hq, st⟩
  · dsimp only [Pt.U, Pt.locs, Pt.cells, Pt.slots] at X' e1 e2 h1 h2 h3 st hcl
    subst h1; subst h2; subst h3
    exact Or.inr ⟨q, (T.setVm vm₁).calling g' mk (Value.ref b :: As).toArray, t, U', L, E, ce, hT, X', hL, e1, e2, hq, hce, hcv, vx_cls hW₁ hcl, st⟩
end
/-! ===== END ===== -/
/-! ===== BEGIN .. of methods that hand back an object of the pool ===== -/
section
variable {p : Program} {l : Launch} {e : Env} {R : Room} {s : State} {m : MethodId} {args : Array Value} {below : List Frame} {meth : Method} {c : Code} {H : Heap} {locs : List Loc} {cells slots : Nat} {Q : State → Prop}
variable {mc ms : Nat} {free : Addr → Prop} {A0 A1 : Nat → Prop} {H0 : Heap} {a : Array Value} {pc : Nat} {ls : Array Slot} {st0 rest : List Value}
theorem vx_callq {S SX : Type} {post : Option Nat → S → Prop} {px : SX → Prop} {B : S → State → Prop} {BX : String → SX → State → Prop} {AX : Nat → Prop} (hr : vx_Run p l e R s m args below meth c H locs cells slots mc ms (F0 m pc ls st0) rest (va_Qq post B A1 a) (vx_X px BX AX) free) (hS : va_S A0 H0 H locs) (hA : ∀ q, q < H.size → A1 q → A0 q) (hf : ∀ q, free q → A0 q) (hAX : ∀ q, q < H.size → AX q → A0 q)
    (kx : ∀ (E : String) (ce : Cell) (q9 : Addr) (u : SX) (t : State) (H1 : Heap) (locs1 : List Loc), t.heap = H1 → s.vm.Alike t.vm → px u → BX E u t → H.size ≤ H1.size → (∀ q : Nat, q < H.size → ¬ AX q → H1[q]? = H[q]?) → va_S A0 H0 H1 locs1 → H1[q9]? = some ce → ce.vm = .none → s.vm.findClass E = some ce.cls → vx_W p l e R s m args below meth c H1 locs1 (cells + mc) (slots + ms) Q (F0 m pc ls rest) q9)
    (kk : ∀ (r : Option Nat) (u : S) (t : State) (H1 : Heap) (locs1 : List Loc), t.heap = H1 → s.vm.Alike t.vm → post r u → B u t → H.size ≤ H1.size → (∀ q : Nat, q < H.size → ¬ A1 q → H1[q]? = H[q]?) → va_S A0 H0 H1 locs1 → W p l e R s m args below meth c H1 locs1 (cells + mc) (slots + ms) Q (F0 m (pc + 3) ls (va_rf r :: rest))) : W p l e R s m args below meth c H locs cells slots Q (F0 m pc ls st0) := by
  intro T hT X
  rcases hr T hT X with ⟨v, st₀, t, T', L, h0, X', hL, e1, e2, ⟨⟨r, u, hv, hp, hb⟩, hF⟩, st⟩ | ⟨q, st₀, t, T', L, E, ce, h0, X', hL, e1, e2, ⟨u, hp, hb, hF⟩, hce, hcv, hcl, st⟩
  · cases hv
    obtain ⟨k1, k2, k3⟩ := vx_keep h0 e1 hS hA hf hL hF
    obtain ⟨t2, a1, b1⟩ := kk r u t T'.heap (locs ++ L) e1.symm (by rw [← e2]; exact X'.warmed.alike) hp hb k1 k2 k3 T' rfl X'
    exact ⟨t2, st t2 a1, b1⟩
  · obtain ⟨k1, k2, k3⟩ := vx_keep h0 e1 hS hAX hf hL hF
    obtain ⟨t2, a1, b1⟩ := kx E ce q u t T'.heap (locs ++ L) e1.symm (by rw [← e2]; exact X'.warmed.alike) hp hb k1 k2 k3 (by rw [e1]; exact hce) hcv hcl T' rfl X'
    exact ⟨t2, st.trans a1, b1⟩
end
/-! ===== END ===== -/
/-! ===== BEGIN .. a constant ===== -/
section
variable {p : Program} {l : Launch} {e : Env} {R : Room} {s : State} {m : MethodId} {args : Array Value} {below : List Frame} {meth : Method} {c : Code} {H : Heap} {locs : List Loc} {cells slots : Nat} {Q : State → Prop}
variable {mc ms : Nat} {free : Addr → Prop} {A0 A1 : Nat → Prop} {H0 : Heap} {a : Array Value} {pc : Nat} {ls : Array Slot} {st0 rest : List Value}
theorem vx_calle {ad : Nat → Nat} {S SX : Type} {post : Option Nat → S → Prop} {px : SX → Prop} {B : S → State → Prop} {BX : String → SX → State → Prop} {AX : Nat → Prop} (hr : vx_Run p l e R s m args below meth c H locs cells slots mc ms (F0 m pc ls st0) rest (va_Qe ad post B A1 a) (vx_X px BX AX) free) (hS : va_S A0 H0 H locs) (hA : ∀ q, q < H.size → A1 q → A0 q) (hf : ∀ q, free q → A0 q) (hAX : ∀ q, q < H.size → AX q → A0 q)
    (kx : ∀ (E : String) (ce : Cell) (q9 : Addr) (u : SX) (t : State) (H1 : Heap) (locs1 : List Loc), t.heap = H1 → s.vm.Alike t.vm → px u → BX E u t → H.size ≤ H1.size → (∀ q : Nat, q < H.size → ¬ AX q → H1[q]? = H[q]?) → va_S A0 H0 H1 locs1 → H1[q9]? = some ce → ce.vm = .none → s.vm.findClass E = some ce.cls → vx_W p l e R s m args below meth c H1 locs1 (cells + mc) (slots + ms) Q (F0 m pc ls rest) q9)
    (kk : ∀ (r : Option Nat) (u : S) (t : State) (H1 : Heap) (locs1 : List Loc), t.heap = H1 → s.vm.Alike t.vm → post r u → B u t → H.size ≤ H1.size → (∀ q : Nat, q < H.size → ¬ A1 q → H1[q]? = H[q]?) → va_S A0 H0 H1 locs1 → W p l e R s m args below meth c H1 locs1 (cells + mc) (slots + ms) Q (F0 m (pc + 3) ls (va_re ad r :: rest))) : W p l e R s m args below meth c H locs cells slots Q (F0 m pc ls st0) := by
  intro T hT X
  rcases hr T hT X with ⟨v, st₀, t, T', L, h0, X', hL, e1, e2, ⟨⟨r, u, hv, hp, hb⟩, hF⟩, st⟩ | ⟨q, st₀, t, T', L, E, ce, h0, X', hL, e1, e2, ⟨u, hp, hb, hF⟩, hce, hcv, hcl, st⟩
  · cases hv
    obtain ⟨k1, k2, k3⟩ := vx_keep h0 e1 hS hA hf hL hF
    obtain ⟨t2, a1, b1⟩ := kk r u t T'.heap (locs ++ L) e1.symm (by rw [← e2]; exact X'.warmed.alike) hp hb k1 k2 k3 T' rfl X'
    exact ⟨t2, st t2 a1, b1⟩
  · obtain ⟨k1, k2, k3⟩ := vx_keep h0 e1 hS hAX hf hL hF
    obtain ⟨t2, a1, b1⟩ := kx E ce q u t T'.heap (locs ++ L) e1.symm (by rw [← e2]; exact X'.warmed.alike) hp hb k1 k2 k3 (by rw [e1]; exact hce) hcv hcl T' rfl X'
    exact ⟨t2, st.trans a1, b1⟩
end
/-! ===== END ===== -/
/-! ===== BEGIN .. by an interface, an object ===== -/
section
variable {p : Program} {l : Launch} {e : Env} {R : Room} {s : State} {m : MethodId} {args : Array Value} {below : List Frame} {meth : Method} {c : Code} {H : Heap} {locs : List Loc} {cells slots : Nat} {Q : State → Prop}
variable {mc ms : Nat} {free : Addr → Prop} {A0 A1 : Nat → Prop} {H0 : Heap} {a : Array Value} {pc : Nat} {ls : Array Slot} {st0 rest : List Value}
theorem vx_callFq {S SX : Type} {post : Option Nat → S → Prop} {px : SX → Prop} {B : S → State → Prop} {BX : String → SX → State → Prop} {AX : Nat → Prop} (hr : vx_Run5 p l e R s m args below meth c H locs cells slots mc ms (F0 m pc ls st0) rest (va_Qq post B A1 a) (vx_X px BX AX) free) (hS : va_S A0 H0 H locs) (hA : ∀ q, q < H.size → A1 q → A0 q) (hf : ∀ q, free q → A0 q) (hAX : ∀ q, q < H.size → AX q → A0 q)
    (kx : ∀ (E : String) (ce : Cell) (q9 : Addr) (u : SX) (t : State) (H1 : Heap) (locs1 : List Loc), t.heap = H1 → s.vm.Alike t.vm → px u → BX E u t → H.size ≤ H1.size → (∀ q : Nat, q < H.size → ¬ AX q → H1[q]? = H[q]?) → va_S A0 H0 H1 locs1 → H1[q9]? = some ce → ce.vm = .none → s.vm.findClass E = some ce.cls → vx_W p l e R s m args below meth c H1 locs1 (cells + mc) (slots + ms) Q (F0 m pc ls rest) q9)
    (kk : ∀ (r : Option Nat) (u : S) (t : State) (H1 : Heap) (locs1 : List Loc), t.heap = H1 → s.vm.Alike t.vm → post r u → B u t → H.size ≤ H1.size → (∀ q : Nat, q < H.size → ¬ A1 q → H1[q]? = H[q]?) → va_S A0 H0 H1 locs1 → W p l e R s m args below meth c H1 locs1 (cells + mc) (slots + ms) Q (F0 m (pc + 5) ls (va_rf r :: rest))) : W p l e R s m args below meth c H locs cells slots Q (F0 m pc ls st0) := by
  intro T hT X
  rcases hr T hT X with ⟨v, st₀, t, T', L, h0, X', hL, e1, e2, ⟨⟨r, u, hv, hp, hb⟩, hF⟩, st⟩ | ⟨q, st₀, t, T', L, E, ce, h0, X', hL, e1, e2, ⟨u, hp, hb, hF⟩, hce, hcv, hcl, st⟩
  · cases hv
    obtain ⟨k1, k2, k3⟩ := vx_keep h0 e1 hS hA hf hL hF
    obtain ⟨t2, a1, b1⟩ := kk r u t T'.heap (locs ++ L) e1.symm (by rw [← e2]; exact X'.warmed.alike) hp hb k1 k2 k3 T' rfl X'
    exact ⟨t2, st t2 a1, b1⟩
  · obtain ⟨k1, k2, k3⟩ := vx_keep h0 e1 hS hAX hf hL hF
    obtain ⟨t2, a1, b1⟩ := kx E ce q u t T'.heap (locs ++ L) e1.symm (by rw [← e2]; exact X'.warmed.alike) hp hb k1 k2 k3 (by rw [e1]; exact hce) hcv hcl T' rfl X'
    exact ⟨t2, st.trans a1, b1⟩
end
/-! ===== END ===== -/
/-! ===== BEGIN .. by an interface, a constant ===== -/
section
variable {p : Program} {l : Launch} {e : Env} {R : Room} {s : State} {m : MethodId} {args : Array Value} {below : List Frame} {meth : Method} {c : Code} {H : Heap} {locs : List Loc} {cells slots : Nat} {Q : State → Prop}
variable {mc ms : Nat} {free : Addr → Prop} {A0 A1 : Nat → Prop} {H0 : Heap} {a : Array Value} {pc : Nat} {ls : Array Slot} {st0 rest : List Value}
theorem vx_callFe {ad : Nat → Nat} {S SX : Type} {post : Option Nat → S → Prop} {px : SX → Prop} {B : S → State → Prop} {BX : String → SX → State → Prop} {AX : Nat → Prop} (hr : vx_Run5 p l e R s m args below meth c H locs cells slots mc ms (F0 m pc ls st0) rest (va_Qe ad post B A1 a) (vx_X px BX AX) free) (hS : va_S A0 H0 H locs) (hA : ∀ q, q < H.size → A1 q → A0 q) (hf : ∀ q, free q → A0 q) (hAX : ∀ q, q < H.size → AX q → A0 q)
    (kx : ∀ (E : String) (ce : Cell) (q9 : Addr) (u : SX) (t : State) (H1 : Heap) (locs1 : List Loc), t.heap = H1 → s.vm.Alike t.vm → px u → BX E u t → H.size ≤ H1.size → (∀ q : Nat, q < H.size → ¬ AX q → H1[q]? = H[q]?) → va_S A0 H0 H1 locs1 → H1[q9]? = some ce → ce.vm = .none → s.vm.findClass E = some ce.cls → vx_W p l e R s m args below meth c H1 locs1 (cells + mc) (slots + ms) Q (F0 m pc ls rest) q9)
    (kk : ∀ (r : Option Nat) (u : S) (t : State) (H1 : Heap) (locs1 : List Loc), t.heap = H1 → s.vm.Alike t.vm → post r u → B u t → H.size ≤ H1.size → (∀ q : Nat, q < H.size → ¬ A1 q → H1[q]? = H[q]?) → va_S A0 H0 H1 locs1 → W p l e R s m args below meth c H1 locs1 (cells + mc) (slots + ms) Q (F0 m (pc + 5) ls (va_re ad r :: rest))) : W p l e R s m args below meth c H locs cells slots Q (F0 m pc ls st0) := by
  intro T hT X
  rcases hr T hT X with ⟨v, st₀, t, T', L, h0, X', hL, e1, e2, ⟨⟨r, u, hv, hp, hb⟩, hF⟩, st⟩ | ⟨q, st₀, t, T', L, E, ce, h0, X', hL, e1, e2, ⟨u, hp, hb, hF⟩, hce, hcv, hcl, st⟩
  · cases hv
    obtain ⟨k1, k2, k3⟩ := vx_keep h0 e1 hS hA hf hL hF
    obtain ⟨t2, a1, b1⟩ := kk r u t T'.heap (locs ++ L) e1.symm (by rw [← e2]; exact X'.warmed.alike) hp hb k1 k2 k3 T' rfl X'
    exact ⟨t2, st t2 a1, b1⟩
  · obtain ⟨k1, k2, k3⟩ := vx_keep h0 e1 hS hAX hf hL hF
    obtain ⟨t2, a1, b1⟩ := kx E ce q u t T'.heap (locs ++ L) e1.symm (by rw [← e2]; exact X'.warmed.alike) hp hb k1 k2 k3 (by rw [e1]; exact hce) hcv hcl T' rfl X'
    exact ⟨t2, st.trans a1, b1⟩
end
/-! ===== END ===== -/
/-! ===== BEGIN what the machine throws by itself: null at a field, at athrow ===== -/
section VXM2
variable {p : Program} {l : Launch} {e : Env} {R : Room} {s : State} {m : MethodId} {args : Array Value} {below : List Frame} {meth : Method} {c : Code} {H : Heap} {locs : List Loc} {cells slots : Nat}
variable {Q : State → Prop} {cc : ByteArray} {pc : Nat} {ls : Array Slot} {rest : List Value}
theorem vx_getfN {D cl tys} {own ref C : String} {T : u_T} {N ci index : Nat} {Ts : List Cond} (hexec : p.tables.exec = Jvm.exec) (hb : c.code = cc) (hts : ∀ w ∈ Ts, w.before args s = true) (hin : ∀ w ∈ u_ws C T N, w ∈ Ts) (hown : s.vm.findClass own = some m.cls) (hK : va_K D cl tys s) (hc : cl[ci]? = some (C, T, N)) (k : Nat) (hk : k < N) (hlink : (Cond.fieldLink own index ref (T k).2.1 (T k).2.2.1).before args s = true) (hsame : ∀ x, s.fieldFound? (T k).1 (T k).2.1 (T k).2.2.1 = some x → s.fieldFound? ref (T k).2.1 (T k).2.2.1 = some x) (hdg : decode cc pc = .ok (.getfield index, 3)) (kk : vx_NoteN p l e R s m args below meth c H locs cells slots Q (F0 m pc ls rest)) : W p l e R s m args below meth c H locs cells slots Q (F0 m pc ls (.null :: rest)) := by
  obtain ⟨hS, hfc, kC, hkC, -⟩ := hK.1 ci _ hc
  obtain ⟨cf, kf, fi, f, hi, -⟩ := hS k hk
  intro U hU X
  obtain ⟨vm', X1, st1⟩ := X.getfieldNull hexec hown hlink (hsame _ hi) (u_facts hfc hkC (u_lays hts hin hk) hi).1 (g := F0 m pc ls (.null :: rest)) rfl (rest := rest) rfl (by rw [hb]; exact hdg)
  obtain ⟨t, st, q⟩ := kk (U.setVm vm') hU X1
  exact ⟨t, st1 t st, q⟩
theorem vx_getfNN {D cl tys} {own ref C host : String} {T : u_T} {N ci index : Nat} {Ts : List Cond} (hexec : p.tables.exec = Jvm.exec) (hb : c.code = cc) (hts : ∀ w ∈ Ts, w.before args s = true) (hin : ∀ w ∈ u_ws C T N, w ∈ Ts) (hown : s.vm.findClass own = some m.cls) (hK : va_K D cl tys s) (hc : cl[ci]? = some (C, T, N)) (k : Nat) (hk : k < N) (hlink : (Cond.fieldLinkNest own index ref (T k).2.1 (T k).2.2.1 host).before args s = true) (hsame : ∀ x, s.fieldFound? (T k).1 (T k).2.1 (T k).2.2.1 = some x → s.fieldFound? ref (T k).2.1 (T k).2.2.1 = some x) (hdg : decode cc pc = .ok (.getfield index, 3)) (kk : vx_NoteN p l e R s m args below meth c H locs cells slots Q (F0 m pc ls rest)) : W p l e R s m args below meth c H locs cells slots Q (F0 m pc ls (.null :: rest)) := by
  obtain ⟨hS, hfc, kC, hkC, -⟩ := hK.1 ci _ hc
  obtain ⟨cf, kf, fi, f, hi, -⟩ := hS k hk
  intro U hU X
  obtain ⟨vm', X1, st1⟩ := X.getfieldNullNest hexec hown hlink (hsame _ hi) (u_facts hfc hkC (u_lays hts hin hk) hi).1 (g := F0 m pc ls (.null :: rest)) rfl (rest := rest) rfl (by rw [hb]; exact hdg)
  obtain ⟨t, st, q⟩ := kk (U.setVm vm') hU X1
  exact ⟨t, st1 t st, q⟩
theorem vx_putfN {D cl tys} {own ref C : String} {T : u_T} {N ci index : Nat} {Ts : List Cond} (hexec : p.tables.exec = Jvm.exec) (hb : c.code = cc) (hts : ∀ w ∈ Ts, w.before args s = true) (hin : ∀ w ∈ u_ws C T N, w ∈ Ts) (hown : s.vm.findClass own = some m.cls) (hK : va_K D cl tys s) (hc : cl[ci]? = some (C, T, N)) (k : Nat) (hk : k < N) (hlink : (Cond.fieldLink own index ref (T k).2.1 (T k).2.2.1).before args s = true) (hsame : ∀ x, s.fieldFound? (T k).1 (T k).2.1 (T k).2.2.1 = some x → s.fieldFound? ref (T k).2.1 (T k).2.2.1 = some x) (hfin : (T k).2.2.2 = false) {v : Value} (hdg : decode cc pc = .ok (.putfield index, 3)) (kk : vx_NoteN p l e R s m args below meth c H locs cells slots Q (F0 m pc ls rest)) : W p l e R s m args below meth c H locs cells slots Q (F0 m pc ls (v :: .null :: rest)) := by
  obtain ⟨hS, hfc, kC, hkC, -⟩ := hK.1 ci _ hc
  obtain ⟨cf, kf, fi, f, hi, -⟩ := hS k hk
  have hlay := hts _ (hin _ (u_in_lay hk))
  unfold u_lay at hlay
  rw [if_neg (by rw [hfin]; decide)] at hlay
  obtain ⟨c9, k9, cf9, kf9, fi9, f9, -, -, hi9, hst9, hnf9, -⟩ := Cond.lays_spec hlay
  cases hi.symm.trans hi9
  intro U hU X
  obtain ⟨vm', X1, st1⟩ := X.putfieldNull hexec hown hlink (hsame _ hi) hst9 hnf9 (g := F0 m pc ls (v :: .null :: rest)) rfl (v := v) (rest := rest) rfl (by rw [hb]; exact hdg)
  obtain ⟨t, st, q⟩ := kk (U.setVm vm') hU X1
  exact ⟨t, st1 t st, q⟩
theorem vx_putfNN {D cl tys} {own ref C host : String} {T : u_T} {N ci index : Nat} {Ts : List Cond} (hexec : p.tables.exec = Jvm.exec) (hb : c.code = cc) (hts : ∀ w ∈ Ts, w.before args s = true) (hin : ∀ w ∈ u_ws C T N, w ∈ Ts) (hown : s.vm.findClass own = some m.cls) (hK : va_K D cl tys s) (hc : cl[ci]? = some (C, T, N)) (k : Nat) (hk : k < N) (hlink : (Cond.fieldLinkNest own index ref (T k).2.1 (T k).2.2.1 host).before args s = true) (hsame : ∀ x, s.fieldFound? (T k).1 (T k).2.1 (T k).2.2.1 = some x → s.fieldFound? ref (T k).2.1 (T k).2.2.1 = some x) (hfin : (T k).2.2.2 = false) {v : Value} (hdg : decode cc pc = .ok (.putfield index, 3)) (kk : vx_NoteN p l e R s m args below meth c H locs cells slots Q (F0 m pc ls rest)) : W p l e R s m args below meth c H locs cells slots Q (F0 m pc ls (v :: .null :: rest)) := by
  obtain ⟨hS, hfc, kC, hkC, -⟩ := hK.1 ci _ hc
  obtain ⟨cf, kf, fi, f, hi, -⟩ := hS k hk
  have hlay := hts _ (hin _ (u_in_lay hk))
  unfold u_lay at hlay
  rw [if_neg (by rw [hfin]; decide)] at hlay
  obtain ⟨c9, k9, cf9, kf9, fi9, f9, -, -, hi9, hst9, hnf9, -⟩ := Cond.lays_spec hlay
  cases hi.symm.trans hi9
  intro U hU X
  obtain ⟨vm', X1, st1⟩ := X.putfieldNullNest hexec hown hlink (hsame _ hi) hst9 hnf9 (g := F0 m pc ls (v :: .null :: rest)) rfl (v := v) (rest := rest) rfl (by rw [hb]; exact hdg)
  obtain ⟨t, st, q⟩ := kk (U.setVm vm') hU X1
  exact ⟨t, st1 t st, q⟩
theorem vx_athrowN (hexec : p.tables.exec = Jvm.exec) (hb : c.code = cc) (hdg : decode cc pc = .ok (.athrow, 1)) (k : vx_NoteN p l e R s m args below meth c H locs cells slots Q (F0 m pc ls rest)) : W p l e R s m args below meth c H locs cells slots Q (F0 m pc ls (.null :: rest)) := by
  intro T hT X
  obtain ⟨t, st, q⟩ := k T hT X
  exact ⟨t, X.athrowNull hexec (g := F0 m pc ls (.null :: rest)) rfl (rest := rest) rfl (by rw [hb]; exact hdg) t st, q⟩
end VXM2
/-! ===== END ===== -/
end
section
/-! ===== BEGIN printed: names, fields, word lists, decode rows ===== -/
def RX0 : String := "EchoRegistry$Chart"
def TX0 : u_T := fun k => match k with
  | 0 => ("EchoRegistry$Chart", "heights", "[I", true)
  | 1 => ("EchoRegistry$Chart", "marks", "[I", true)
  | 2 => ("EchoRegistry$Chart", "turns", "[I", true)
  | 3 => ("EchoRegistry$Chart", "lowest", "[I", true)
  | 4 => ("EchoRegistry$Chart", "reached", "[I", true)
  | 5 => ("EchoRegistry$Chart", "reachedIn", "[I", true)
  | 6 => ("EchoRegistry$Chart", "marksLaid", "I", false)
  | _ => ("EchoRegistry$Chart", "outing", "I", false)
def tyX0 : Nat → FieldType := fun k => match k with
  | 0 => .array .int
  | 1 => .array .int
  | 2 => .array .int
  | 3 => .array .int
  | 4 => .array .int
  | 5 => .array .int
  | 6 => .int
  | _ => .int
theorem nmX0 : ∀ a, a < 8 → ∀ b, b < 8 → a ≠ b → (TX0 a).2.1 ≠ (TX0 b).2.1 := by decide +kernel
theorem tyX0_ok : ∀ k, k < 8 → parseFieldDescriptor (TX0 k).2.2.1 = some (tyX0 k) := by decide +kernel
abbrev cX0_init : ByteArray := prog_2_method_1_code
def yX0_init : MethodName := ⟨RX0, "<init>", "()V"⟩
abbrev cX0_heightAt : ByteArray := prog_2_method_2_code
def yX0_heightAt : MethodName := ⟨RX0, "heightAt", "(I)I"⟩
abbrev cX0_setHeight : ByteArray := prog_2_method_3_code
def yX0_setHeight : MethodName := ⟨RX0, "setHeight", "(II)V"⟩
abbrev cX0_shapeAt : ByteArray := prog_2_method_4_code
def yX0_shapeAt : MethodName := ⟨RX0, "shapeAt", "(I)I"⟩
abbrev cX0_joinShapes : ByteArray := prog_2_method_5_code
def yX0_joinShapes : MethodName := ⟨RX0, "joinShapes", "()V"⟩
abbrev cX0_tellShape : ByteArray := prog_2_method_6_code
def yX0_tellShape : MethodName := ⟨RX0, "tellShape", "(II)V"⟩
abbrev cX0_goOut : ByteArray := prog_2_method_7_code
def yX0_goOut : MethodName := ⟨RX0, "goOut", "(I)I"⟩
abbrev cX0_reach : ByteArray := prog_2_method_8_code
def yX0_reach : MethodName := ⟨RX0, "reach", "(II)I"⟩
abbrev cX0_isReached : ByteArray := prog_2_method_9_code
def yX0_isReached : MethodName := ⟨RX0, "isReached", "(II)Z"⟩
abbrev cX0_nameOfReached : ByteArray := prog_2_method_10_code
def yX0_nameOfReached : MethodName := ⟨RX0, "nameOfReached", "(I)I"⟩
abbrev cX0_nameOfShape : ByteArray := prog_2_method_11_code
def yX0_nameOfShape : MethodName := ⟨RX0, "nameOfShape", "(I)I"⟩
abbrev cX0_layMark : ByteArray := prog_2_method_12_code
def yX0_layMark : MethodName := ⟨RX0, "layMark", "(II)V"⟩
abbrev cX0_countShapes : ByteArray := prog_2_method_13_code
def yX0_countShapes : MethodName := ⟨RX0, "countShapes", "()I"⟩
abbrev cX0_countCells : ByteArray := prog_2_method_14_code
def yX0_countCells : MethodName := ⟨RX0, "countCells", "(I)I"⟩
abbrev cX0_greatestHeight : ByteArray := prog_2_method_15_code
def yX0_greatestHeight : MethodName := ⟨RX0, "greatestHeight", "(I)I"⟩
abbrev cX0_isIn : ByteArray := prog_2_method_16_code
def yX0_isIn : MethodName := ⟨RX0, "isIn", "(II)Z"⟩
def RX1 : String := "EchoRegistry$ClaimBook"
def TX1 : u_T := fun k => match k with
  | 0 => ("EchoRegistry$ClaimBook", "finders", "[I", true)
  | 1 => ("EchoRegistry$ClaimBook", "cells", "[I", true)
  | 2 => ("EchoRegistry$ClaimBook", "ends", "[I", true)
  | _ => ("EchoRegistry$ClaimBook", "count", "I", false)
def tyX1 : Nat → FieldType := fun k => match k with
  | 0 => .array .int
  | 1 => .array .int
  | 2 => .array .int
  | _ => .int
theorem nmX1 : ∀ a, a < 4 → ∀ b, b < 4 → a ≠ b → (TX1 a).2.1 ≠ (TX1 b).2.1 := by decide +kernel
theorem tyX1_ok : ∀ k, k < 4 → parseFieldDescriptor (TX1 k).2.2.1 = some (tyX1 k) := by decide +kernel
abbrev cX1_init : ByteArray := prog_3_method_1_code
def yX1_init : MethodName := ⟨RX1, "<init>", "()V"⟩
abbrev cX1_count : ByteArray := prog_3_method_2_code
def yX1_count : MethodName := ⟨RX1, "count", "()I"⟩
abbrev cX1_isFull : ByteArray := prog_3_method_3_code
def yX1_isFull : MethodName := ⟨RX1, "isFull", "()Z"⟩
abbrev cX1_has : ByteArray := prog_3_method_4_code
def yX1_has : MethodName := ⟨RX1, "has", "(I)Z"⟩
abbrev cX1_enter : ByteArray := prog_3_method_5_code
def yX1_enter : MethodName := ⟨RX1, "enter", "(III)I"⟩
abbrev cX1_finderOf : ByteArray := prog_3_method_6_code
def yX1_finderOf : MethodName := ⟨RX1, "finderOf", "(I)I"⟩
abbrev cX1_cellOf : ByteArray := prog_3_method_7_code
def yX1_cellOf : MethodName := ⟨RX1, "cellOf", "(I)I"⟩
abbrev cX1_isRunning : ByteArray := prog_3_method_8_code
def yX1_isRunning : MethodName := ⟨RX1, "isRunning", "(II)Z"⟩
abbrev cX1_startTerm : ByteArray := prog_3_method_9_code
def yX1_startTerm : MethodName := ⟨RX1, "startTerm", "(II)I"⟩
def RX2 : String := "EchoRegistry$Crew"
def TX2 : u_T := fun k => match k with
  | 0 => ("EchoRegistry$Crew", "airs", "[I", true)
  | _ => ("EchoRegistry$Crew", "freeFrom", "[I", true)
def tyX2 : Nat → FieldType := fun k => match k with
  | 0 => .array .int
  | _ => .array .int
theorem nmX2 : ∀ a, a < 2 → ∀ b, b < 2 → a ≠ b → (TX2 a).2.1 ≠ (TX2 b).2.1 := by decide +kernel
theorem tyX2_ok : ∀ k, k < 2 → parseFieldDescriptor (TX2 k).2.2.1 = some (tyX2 k) := by decide +kernel
abbrev cX2_init : ByteArray := prog_4_method_1_code
def yX2_init : MethodName := ⟨RX2, "<init>", "()V"⟩
abbrev cX2_isDiver : ByteArray := prog_4_method_2_code
def yX2_isDiver : MethodName := ⟨RX2, "isDiver", "(I)Z"⟩
abbrev cX2_airForDive : ByteArray := prog_4_method_3_code
def yX2_airForDive : MethodName := ⟨RX2, "airForDive", "(II)I"⟩
abbrev cX2_airOf : ByteArray := prog_4_method_4_code
def yX2_airOf : MethodName := ⟨RX2, "airOf", "(I)I"⟩
abbrev cX2_minutesUntilFree : ByteArray := prog_4_method_5_code
def yX2_minutesUntilFree : MethodName := ⟨RX2, "minutesUntilFree", "(II)I"⟩
abbrev cX2_isFree : ByteArray := prog_4_method_6_code
def yX2_isFree : MethodName := ⟨RX2, "isFree", "(II)Z"⟩
abbrev cX2_dive : ByteArray := prog_4_method_7_code
def yX2_dive : MethodName := ⟨RX2, "dive", "(IIII)V"⟩
abbrev cX2_fillBottle : ByteArray := prog_4_method_8_code
def yX2_fillBottle : MethodName := ⟨RX2, "fillBottle", "(I)I"⟩
abbrev cX2_longestDive : ByteArray := prog_4_method_9_code
def yX2_longestDive : MethodName := ⟨RX2, "longestDive", "(II)I"⟩
def RX3 : String := "EchoRegistry$Ledger"
def TX3 : u_T := fun k => match k with
  | 0 => ("EchoRegistry$Ledger", "shapesBehind", "[I", true)
  | 1 => ("EchoRegistry$Ledger", "findersBehind", "[I", true)
  | 2 => ("EchoRegistry$Ledger", "rewards", "[I", true)
  | 3 => ("EchoRegistry$Ledger", "count", "I", false)
  | _ => ("EchoRegistry$Ledger", "lawsSum", "I", false)
def tyX3 : Nat → FieldType := fun k => match k with
  | 0 => .array .int
  | 1 => .array .int
  | 2 => .array .int
  | 3 => .int
  | _ => .int
theorem nmX3 : ∀ a, a < 5 → ∀ b, b < 5 → a ≠ b → (TX3 a).2.1 ≠ (TX3 b).2.1 := by decide +kernel
theorem tyX3_ok : ∀ k, k < 5 → parseFieldDescriptor (TX3 k).2.2.1 = some (tyX3 k) := by decide +kernel
abbrev cX3_init : ByteArray := prog_5_method_1_code
def yX3_init : MethodName := ⟨RX3, "<init>", "()V"⟩
abbrev cX3_count : ByteArray := prog_5_method_2_code
def yX3_count : MethodName := ⟨RX3, "count", "()I"⟩
abbrev cX3_isFull : ByteArray := prog_5_method_3_code
def yX3_isFull : MethodName := ⟨RX3, "isFull", "()Z"⟩
abbrev cX3_has : ByteArray := prog_5_method_4_code
def yX3_has : MethodName := ⟨RX3, "has", "(I)Z"⟩
abbrev cX3_enter : ByteArray := prog_5_method_5_code
def yX3_enter : MethodName := ⟨RX3, "enter", "(IIII)I"⟩
abbrev cX3_share : ByteArray := prog_5_method_6_code
def yX3_share : MethodName := ⟨RX3, "share", "(III)V"⟩
abbrev cX3_isFinder : ByteArray := prog_5_method_7_code
def yX3_isFinder : MethodName := ⟨RX3, "isFinder", "(I)Z"⟩
abbrev cX3_lawsPart : ByteArray := prog_5_method_8_code
def yX3_lawsPart : MethodName := ⟨RX3, "lawsPart", "(II)I"⟩
abbrev cX3_shapeBehind : ByteArray := prog_5_method_9_code
def yX3_shapeBehind : MethodName := ⟨RX3, "shapeBehind", "(I)I"⟩
abbrev cX3_finderBehind : ByteArray := prog_5_method_10_code
def yX3_finderBehind : MethodName := ⟨RX3, "finderBehind", "(I)I"⟩
abbrev cX3_rewardOf : ByteArray := prog_5_method_11_code
def yX3_rewardOf : MethodName := ⟨RX3, "rewardOf", "(I)I"⟩
abbrev cX3_keptByLaw : ByteArray := prog_5_method_12_code
def yX3_keptByLaw : MethodName := ⟨RX3, "keptByLaw", "()I"⟩
def RX4 : String := "EchoRegistry"
def TX4 : u_T := fun k => match k with
  | 0 => ("EchoRegistry", "chart", "LEchoRegistry$Chart;", true)
  | 1 => ("EchoRegistry", "crew", "LEchoRegistry$Crew;", true)
  | 2 => ("EchoRegistry", "book", "LEchoRegistry$ClaimBook;", true)
  | 3 => ("EchoRegistry", "ledger", "LEchoRegistry$Ledger;", true)
  | 4 => ("EchoRegistry", "title", "Ljava/lang/StringBuilder;", true)
  | _ => ("EchoRegistry", "now", "I", false)
def tyX4 : Nat → FieldType := fun k => match k with
  | 0 => .object "EchoRegistry$Chart"
  | 1 => .object "EchoRegistry$Crew"
  | 2 => .object "EchoRegistry$ClaimBook"
  | 3 => .object "EchoRegistry$Ledger"
  | 4 => .object "java/lang/StringBuilder"
  | _ => .int
theorem nmX4 : ∀ a, a < 6 → ∀ b, b < 6 → a ≠ b → (TX4 a).2.1 ≠ (TX4 b).2.1 := by decide +kernel
theorem tyX4_ok : ∀ k, k < 6 → parseFieldDescriptor (TX4 k).2.2.1 = some (tyX4 k) := by decide +kernel
abbrev cX4_init : ByteArray := prog_1_method_1_code
def yX4_init : MethodName := ⟨RX4, "<init>", "()V"⟩
abbrev cX4_sound : ByteArray := prog_1_method_2_code
def yX4_sound : MethodName := ⟨RX4, "sound", "(II)I"⟩
abbrev cX4_sweep : ByteArray := prog_1_method_3_code
def yX4_sweep : MethodName := ⟨RX4, "sweep", "(III)I"⟩
abbrev cX4_shapes : ByteArray := prog_1_method_4_code
def yX4_shapes : MethodName := ⟨RX4, "shapes", "()I"⟩
abbrev cX4_shapeOf : ByteArray := prog_1_method_5_code
def yX4_shapeOf : MethodName := ⟨RX4, "shapeOf", "(I)I"⟩
abbrev cX4_size : ByteArray := prog_1_method_6_code
def yX4_size : MethodName := ⟨RX4, "size", "(I)I"⟩
abbrev cX4_top : ByteArray := prog_1_method_7_code
def yX4_top : MethodName := ⟨RX4, "top", "(I)I"⟩
abbrev cX4_nameOf : ByteArray := prog_1_method_8_code
def yX4_nameOf : MethodName := ⟨RX4, "nameOf", "(I)I"⟩
abbrev cX4_titleAt : ByteArray := prog_1_method_9_code
def yX4_titleAt : MethodName := ⟨RX4, "titleAt", "(II)I"⟩
abbrev cX4_name : ByteArray := prog_1_method_10_code
def yX4_name : MethodName := ⟨RX4, "name", "(IIII)I"⟩
abbrev cX4_raise : ByteArray := prog_1_method_11_code
def yX4_raise : MethodName := ⟨RX4, "raise", "(IIII)I"⟩
abbrev cX4_fill : ByteArray := prog_1_method_12_code
def yX4_fill : MethodName := ⟨RX4, "fill", "(I)I"⟩
abbrev cX4_air : ByteArray := prog_1_method_13_code
def yX4_air : MethodName := ⟨RX4, "air", "(I)I"⟩
abbrev cX4_rest : ByteArray := prog_1_method_14_code
def yX4_rest : MethodName := ⟨RX4, "rest", "(I)I"⟩
abbrev cX4_longest : ByteArray := prog_1_method_15_code
def yX4_longest : MethodName := ⟨RX4, "longest", "(II)I"⟩
abbrev cX4_claim : ByteArray := prog_1_method_16_code
def yX4_claim : MethodName := ⟨RX4, "claim", "(II)I"⟩
abbrev cX4_renew : ByteArray := prog_1_method_17_code
def yX4_renew : MethodName := ⟨RX4, "renew", "(I)I"⟩
abbrev cX4_advance : ByteArray := prog_1_method_18_code
def yX4_advance : MethodName := ⟨RX4, "advance", "(I)I"⟩
abbrev cX4_minute : ByteArray := prog_1_method_19_code
def yX4_minute : MethodName := ⟨RX4, "minute", "()I"⟩
abbrev cX4_finder : ByteArray := prog_1_method_20_code
def yX4_finder : MethodName := ⟨RX4, "finder", "(I)I"⟩
abbrev cX4_finderBySoundings : ByteArray := prog_1_method_21_code
def yX4_finderBySoundings : MethodName := ⟨RX4, "finderBySoundings", "(I)I"⟩
abbrev cX4_claims : ByteArray := prog_1_method_22_code
def yX4_claims : MethodName := ⟨RX4, "claims", "()I"⟩
abbrev cX4_runs : ByteArray := prog_1_method_23_code
def yX4_runs : MethodName := ⟨RX4, "runs", "(I)Z"⟩
abbrev cX4_holds : ByteArray := prog_1_method_24_code
def yX4_holds : MethodName := ⟨RX4, "holds", "(I)Z"⟩
abbrev cX4_things : ByteArray := prog_1_method_25_code
def yX4_things : MethodName := ⟨RX4, "things", "()I"⟩
abbrev cX4_shapeOfThing : ByteArray := prog_1_method_26_code
def yX4_shapeOfThing : MethodName := ⟨RX4, "shapeOfThing", "(I)I"⟩
abbrev cX4_finderOfThing : ByteArray := prog_1_method_27_code
def yX4_finderOfThing : MethodName := ⟨RX4, "finderOfThing", "(I)I"⟩
abbrev cX4_reward : ByteArray := prog_1_method_28_code
def yX4_reward : MethodName := ⟨RX4, "reward", "(I)I"⟩
abbrev cX4_kept : ByteArray := prog_1_method_29_code
def yX4_kept : MethodName := ⟨RX4, "kept", "()I"⟩
abbrev cX4_claimOnShape : ByteArray := prog_1_method_30_code
def yX4_claimOnShape : MethodName := ⟨RX4, "claimOnShape", "(I)I"⟩
abbrev cX4_finderOfShape : ByteArray := prog_1_method_31_code
def yX4_finderOfShape : MethodName := ⟨RX4, "finderOfShape", "(I)I"⟩
abbrev cX4_writeTitle : ByteArray := prog_1_method_32_code
def yX4_writeTitle : MethodName := ⟨RX4, "writeTitle", "(I)V"⟩
abbrev cX4_signOf : ByteArray := prog_1_method_33_code
def yX4_signOf : MethodName := ⟨RX4, "signOf", "(I)C"⟩
abbrev cX4_isCell : ByteArray := prog_1_method_34_code
def yX4_isCell : MethodName := ⟨RX4, "isCell", "(I)Z"⟩
abbrev cX4_columnOf : ByteArray := prog_1_method_35_code
def yX4_columnOf : MethodName := ⟨RX4, "columnOf", "(I)I"⟩
abbrev cX4_depthAt : ByteArray := prog_1_method_36_code
def yX4_depthAt : MethodName := ⟨RX4, "depthAt", "(I)I"⟩
abbrev cX4_requireCell : ByteArray := prog_1_method_37_code
def yX4_requireCell : MethodName := ⟨RX4, "requireCell", "(I)V"⟩
abbrev cX4_requireDiver : ByteArray := prog_1_method_38_code
def yX4_requireDiver : MethodName := ⟨RX4, "requireDiver", "(I)V"⟩
abbrev cX4_requireFinder : ByteArray := prog_1_method_39_code
def yX4_requireFinder : MethodName := ⟨RX4, "requireFinder", "(I)V"⟩
abbrev cX4_requireClaim : ByteArray := prog_1_method_40_code
def yX4_requireClaim : MethodName := ⟨RX4, "requireClaim", "(I)V"⟩
abbrev cX4_requireThing : ByteArray := prog_1_method_41_code
def yX4_requireThing : MethodName := ⟨RX4, "requireThing", "(I)V"⟩
abbrev cX4_requireHeight : ByteArray := prog_1_method_42_code
def yX4_requireHeight : MethodName := ⟨RX4, "requireHeight", "(I)V"⟩
abbrev cX4_requireWithin : ByteArray := prog_1_method_43_code
def yX4_requireWithin : MethodName := ⟨RX4, "requireWithin", "(III)V"⟩
abbrev cX4_requireFree : ByteArray := prog_1_method_44_code
def yX4_requireFree : MethodName := ⟨RX4, "requireFree", "(I)V"⟩
abbrev cX4_requireDive : ByteArray := prog_1_method_45_code
def yX4_requireDive : MethodName := ⟨RX4, "requireDive", "(III)V"⟩
abbrev cX4_requireOpenShape : ByteArray := prog_1_method_46_code
def yX4_requireOpenShape : MethodName := ⟨RX4, "requireOpenShape", "(I)V"⟩
def RX5 : String := "EchoRegistryModel"
def TX5 : u_T := fun k => match k with
  | _ => ("", "", "", false)
def tyX5 : Nat → FieldType := fun k => match k with
  | _ => .int
theorem nmX5 : ∀ a, a < 0 → ∀ b, b < 0 → a ≠ b → (TX5 a).2.1 ≠ (TX5 b).2.1 := by decide +kernel
theorem tyX5_ok : ∀ k, k < 0 → parseFieldDescriptor (TX5 k).2.2.1 = some (tyX5 k) := by decide +kernel
def RJx145de : String := "java/io/Serializable"
def TJx145de : u_T := fun k => match k with
  | _ => ("", "", "", false)
def tyJx145de : Nat → FieldType := fun k => match k with
  | _ => .int
theorem nmJx145de : ∀ a, a < 0 → ∀ b, b < 0 → a ≠ b → (TJx145de a).2.1 ≠ (TJx145de b).2.1 := by decide +kernel
theorem tyJx145de_ok : ∀ k, k < 0 → parseFieldDescriptor (TJx145de k).2.2.1 = some (tyJx145de k) := by decide +kernel
def RJ5 : String := "java/lang/AbstractStringBuilder"
def TJ5 : u_T := fun k => match k with
  | _ => ("", "", "", false)
def tyJ5 : Nat → FieldType := fun k => match k with
  | _ => .int
theorem nmJ5 : ∀ a, a < 0 → ∀ b, b < 0 → a ≠ b → (TJ5 a).2.1 ≠ (TJ5 b).2.1 := by decide +kernel
theorem tyJ5_ok : ∀ k, k < 0 → parseFieldDescriptor (TJ5 k).2.2.1 = some (tyJ5 k) := by decide +kernel
abbrev cJ5_init_d00df : ByteArray := prog_8_method_2_code
def yJ5_init_d00df : MethodName := ⟨RJ5, "<init>", "(I)V"⟩
abbrev cJ5_length_8abf5 : ByteArray := prog_8_method_6_code
def yJ5_length_8abf5 : MethodName := ⟨RJ5, "length", "()I"⟩
abbrev cJ5_ensureCapacityInternal_d00df : ByteArray := prog_8_method_9_code
def yJ5_ensureCapacityInternal_d00df : MethodName := ⟨RJ5, "ensureCapacityInternal", "(I)V"⟩
abbrev cJ5_newCapacity_0f7a4 : ByteArray := prog_8_method_10_code
def yJ5_newCapacity_0f7a4 : MethodName := ⟨RJ5, "newCapacity", "(I)I"⟩
abbrev cJ5_inflate_da8c8 : ByteArray := prog_8_method_11_code
def yJ5_inflate_da8c8 : MethodName := ⟨RJ5, "inflate", "()V"⟩
abbrev cJ5_setLength_d00df : ByteArray := prog_8_method_13_code
def yJ5_setLength_d00df : MethodName := ⟨RJ5, "setLength", "(I)V"⟩
abbrev cJ5_charAt_5068e : ByteArray := prog_8_method_14_code
def yJ5_charAt_5068e : MethodName := ⟨RJ5, "charAt", "(I)C"⟩
abbrev cJ5_append_3fe6f : ByteArray := prog_8_method_31_code
def yJ5_append_3fe6f : MethodName := ⟨RJ5, "append", "(C)Ljava/lang/AbstractStringBuilder;"⟩
abbrev cJ5_append_c97b9 : ByteArray := prog_8_method_32_code
def yJ5_append_c97b9 : MethodName := ⟨RJ5, "append", "(I)Ljava/lang/AbstractStringBuilder;"⟩
abbrev cJ5_isLatin1_aae02 : ByteArray := prog_8_method_68_code
def yJ5_isLatin1_aae02 : MethodName := ⟨RJ5, "isLatin1", "()Z"⟩
def RJx2cfe8 : String := "java/lang/Appendable"
def TJx2cfe8 : u_T := fun k => match k with
  | _ => ("", "", "", false)
def tyJx2cfe8 : Nat → FieldType := fun k => match k with
  | _ => .int
theorem nmJx2cfe8 : ∀ a, a < 0 → ∀ b, b < 0 → a ≠ b → (TJx2cfe8 a).2.1 ≠ (TJx2cfe8 b).2.1 := by decide +kernel
theorem tyJx2cfe8_ok : ∀ k, k < 0 → parseFieldDescriptor (TJx2cfe8 k).2.2.1 = some (tyJx2cfe8 k) := by decide +kernel
def RJx9f9b0 : String := "java/lang/CharSequence"
def TJx9f9b0 : u_T := fun k => match k with
  | _ => ("", "", "", false)
def tyJx9f9b0 : Nat → FieldType := fun k => match k with
  | _ => .int
theorem nmJx9f9b0 : ∀ a, a < 0 → ∀ b, b < 0 → a ≠ b → (TJx9f9b0 a).2.1 ≠ (TJx9f9b0 b).2.1 := by decide +kernel
theorem tyJx9f9b0_ok : ∀ k, k < 0 → parseFieldDescriptor (TJx9f9b0 k).2.2.1 = some (tyJx9f9b0 k) := by decide +kernel
def RJx8e188 : String := "java/lang/Cloneable"
def TJx8e188 : u_T := fun k => match k with
  | _ => ("", "", "", false)
def tyJx8e188 : Nat → FieldType := fun k => match k with
  | _ => .int
theorem nmJx8e188 : ∀ a, a < 0 → ∀ b, b < 0 → a ≠ b → (TJx8e188 a).2.1 ≠ (TJx8e188 b).2.1 := by decide +kernel
theorem tyJx8e188_ok : ∀ k, k < 0 → parseFieldDescriptor (TJx8e188 k).2.2.1 = some (tyJx8e188 k) := by decide +kernel
def RJxb160c : String := "java/lang/Comparable"
def TJxb160c : u_T := fun k => match k with
  | _ => ("", "", "", false)
def tyJxb160c : Nat → FieldType := fun k => match k with
  | _ => .int
theorem nmJxb160c : ∀ a, a < 0 → ∀ b, b < 0 → a ≠ b → (TJxb160c a).2.1 ≠ (TJxb160c b).2.1 := by decide +kernel
theorem tyJxb160c_ok : ∀ k, k < 0 → parseFieldDescriptor (TJxb160c k).2.2.1 = some (tyJxb160c k) := by decide +kernel
def RJ6 : String := "java/lang/Integer"
def TJ6 : u_T := fun k => match k with
  | _ => ("", "", "", false)
def tyJ6 : Nat → FieldType := fun k => match k with
  | _ => .int
theorem nmJ6 : ∀ a, a < 0 → ∀ b, b < 0 → a ≠ b → (TJ6 a).2.1 ≠ (TJ6 b).2.1 := by decide +kernel
theorem tyJ6_ok : ∀ k, k < 0 → parseFieldDescriptor (TJ6 k).2.2.1 = some (tyJ6 k) := by decide +kernel
abbrev cJ6_getChars_ba4f3 : ByteArray := prog_14_method_12_code
def yJ6_getChars_ba4f3 : MethodName := ⟨RJ6, "getChars", "(II[B)I"⟩
abbrev cJ6_stringSize_0f7a4 : ByteArray := prog_14_method_13_code
def yJ6_stringSize_0f7a4 : MethodName := ⟨RJ6, "stringSize", "(I)I"⟩
def RJ9 : String := "java/lang/Math"
def TJ9 : u_T := fun k => match k with
  | _ => ("", "", "", false)
def tyJ9 : Nat → FieldType := fun k => match k with
  | _ => .int
theorem nmJ9 : ∀ a, a < 0 → ∀ b, b < 0 → a ≠ b → (TJ9 a).2.1 ≠ (TJ9 b).2.1 := by decide +kernel
theorem tyJ9_ok : ∀ k, k < 0 → parseFieldDescriptor (TJ9 k).2.2.1 = some (tyJ9 k) := by decide +kernel
abbrev cJ9_max_7cf53 : ByteArray := prog_15_method_65_code
def yJ9_max_7cf53 : MethodName := ⟨RJ9, "max", "(II)I"⟩
abbrev cJ9_min_7cf53 : ByteArray := prog_15_method_69_code
def yJ9_min_7cf53 : MethodName := ⟨RJ9, "min", "(II)I"⟩
def RJxd2413 : String := "java/lang/Number"
def TJxd2413 : u_T := fun k => match k with
  | _ => ("", "", "", false)
def tyJxd2413 : Nat → FieldType := fun k => match k with
  | _ => .int
theorem nmJxd2413 : ∀ a, a < 0 → ∀ b, b < 0 → a ≠ b → (TJxd2413 a).2.1 ≠ (TJxd2413 b).2.1 := by decide +kernel
theorem tyJxd2413_ok : ∀ k, k < 0 → parseFieldDescriptor (TJxd2413 k).2.2.1 = some (tyJxd2413 k) := by decide +kernel
def RJ0 : String := "java/lang/String"
def TJ0 : u_T := fun k => match k with
  | _ => ("", "", "", false)
def tyJ0 : Nat → FieldType := fun k => match k with
  | _ => .int
theorem nmJ0 : ∀ a, a < 0 → ∀ b, b < 0 → a ≠ b → (TJ0 a).2.1 ≠ (TJ0 b).2.1 := by decide +kernel
theorem tyJ0_ok : ∀ k, k < 0 → parseFieldDescriptor (TJ0 k).2.2.1 = some (tyJ0 k) := by decide +kernel
abbrev cJ0_checkIndex_df160 : ByteArray := prog_18_method_155_code
def yJ0_checkIndex_df160 : MethodName := ⟨RJ0, "checkIndex", "(II)V"⟩
abbrev cJ0_checkBoundsOffCount_cabcc : ByteArray := prog_18_method_157_code
def yJ0_checkBoundsOffCount_cabcc : MethodName := ⟨RJ0, "checkBoundsOffCount", "(III)I"⟩
abbrev cJ0_checkBoundsBeginEnd_23922 : ByteArray := prog_18_method_158_code
def yJ0_checkBoundsBeginEnd_23922 : MethodName := ⟨RJ0, "checkBoundsBeginEnd", "(III)V"⟩
def RJ4 : String := "java/lang/StringBuilder"
def TJ4 : u_T := fun k => match k with
  | 0 => ("java/lang/AbstractStringBuilder", "value", "[B", false)
  | 1 => ("java/lang/AbstractStringBuilder", "coder", "B", false)
  | 2 => ("java/lang/AbstractStringBuilder", "maybeLatin1", "Z", false)
  | _ => ("java/lang/AbstractStringBuilder", "count", "I", false)
def tyJ4 : Nat → FieldType := fun k => match k with
  | 0 => .array .byte
  | 1 => .byte
  | 2 => .boolean
  | _ => .int
theorem nmJ4 : ∀ a, a < 4 → ∀ b, b < 4 → a ≠ b → (TJ4 a).2.1 ≠ (TJ4 b).2.1 := by decide +kernel
theorem tyJ4_ok : ∀ k, k < 4 → parseFieldDescriptor (TJ4 k).2.2.1 = some (tyJ4 k) := by decide +kernel
abbrev cJ4_init_da8c8 : ByteArray := prog_19_method_1_code
def yJ4_init_da8c8 : MethodName := ⟨RJ4, "<init>", "()V"⟩
abbrev cJ4_append_cf468 : ByteArray := prog_19_method_14_code
def yJ4_append_cf468 : MethodName := ⟨RJ4, "append", "(C)Ljava/lang/StringBuilder;"⟩
abbrev cJ4_append_bf812 : ByteArray := prog_19_method_15_code
def yJ4_append_bf812 : MethodName := ⟨RJ4, "append", "(I)Ljava/lang/StringBuilder;"⟩
abbrev cJ4_charAt_5068e : ByteArray := prog_19_method_88_code
def yJ4_charAt_5068e : MethodName := ⟨RJ4, "charAt", "(I)C"⟩
abbrev cJ4_setLength_d00df : ByteArray := prog_19_method_89_code
def yJ4_setLength_d00df : MethodName := ⟨RJ4, "setLength", "(I)V"⟩
abbrev cJ4_length_8abf5 : ByteArray := prog_19_method_93_code
def yJ4_length_8abf5 : MethodName := ⟨RJ4, "length", "()I"⟩
def RJ1 : String := "java/lang/StringLatin1"
def TJ1 : u_T := fun k => match k with
  | _ => ("", "", "", false)
def tyJ1 : Nat → FieldType := fun k => match k with
  | _ => .int
theorem nmJ1 : ∀ a, a < 0 → ∀ b, b < 0 → a ≠ b → (TJ1 a).2.1 ≠ (TJ1 b).2.1 := by decide +kernel
theorem tyJ1_ok : ∀ k, k < 0 → parseFieldDescriptor (TJ1 k).2.2.1 = some (tyJ1 k) := by decide +kernel
abbrev cJ1_canEncode_fc78d : ByteArray := prog_20_method_3_code
def yJ1_canEncode_fc78d : MethodName := ⟨RJ1, "canEncode", "(C)Z"⟩
abbrev cJ1_fillNull_b72d1 : ByteArray := prog_20_method_48_code
def yJ1_fillNull_b72d1 : MethodName := ⟨RJ1, "fillNull", "([BII)V"⟩
abbrev cJ1_inflate_0e8fd : ByteArray := prog_20_method_50_code
def yJ1_inflate_0e8fd : MethodName := ⟨RJ1, "inflate", "([BI[BII)V"⟩
def RJ2 : String := "java/lang/StringUTF16"
def TJ2 : u_T := fun k => match k with
  | _ => ("", "", "", false)
def tyJ2 : Nat → FieldType := fun k => match k with
  | _ => .int
theorem nmJ2 : ∀ a, a < 0 → ∀ b, b < 0 → a ≠ b → (TJ2 a).2.1 ≠ (TJ2 b).2.1 := by decide +kernel
theorem tyJ2_ok : ∀ k, k < 0 → parseFieldDescriptor (TJ2 k).2.2.1 = some (tyJ2 k) := by decide +kernel
abbrev cJ2_newBytesFor_77867 : ByteArray := prog_21_method_2_code
def yJ2_newBytesFor_77867 : MethodName := ⟨RJ2, "newBytesFor", "(I)[B"⟩
abbrev cJ2_newBytesLength_0f7a4 : ByteArray := prog_21_method_3_code
def yJ2_newBytesLength_0f7a4 : MethodName := ⟨RJ2, "newBytesLength", "(I)I"⟩
abbrev cJ2_putChar_b72d1 : ByteArray := prog_21_method_4_code
def yJ2_putChar_b72d1 : MethodName := ⟨RJ2, "putChar", "([BII)V"⟩
abbrev cJ2_getChar_3b067 : ByteArray := prog_21_method_5_code
def yJ2_getChar_3b067 : MethodName := ⟨RJ2, "getChar", "([BI)C"⟩
abbrev cJ2_length_9d52b : ByteArray := prog_21_method_6_code
def yJ2_length_9d52b : MethodName := ⟨RJ2, "length", "([B)I"⟩
abbrev cJ2_fillNull_b72d1 : ByteArray := prog_21_method_70_code
def yJ2_fillNull_b72d1 : MethodName := ⟨RJ2, "fillNull", "([BII)V"⟩
abbrev cJ2_putCharSB_b72d1 : ByteArray := prog_21_method_71_code
def yJ2_putCharSB_b72d1 : MethodName := ⟨RJ2, "putCharSB", "([BII)V"⟩
abbrev cJ2_getChars_46870 : ByteArray := prog_21_method_77_code
def yJ2_getChars_46870 : MethodName := ⟨RJ2, "getChars", "(III[B)I"⟩
abbrev cJ2_inflate_0e8fd : ByteArray := prog_21_method_86_code
def yJ2_inflate_0e8fd : MethodName := ⟨RJ2, "inflate", "([BI[BII)V"⟩
abbrev cJ2_getChars_ba4f3 : ByteArray := prog_21_method_89_code
def yJ2_getChars_ba4f3 : MethodName := ⟨RJ2, "getChars", "(II[B)I"⟩
abbrev cJ2_checkIndex_2214a : ByteArray := prog_21_method_91_code
def yJ2_checkIndex_2214a : MethodName := ⟨RJ2, "checkIndex", "(I[B)V"⟩
abbrev cJ2_checkBoundsBeginEnd_d044e : ByteArray := prog_21_method_93_code
def yJ2_checkBoundsBeginEnd_d044e : MethodName := ⟨RJ2, "checkBoundsBeginEnd", "(II[B)V"⟩
abbrev cJ2_checkBoundsOffCount_d044e : ByteArray := prog_21_method_94_code
def yJ2_checkBoundsOffCount_d044e : MethodName := ⟨RJ2, "checkBoundsOffCount", "(II[B)V"⟩
def RJ10 : String := "java/lang/System"
def TJ10 : u_T := fun k => match k with
  | _ => ("", "", "", false)
def tyJ10 : Nat → FieldType := fun k => match k with
  | _ => .int
theorem nmJ10 : ∀ a, a < 0 → ∀ b, b < 0 → a ≠ b → (TJ10 a).2.1 ≠ (TJ10 b).2.1 := by decide +kernel
theorem tyJ10_ok : ∀ k, k < 0 → parseFieldDescriptor (TJ10 k).2.2.1 = some (tyJ10 k) := by decide +kernel
def RJxfd54e : String := "java/lang/constant/Constable"
def TJxfd54e : u_T := fun k => match k with
  | _ => ("", "", "", false)
def tyJxfd54e : Nat → FieldType := fun k => match k with
  | _ => .int
theorem nmJxfd54e : ∀ a, a < 0 → ∀ b, b < 0 → a ≠ b → (TJxfd54e a).2.1 ≠ (TJxfd54e b).2.1 := by decide +kernel
theorem tyJxfd54e_ok : ∀ k, k < 0 → parseFieldDescriptor (TJxfd54e k).2.2.1 = some (tyJxfd54e k) := by decide +kernel
def RJx3cf43 : String := "java/lang/constant/ConstantDesc"
def TJx3cf43 : u_T := fun k => match k with
  | _ => ("", "", "", false)
def tyJx3cf43 : Nat → FieldType := fun k => match k with
  | _ => .int
theorem nmJx3cf43 : ∀ a, a < 0 → ∀ b, b < 0 → a ≠ b → (TJx3cf43 a).2.1 ≠ (TJx3cf43 b).2.1 := by decide +kernel
theorem tyJx3cf43_ok : ∀ k, k < 0 → parseFieldDescriptor (TJx3cf43 k).2.2.1 = some (tyJx3cf43 k) := by decide +kernel
def RJ7 : String := "java/util/Arrays"
def TJ7 : u_T := fun k => match k with
  | _ => ("", "", "", false)
def tyJ7 : Nat → FieldType := fun k => match k with
  | _ => .int
theorem nmJ7 : ∀ a, a < 0 → ∀ b, b < 0 → a ≠ b → (TJ7 a).2.1 ≠ (TJ7 b).2.1 := by decide +kernel
theorem tyJ7_ok : ∀ k, k < 0 → parseFieldDescriptor (TJ7 k).2.2.1 = some (tyJ7 k) := by decide +kernel
abbrev cJ7_rangeCheck_23922 : ByteArray := prog_24_method_30_code
def yJ7_rangeCheck_23922 : MethodName := ⟨RJ7, "rangeCheck", "(III)V"⟩
abbrev cJ7_fill_53178 : ByteArray := prog_24_method_103_code
def yJ7_fill_53178 : MethodName := ⟨RJ7, "fill", "([II)V"⟩
abbrev cJ7_fill_eb02e : ByteArray := prog_24_method_110_code
def yJ7_fill_eb02e : MethodName := ⟨RJ7, "fill", "([BIIB)V"⟩
abbrev cJ7_copyOf_9075b : ByteArray := prog_24_method_121_code
def yJ7_copyOf_9075b : MethodName := ⟨RJ7, "copyOf", "([BI)[B"⟩
def RJ8 : String := "jdk/internal/util/ArraysSupport"
def TJ8 : u_T := fun k => match k with
  | _ => ("", "", "", false)
def tyJ8 : Nat → FieldType := fun k => match k with
  | _ => .int
theorem nmJ8 : ∀ a, a < 0 → ∀ b, b < 0 → a ≠ b → (TJ8 a).2.1 ≠ (TJ8 b).2.1 := by decide +kernel
theorem tyJ8_ok : ∀ k, k < 0 → parseFieldDescriptor (TJ8 k).2.2.1 = some (tyJ8 k) := by decide +kernel
abbrev cJ8_newLength_cabcc : ByteArray := prog_25_method_27_code
def yJ8_newLength_cabcc : MethodName := ⟨RJ8, "newLength", "(III)I"⟩
abbrev cJ8_hugeLength_7cf53 : ByteArray := prog_25_method_28_code
def yJ8_hugeLength_7cf53 : MethodName := ⟨RJ8, "hugeLength", "(II)I"⟩
def RJ3 : String := "jdk/internal/util/Preconditions"
def TJ3 : u_T := fun k => match k with
  | _ => ("", "", "", false)
def tyJ3 : Nat → FieldType := fun k => match k with
  | _ => .int
theorem nmJ3 : ∀ a, a < 0 → ∀ b, b < 0 → a ≠ b → (TJ3 a).2.1 ≠ (TJ3 b).2.1 := by decide +kernel
theorem tyJ3_ok : ∀ k, k < 0 → parseFieldDescriptor (TJ3 k).2.2.1 = some (tyJ3 k) := by decide +kernel
abbrev cJ3_checkIndex_8e157 : ByteArray := prog_26_method_11_code
def yJ3_checkIndex_8e157 : MethodName := ⟨RJ3, "checkIndex", "(IILjava/util/function/BiFunction;)I"⟩
abbrev cJ3_checkFromToIndex_8c36e : ByteArray := prog_26_method_12_code
def yJ3_checkFromToIndex_8c36e : MethodName := ⟨RJ3, "checkFromToIndex", "(IIILjava/util/function/BiFunction;)I"⟩
abbrev cJ3_checkFromIndexSize_8c36e : ByteArray := prog_26_method_13_code
def yJ3_checkFromIndexSize_8c36e : MethodName := ⟨RJ3, "checkFromIndexSize", "(IIILjava/util/function/BiFunction;)I"⟩
def RL : String := "EchoRegistryLaw"
abbrev cL_low : ByteArray := method_2_code
def yL_low : MethodName := ⟨RL, "low", "(II)I"⟩
abbrev cL_cell : ByteArray := method_3_code
def yL_cell : MethodName := ⟨RL, "cell", "([II)I"⟩
abbrev cL_name : ByteArray := method_4_code
def yL_name : MethodName := ⟨RL, "name", "(LEchoRegistry;IIII)I"⟩
abbrev cL_raise : ByteArray := method_5_code
def yL_raise : MethodName := ⟨RL, "raise", "(LEchoRegistry;IIII)I"⟩
abbrev cL_fill : ByteArray := method_6_code
def yL_fill : MethodName := ⟨RL, "fill", "(LEchoRegistry;I)I"⟩
abbrev cL_claim : ByteArray := method_7_code
def yL_claim : MethodName := ⟨RL, "claim", "(LEchoRegistry;II)I"⟩
abbrev cL_renew : ByteArray := method_8_code
def yL_renew : MethodName := ⟨RL, "renew", "(LEchoRegistry;I)I"⟩
abbrev cL_cells : ByteArray := method_9_code
def yL_cells : MethodName := ⟨RL, "cells", "(LEchoRegistry;I)Z"⟩
abbrev cL_claims : ByteArray := method_10_code
def yL_claims : MethodName := ⟨RL, "claims", "(LEchoRegistry;)Z"⟩
abbrev cL_sum : ByteArray := method_11_code
def yL_sum : MethodName := ⟨RL, "sum", "(LEchoRegistry;)I"⟩
abbrev cL_law : ByteArray := code
def yL_law : MethodName := ⟨RL, "law", "([I)Z"⟩
end
section
/-! ===== AN ABSTRACT MACHINE: a world is a list of cells, a reference is a place in it ===== -/
abbrev zL : Type := List (Nat × Value)
abbrev zS : Type := List Value
abbrev zW : Type := List va_E
abbrev zK : Type := zL → zS → zW → Nat → Nat → Prop
abbrev zSpec : Type := zS → zW → (Option Value → zW → Prop) → (String → zW → Prop) → Prop
abbrev zCall : Type := Nat × Nat × Option Nat × Nat × Nat × Bool × zSpec
/-- the classes whose objects a world may hold -/
abbrev zCl : List vw_C := [(RJ4, TJ4, 4), (RX0, TX0, 8), (RX1, TX1, 4), (RX2, TX2, 2), (RX3, TX3, 5), (RX4, TX4, 6)]
def zTy (ci : Nat) : Nat → FieldType := match ci with
  | 0 => tyJ4
  | 1 => tyX0
  | 2 => tyX1
  | 3 => tyX2
  | 4 => tyX3
  | _ => tyX4
def zlk {α : Type} (k : Nat) : List (Nat × α) → Option α
  | [] => none
  | q :: t => match Nat.beq q.1 k with
    | true => some q.2
    | false => zlk k t
/-- the locals but the one at k -/
def zdel (k : Nat) : zL → zL
  | [] => []
  | q :: t => match Nat.beq q.1 k with
    | true => zdel k t
    | false => match q.2 with
      | .long _ => zdel k t
      | .double _ => zdel k t
      | _ => q :: zdel k t
def zset (k : Nat) (v : Value) (L : zL) : zL := (k, v) :: zdel k L
def zcat : zS → Nat
  | [] => 0
  | v :: t => v.category + zcat t
def zpop : Nat → zS → zS → Option (zS × zS)
  | 0, S, acc => some (acc, S)
  | n + 1, v :: S, acc => zpop n S (v :: acc)
  | _ + 1, [], _ => none
def zpush (r : Option Value) (S : zS) : zS := match r with
  | some v => v :: S
  | none => S
/-- the references of a value, a stack, the locals, a world lie below n -/
def zbV (n : Nat) : Value → Bool
  | .ref k => Nat.blt k n || Nat.ble 1000 k
  | _ => true
def zbS (n : Nat) : zS → Bool
  | [] => true
  | v :: t => zbV n v && zbS n t
def zbL (n : Nat) : zL → Bool
  | [] => true
  | q :: t => zbV n q.2 && zbL n t
def zbE (n : Nat) : va_E → Bool
  | .inl _ => true
  | .inr o => zbS n o.2
def zbW (n : Nat) : zW → Bool
  | [] => true
  | e :: t => zbE n e && zbW n t
def zcv (ad : Nat → Nat) : Value → Value
  | .ref k => .ref (ad k)
  | .int x => .int x
  | .long x => .long x
  | .float x => .float x
  | .double x => .double x
  | .null => .null
  | .retAddr x => .retAddr x
def zce (cA : Nat → ClassId) (ad : Nat → Nat) : va_E → va_E
  | .inl a => .inl (cA a.1, a.2)
  | .inr o => .inr (o.1, o.2.map (zcv ad))
def zcw (cA : Nat → ClassId) (ad : Nat → Nat) (w : zW) : va_W := w.mapIdx (fun k e => (ad k, zce cA ad e))
def zcl (ad : Nat → Nat) (L : zL) : List (Nat × Value) := L.map (fun q => (q.1, zcv ad q.2))
theorem zcv_cat (ad : Nat → Nat) (v : Value) : (zcv ad v).category = v.category := by cases v <;> rfl
theorem zcat_map (ad : Nat → Nat) (S : zS) : ((S.map (zcv ad)).map fun v => v.category).sum = zcat S := by
  induction S with
  | nil => rfl
  | cons v t ih => simp only [List.map_cons, List.sum_cons, zcat, zcv_cat, ih]
theorem zlk_mem {α : Type} {k : Nat} {v : α} : ∀ {L : List (Nat × α)}, zlk k L = some v → (k, v) ∈ L
  | [], h => by cases h
  | q :: t, h => by
    unfold zlk at h
    split at h
    · rename_i hb
      have e := Nat.eq_of_beq_eq_true hb
      cases h
      subst e
      exact List.mem_cons_self
    · exact List.mem_cons_of_mem _ (zlk_mem h)
theorem zlk_at {ad : Nat → Nat} {ls : Array Slot} {nL k : Nat} {L : zL} {v : Value} (h : lv_has ls nL (zcl ad L)) (hk : zlk k L = some v) : ls[k]? = some (.val (zcv ad v)) :=
  h.2.2 (k, zcv ad v) (List.mem_map.mpr ⟨(k, v), zlk_mem hk, rfl⟩)
theorem zdel_mem {k : Nat} {q : Nat × Value} : ∀ {L : zL}, q ∈ zdel k L → q ∈ L ∧ q.1 ≠ k ∧ q.2.category = 1
  | [], h => by cases h
  | x :: t, h => by
    have go : q ∈ zdel k t → q ∈ x :: t ∧ q.1 ≠ k ∧ q.2.category = 1 := fun h => by
      obtain ⟨a, b⟩ := zdel_mem h
      exact ⟨List.mem_cons_of_mem _ a, b⟩
    unfold zdel at h
    split at h
    · exact go h
    · rename_i hb
      have hne : x.1 ≠ k := fun e => by rw [e] at hb; simp at hb
      split at h
      · exact go h
      · exact go h
      · rename_i h1 h2
        rcases List.mem_cons.mp h with e | h
        · subst e
          refine ⟨List.mem_cons_self, hne, ?_⟩
          cases hq : q.2 <;> first | rfl | exact absurd hq (h1 _) | exact absurd hq (h2 _)
        · exact go h
theorem zset_has {ad : Nat → Nat} {ls : Array Slot} {nL k : Nat} {L : zL} {v : Value} (h : lv_has ls nL ((k, zcv ad v) :: (zcl ad L).filter (fun q => !(q.1 == k) && !(q.1 + 1 == k && q.2.category == 2)))) : lv_has ls nL (zcl ad (zset k v L)) := by
  refine ⟨h.1, h.2.1, fun q hq => h.2.2 q ?_⟩
  obtain ⟨x, hx, rfl⟩ := List.mem_map.mp hq
  rcases List.mem_cons.mp hx with e | hx
  · subst e
    exact List.mem_cons_self
  · obtain ⟨a, b, c⟩ := zdel_mem hx
    refine List.mem_cons_of_mem _ (List.mem_filter.mpr ⟨List.mem_map.mpr ⟨x, a, rfl⟩, ?_⟩)
    have c' : (zcv ad x.2).category = 1 := by rw [zcv_cat]; exact c
    simp [b, c']
theorem zcw_get {cA : Nat → ClassId} {ad : Nat → Nat} {w : zW} {k : Nat} {e : va_E} (h : w[k]? = some e) : (zcw cA ad w)[k]? = some (ad k, zce cA ad e) := by
  unfold zcw
  rw [List.getElem?_mapIdx, h]
  rfl
theorem zcw_inv {cA : Nat → ClassId} {ad : Nat → Nat} {w : zW} {k : Nat} {q : Nat × va_E} (h : (zcw cA ad w)[k]? = some q) : ∃ e, w[k]? = some e ∧ q = (ad k, zce cA ad e) := by
  unfold zcw at h
  rw [List.getElem?_mapIdx] at h
  cases hw : w[k]? with
  | none => rw [hw] at h; cases h
  | some e => rw [hw] at h; exact ⟨e, rfl, (Option.some.inj h).symm⟩
theorem zcw_set {cA : Nat → ClassId} {ad : Nat → Nat} {w : zW} {k : Nat} {e : va_E} (h : k < w.length) : (zcw cA ad w).set k (ad k, zce cA ad e) = zcw cA ad (w.set k e) := by
  apply List.ext_getElem?
  intro i
  unfold zcw
  rw [List.getElem?_set, List.getElem?_mapIdx, List.getElem?_mapIdx, List.getElem?_set, List.length_mapIdx]
  by_cases e1 : k = i
  · subst e1
    simp [h]
  · simp [e1]
theorem zcv_up {ad : Nat → Nat} {n q : Nat} (hn : n < 1000) {v : Value} (h : zbV n v = true) : zcv (va_up ad n q) v = zcv ad v := by
  cases v <;> try rfl
  rename_i k
  simp only [zbV, Bool.or_eq_true] at h
  have hne : k ≠ n := by
    rcases h with h | h
    · exact Nat.ne_of_lt (by simpa [Nat.blt_eq] using h)
    · have h' : 1000 ≤ k := Nat.le_of_ble_eq_true h
      exact fun e => Nat.lt_irrefl _ (Nat.lt_of_lt_of_le hn (e ▸ h'))
  simp [zcv, va_up, hne]
theorem zcS_up {ad : Nat → Nat} {n q : Nat} (hn : n < 1000) : ∀ {S : zS}, zbS n S = true → S.map (zcv (va_up ad n q)) = S.map (zcv ad)
  | [], _ => rfl
  | v :: t, h => by
    simp only [zbS, Bool.and_eq_true] at h
    simp only [List.map_cons, zcv_up hn h.1, zcS_up hn h.2]
theorem zcl_up {ad : Nat → Nat} {n q : Nat} (hn : n < 1000) : ∀ {L : zL}, zbL n L = true → zcl (va_up ad n q) L = zcl ad L
  | [], _ => rfl
  | v :: t, h => by
    simp only [zbL, Bool.and_eq_true] at h
    have e := zcl_up (ad := ad) (q := q) hn h.2
    unfold zcl at e ⊢
    simp only [List.map_cons, zcv_up hn h.1, e]
theorem zbW_get {n : Nat} : ∀ {w : zW} {k : Nat} {e : va_E}, zbW n w = true → w[k]? = some e → zbE n e = true
  | [], _, _, _, h => by cases h
  | x :: t, 0, e, hb, h => by
    simp only [zbW, Bool.and_eq_true] at hb
    cases h
    exact hb.1
  | x :: t, k + 1, e, hb, h => by
    simp only [zbW, Bool.and_eq_true] at hb
    exact zbW_get hb.2 (by simpa using h)
theorem zce_up {cA : Nat → ClassId} {ad : Nat → Nat} {n q : Nat} (hn : n < 1000) {e : va_E} (h : zbE n e = true) : zce cA (va_up ad n q) e = zce cA ad e := by
  cases e with
  | inl a => rfl
  | inr o => simp only [zce, zcS_up hn (show zbS n o.2 = true from h)]
theorem zcw_push {cA : Nat → ClassId} {ad : Nat → Nat} {w : zW} {q : Nat} {e : va_E} (hn : w.length < 1000) (hw : zbW w.length w = true) (he : zbE w.length e = true) :
    zcw cA ad w ++ [(q, zce cA ad e)] = zcw cA (va_up ad w.length q) (w ++ [e]) := by
  apply List.ext_getElem?
  intro i
  by_cases hi : i < w.length
  · rw [List.getElem?_append_left (by unfold zcw; rw [List.length_mapIdx]; exact hi)]
    have hg : w[i]? = some w[i] := List.getElem?_eq_getElem hi
    rw [zcw_get hg, zcw_get (e := w[i]) (by rw [List.getElem?_append_left hi]; exact hg), zce_up hn (zbW_get hw hg)]
    have hne : i ≠ w.length := Nat.ne_of_lt hi
    simp [va_up, hne]
  · rw [List.getElem?_append_right (by unfold zcw; rw [List.length_mapIdx]; omega)]
    unfold zcw
    rw [List.length_mapIdx, List.getElem?_mapIdx, List.getElem?_append_right (by omega)]
    by_cases h0 : i = w.length
    · subst h0
      simp [va_up, zce_up hn he]
    · have h1 : ∃ j, i - w.length = j + 1 := ⟨i - w.length - 1, by omega⟩
      obtain ⟨j, hj⟩ := h1
      simp [hj]
end
section
/-! ===== THE STEP OF THE ABSTRACT MACHINE, as a condition on what comes behind it ===== -/
abbrev zX : Type := Program × Launch × Env × Room × State × MethodId × Array Value × List Frame × Method × Code × ByteArray × Nat × va_G × (Nat → ClassId) × (Nat → Prop) × (Nat → Nat) × (Bool × Nat) × (State → Prop)
abbrev zX.p (Γ : zX) : Program := Γ.1
abbrev zX.l (Γ : zX) : Launch := Γ.2.1
abbrev zX.e (Γ : zX) : Env := Γ.2.2.1
abbrev zX.R (Γ : zX) : Room := Γ.2.2.2.1
abbrev zX.s (Γ : zX) : State := Γ.2.2.2.2.1
abbrev zX.m (Γ : zX) : MethodId := Γ.2.2.2.2.2.1
abbrev zX.args (Γ : zX) : Array Value := Γ.2.2.2.2.2.2.1
abbrev zX.below (Γ : zX) : List Frame := Γ.2.2.2.2.2.2.2.1
abbrev zX.meth (Γ : zX) : Method := Γ.2.2.2.2.2.2.2.2.1
abbrev zX.c (Γ : zX) : Code := Γ.2.2.2.2.2.2.2.2.2.1
abbrev zX.cc (Γ : zX) : ByteArray := Γ.2.2.2.2.2.2.2.2.2.2.1
abbrev zX.nL (Γ : zX) : Nat := Γ.2.2.2.2.2.2.2.2.2.2.2.1
abbrev zX.G (Γ : zX) : va_G := Γ.2.2.2.2.2.2.2.2.2.2.2.2.1
abbrev zX.cA (Γ : zX) : Nat → ClassId := Γ.2.2.2.2.2.2.2.2.2.2.2.2.2.1
abbrev zX.A (Γ : zX) : Nat → Prop := Γ.2.2.2.2.2.2.2.2.2.2.2.2.2.2.1
abbrev zX.ad (Γ : zX) : Nat → Nat := Γ.2.2.2.2.2.2.2.2.2.2.2.2.2.2.2.1
abbrev zX.al (Γ : zX) : Bool := Γ.2.2.2.2.2.2.2.2.2.2.2.2.2.2.2.2.1.1
abbrev zX.n0 (Γ : zX) : Nat := Γ.2.2.2.2.2.2.2.2.2.2.2.2.2.2.2.2.1.2
abbrev zX.Q (Γ : zX) : State → Prop := Γ.2.2.2.2.2.2.2.2.2.2.2.2.2.2.2.2.2
/-- the addresses stay as they were: all, or those of the first n places and of the places from 1000 on -/
def zag (al : Bool) (n : Nat) (ad0 ad : Nat → Nat) : Prop := ∀ k : Nat, (al = false ∨ k < n ∨ 1000 ≤ k) → ad k = ad0 k
/-- the frame at pc, with these locals, this stack, this world: the method comes to its end -/
def zSm (Γ : zX) (pc : Nat) (L : zL) (S : zS) (w : zW) (cu su : Nat) : Prop :=
  ∀ (ad : Nat → Nat) (H : Heap) (locs : List Loc) (ls : Array Slot), va_P Γ.G zCl (zcw Γ.cA ad w) H → va_D Γ.A (zcw Γ.cA ad w) → va_S Γ.A Γ.s.heap H locs → lv_has ls Γ.nL (zcl ad L) → zag Γ.al Γ.n0 Γ.ad ad →
    W Γ.p Γ.l Γ.e Γ.R Γ.s Γ.m Γ.args Γ.below Γ.meth Γ.c H locs cu su Γ.Q (F0 Γ.m pc ls (S.map (zcv ad)))
/-- a method's tables: fields (place in the pool, class, field), calls, objects made, exceptions thrown (by their pc), static fields, numbers out of the pool, arrays that nobody writes, is it a constructor, the room, what a return owes, what a throw owes -/
abbrev zT : Type := List (Nat × Nat × Nat) × List (Nat × zCall) × List (Nat × Nat × Nat × List Value) × List (Nat × String) × List (Nat × Value) × List (Nat × Int32) × List (Nat × Nat × Nat × (Nat → Int32)) × Bool × (Nat × Nat) × (Option Value → zW → Nat → Nat → Prop) × (Nat → String → zL → zW → Nat → Nat → Prop) × (Bool × Nat)
abbrev zT.fl (T : zT) : List (Nat × Nat × Nat) := T.1
abbrev zT.cs (T : zT) : List (Nat × zCall) := T.2.1
abbrev zT.nw (T : zT) : List (Nat × Nat × Nat × List Value) := T.2.2.1
abbrev zT.th (T : zT) : List (Nat × String) := T.2.2.2.1
abbrev zT.st (T : zT) : List (Nat × Value) := T.2.2.2.2.1
abbrev zT.kc (T : zT) : List (Nat × Int32) := T.2.2.2.2.2.1
abbrev zT.sc (T : zT) : List (Nat × Nat × Nat × (Nat → Int32)) := T.2.2.2.2.2.2.1
abbrev zT.ini (T : zT) : Bool := T.2.2.2.2.2.2.2.1
abbrev zT.rc (T : zT) : Nat := T.2.2.2.2.2.2.2.2.1.1
abbrev zT.rs (T : zT) : Nat := T.2.2.2.2.2.2.2.2.1.2
abbrev zT.ret (T : zT) : Option Value → zW → Nat → Nat → Prop := T.2.2.2.2.2.2.2.2.2.1
abbrev zT.exc (T : zT) : Nat → String → zL → zW → Nat → Nat → Prop := T.2.2.2.2.2.2.2.2.2.2.1
abbrev zT.al (T : zT) : Bool := T.2.2.2.2.2.2.2.2.2.2.2.1
abbrev zT.n0 (T : zT) : Nat := T.2.2.2.2.2.2.2.2.2.2.2.2
/-- a number that an instruction pushes: n, or -1 -/
def zkon (tg : List Nat) : Int32 := match tg with
  | [k] => nI k
  | [_, k] => -nI k
  | _ => -1
def zsw (x : Int32) (K : Nat → Prop) (D : Prop) : Nat → List Nat → Prop
  | _, [] => D
  | k, t :: ts => (x = nI k → K t) ∧ (¬ x = nI k → zsw x K D (k + 1) ts)
def zlsw (x : Int32) (K : Nat → Prop) (D : Prop) : List Nat → List Nat → Prop
  | [], _ => D
  | _ :: _, [] => False
  | k :: ks, t :: ts => (x = nI k → K t) ∧ (¬ x = nI k → zlsw x K D ks ts)
def zrcv (rc : Option Nat) (as : zS) (w : zW) : Bool := match rc with
  | none => true
  | some ci => match as with
    | .ref k :: _ => match w[k]? with
      | some (.inr o) => Nat.beq o.1 ci
      | _ => false
    | _ => false
def zinv (ik : Nat) (T : zT) (k pc : Nat) (L : zL) (S : zS) (w : zW) (cu su : Nat) (N : zK) : Prop := match zlk k T.cs with
  | some (kd, n, rc, mc, ms, al, Sp) => match zpop n S [] with
    | some (as, S') => match Nat.beq kd ik && zrcv rc as w && Nat.ble (zcat S') 8 && Nat.ble (cu + mc) T.rc && Nat.ble (su + ms) T.rs && (!al || (T.al && Nat.ble T.n0 w.length && zbL w.length L && zbS w.length S')) with
      | true => Sp as w (fun r w' => N L (zpush r S') w' (cu + mc) (su + ms)) (fun E w' => T.exc pc E L w' (cu + mc) (su + ms))
      | false => False
    | none => False
  | none => False
def znewa (T : zT) (t : Nat) (z : Nat → vp_A) (L : zL) (S : zS) (w : zW) (cu su : Nat) (N : zK) : Prop := match S with
  | .int n :: S' => match T.al && Nat.blt w.length 1000 && Nat.ble T.n0 w.length && zbL w.length L && zbS w.length S' && zbW w.length w && Nat.ble (cu + 1) T.rc with
    | true => ∃ n0 : Nat, n = nI n0 ∧ n0 ≤ 65536 ∧ su + n0 ≤ T.rs ∧ N L (.ref w.length :: S') (w ++ [.inl (t, z n0)]) (cu + 1) (su + n0)
    | false => False
  | _ => False
def zgetf (T : zT) (k : Nat) (L : zL) (S : zS) (w : zW) (cu su : Nat) (N : zK) : Prop := match zlk k T.fl with
  | some (ci, i) => match S with
    | .ref a :: S' => match w[a]? with
      | some (.inr o) => match Nat.beq o.1 ci with
        | true => match o.2[i]? with
          | some v => N L (v :: S') w cu su
          | none => False
        | false => False
      | _ => False
    | _ => False
  | none => False
/-- what a field's type asks of the value that is put -/
def zfit (ty : FieldType) (v : Value) (K : Prop) : Prop := match ty, v with
  | .int, .int _ => K
  | .object _, .ref _ => K
  | .object _, .null => K
  | .array _, .ref _ => K
  | .array _, .null => K
  | ty, v => narrow ty v = v ∧ fits ty v = true ∧ K
def zputf (T : zT) (k : Nat) (L : zL) (S : zS) (w : zW) (cu su : Nat) (N : zK) : Prop := match zlk k T.fl with
  | some (ci, i) => match S with
    | v :: .ref a :: S' => match w[a]? with
      | some (.inr o) => match Nat.beq o.1 ci && Nat.blt i o.2.length with
        | true => match zCl[ci]? with
          | some q => match !(q.2.1 i).2.2.2 || T.ini with
            | true => zfit (zTy ci i) v (N L S' (w.set a (.inr (ci, o.2.set i v))) cu su)
            | false => False
          | none => False
        | false => False
      | _ => False
    | _ => False
  | none => False
def zald (t : Nat) (T : zT) (L : zL) (S : zS) (w : zW) (cu su : Nat) (N : zK) : Prop := match S with
  | .int i :: .ref a :: S' => match Nat.ble 1000 a with
    | true => match zlk a T.sc with
      | some (t', n, f) => match Nat.beq t' t with
        | true => vp_in i n ∧ N L (.int (f i.toNatClampNeg) :: S') w cu su
        | false => False
      | none => False
    | false => match w[a]? with
      | some (.inl (t', n, .inl f)) => match Nat.beq t' t with
        | true => vp_in i n ∧ N L (.int (f i.toNatClampNeg) :: S') w cu su
        | false => False
      | _ => False
  | _ => False
def zast (t : Nat) (nr : Int32 → Int32) (L : zL) (S : zS) (w : zW) (cu su : Nat) (N : zK) : Prop := match S with
  | .int x :: .int i :: .ref a :: S' => match w[a]? with
    | some (.inl (t', n, .inl f)) => match Nat.beq t' t with
      | true => vp_in i n ∧ N L S' (w.set a (.inl (t, n, .inl (upd f i.toNatClampNeg (nr x))))) cu su
      | false => False
    | _ => False
  | _ => False
def zlald (L : zL) (S : zS) (w : zW) (cu su : Nat) (N : zK) : Prop := match S with
  | .int i :: .ref a :: S' => match w[a]? with
    | some (.inl (t', n, .inr (.inl f))) => match Nat.beq t' 1 with
      | true => vp_in i n ∧ N L (.long (f i.toNatClampNeg) :: S') w cu su
      | false => False
    | _ => False
  | _ => False
def zlast (L : zL) (S : zS) (w : zW) (cu su : Nat) (N : zK) : Prop := match S with
  | .long x :: .int i :: .ref a :: S' => match w[a]? with
    | some (.inl (t', n, .inr (.inl f))) => match Nat.beq t' 1 with
      | true => vp_in i n ∧ N L S' (w.set a (.inl (1, n, .inr (.inl (vp_updL f i.toNatClampNeg x))))) cu su
      | false => False
    | _ => False
  | _ => False
def zalen (T : zT) (L : zL) (S : zS) (w : zW) (cu su : Nat) (N : zK) : Prop := match S with
  | .ref a :: S' => match Nat.ble 1000 a with
    | true => match zlk a T.sc with
      | some (_, n, _) => N L (.int (nI n) :: S') w cu su
      | none => False
    | false => match w[a]? with
      | some (.inl (t', n, _)) => match Nat.blt t' 3 with
        | true => N L (.int (nI n) :: S') w cu su
        | false => False
      | _ => False
  | _ => False
def znew (T : zT) (k pc : Nat) (L : zL) (S : zS) (w : zW) (cu su : Nat) (N : zK) : Prop := match zlk pc T.th with
  | some E => match Nat.ble (zcat S) 8 with
    | true => T.exc pc E L w (cu + 1) (su + 6)
    | false => False
  | none => match zlk k T.nw with
    | some (ci, n, fs) => match T.al && Nat.blt w.length 1000 && Nat.ble T.n0 w.length && zbL w.length L && zbS w.length S && zbW w.length w && Nat.ble (cu + 1) T.rc && Nat.ble (su + n) T.rs with
      | true => N L (.ref w.length :: S) (w ++ [.inr (ci, fs)]) (cu + 1) (su + n)
      | false => False
    | none => False
def zload (i : Nat) (L : zL) (S : zS) (w : zW) (cu su : Nat) (N : zK) : Prop := match zlk i L with
  | some (.int x) => N L (.int x :: S) w cu su
  | _ => False
def zaload (i : Nat) (L : zL) (S : zS) (w : zW) (cu su : Nat) (N : zK) : Prop := match zlk i L with
  | some (.ref x) => N L (.ref x :: S) w cu su
  | some .null => N L (.null :: S) w cu su
  | _ => False
def zstore (nL i : Nat) (L : zL) (S : zS) (w : zW) (cu su : Nat) (N : zK) : Prop := match Nat.blt i nL with
  | true => match S with
    | .int x :: S' => N (zset i (.int x) L) S' w cu su
    | _ => False
  | false => False
def zastore (nL i : Nat) (L : zL) (S : zS) (w : zW) (cu su : Nat) (N : zK) : Prop := match Nat.blt i nL with
  | true => match S with
    | .ref x :: S' => N (zset i (.ref x) L) S' w cu su
    | .null :: S' => N (zset i .null L) S' w cu su
    | _ => False
  | false => False
def zbin (f : Int32 → Int32 → Int32) (L : zL) (S : zS) (w : zW) (cu su : Nat) (N : zK) : Prop := match S with
  | .int y :: .int x :: S' => N L (.int (f x y) :: S') w cu su
  | _ => False
def zdiv (f : Int32 → Int32 → Int32) (L : zL) (S : zS) (w : zW) (cu su : Nat) (N : zK) : Prop := match S with
  | .int y :: .int x :: S' => ¬ y = 0 ∧ N L (.int (f x y) :: S') w cu su
  | _ => False
def zun (f : Int32 → Int32) (L : zL) (S : zS) (w : zW) (cu su : Nat) (N : zK) : Prop := match S with
  | .int x :: S' => N L (.int (f x) :: S') w cu su
  | _ => False
def zbr (f : Int32 → Prop) (b : Bool) (S : zS) (J N : zS → Prop) : Prop := match S with
  | .int x :: S' => match b with
    | true => (f x → J S') ∧ (¬ f x → N S')
    | false => (f x → N S') ∧ (¬ f x → J S')
  | _ => False
def zbr2 (f : Int32 → Int32 → Prop) (b : Bool) (S : zS) (J N : zS → Prop) : Prop := match S with
  | .int y :: .int x :: S' => match b with
    | true => (f x y → J S') ∧ (¬ f x y → N S')
    | false => (f x y → N S') ∧ (¬ f x y → J S')
  | _ => False
def zinc (nL i : Nat) (d : Int32) (L : zL) (S : zS) (w : zW) (cu su : Nat) (N : zK) : Prop := match Nat.blt i nL with
  | true => match zlk i L with
    | some (.int x) => N (zset i (.int (x + d)) L) S w cu su
    | _ => False
  | false => False
def zi (T : zT) (nL : Nat) (i : Instr) (pc : Nat) (tg : List Nat) (L : zL) (S : zS) (w : zW) (cu su : Nat) (N : zK) (J : Nat → zK) : Prop := match i with
  | .iconst _ => N L (.int (zkon tg) :: S) w cu su
  | .bipush _ => N L (.int (zkon tg) :: S) w cu su
  | .sipush _ => N L (.int (zkon tg) :: S) w cu su
  | .lconst k => N L (.long (Int64.ofNat k.val) :: S) w cu su
  | .ldc k => match zlk k T.kc with
    | some v => N L (.int v :: S) w cu su
    | none => False
  | .aconst_null => N L (.null :: S) w cu su
  | .iload_n k => zload k.val L S w cu su N
  | .iload k => zload k L S w cu su N
  | .aload_n k => zaload k.val L S w cu su N
  | .aload k => zaload k L S w cu su N
  | .istore_n k => zstore nL k.val L S w cu su N
  | .istore k => zstore nL k L S w cu su N
  | .astore_n k => zastore nL k.val L S w cu su N
  | .astore k => zastore nL k L S w cu su N
  | .iinc k _ => zinc nL k (zkon tg) L S w cu su N
  | .iadd => zbin (fun x y => x + y) L S w cu su N
  | .isub => zbin (fun x y => x - y) L S w cu su N
  | .imul => zbin (fun x y => x * y) L S w cu su N
  | .iand => zbin (fun x y => x &&& y) L S w cu su N
  | .ior => zbin (fun x y => x ||| y) L S w cu su N
  | .ishl => zbin (fun x y => x <<< (y &&& 31)) L S w cu su N
  | .ishr => zbin (fun x y => x >>> (y &&& 31)) L S w cu su N
  | .iushr => zbin (fun x y => (x.toUInt32 >>> (y.toUInt32 &&& Int32.toUInt32 31)).toInt32) L S w cu su N
  | .idiv => zdiv (fun x y => x / y) L S w cu su N
  | .irem => zdiv (fun x y => x - x / y * y) L S w cu su N
  | .ineg => zun (fun x => -x) L S w cu su N
  | .i2b => zun (fun x => x.toInt8.toInt32) L S w cu su N
  | .i2c => zun (fun x => (x.toUInt32 % 65536).toInt32) L S w cu su N
  | .i2l => match S with
    | .int x :: S' => N L (.long x.toInt64 :: S') w cu su
    | _ => False
  | .dup => match S with
    | v :: S' => match Nat.beq v.category 1 with
      | true => N L (v :: v :: S') w cu su
      | false => False
    | _ => False
  | .dup_x1 => match S with
    | a :: b :: S' => match Nat.beq a.category 1 && Nat.beq b.category 1 with
      | true => N L (a :: b :: a :: S') w cu su
      | false => False
    | _ => False
  | .dup2 => match S with
    | a :: b :: S' => match Nat.beq a.category 1 && Nat.beq b.category 1 with
      | true => N L (a :: b :: a :: b :: S') w cu su
      | false => False
    | _ => False
  | .pop => match S with
    | v :: S' => match Nat.beq v.category 1 with
      | true => N L S' w cu su
      | false => False
    | _ => False
  | .ifCond .eq _ => match tg with
    | [t] => zbr (fun x => x = 0) true S (fun S' => J t L S' w cu su) (fun S' => N L S' w cu su)
    | _ => False
  | .ifCond .ne _ => match tg with
    | [t] => zbr (fun x => x = 0) false S (fun S' => J t L S' w cu su) (fun S' => N L S' w cu su)
    | _ => False
  | .ifCond .lt _ => match tg with
    | [t] => zbr (fun x => x < 0) true S (fun S' => J t L S' w cu su) (fun S' => N L S' w cu su)
    | _ => False
  | .ifCond .ge _ => match tg with
    | [t] => zbr (fun x => x < 0) false S (fun S' => J t L S' w cu su) (fun S' => N L S' w cu su)
    | _ => False
  | .ifCond .le _ => match tg with
    | [t] => zbr (fun x => 0 < x) false S (fun S' => J t L S' w cu su) (fun S' => N L S' w cu su)
    | _ => False
  | .ifCond .gt _ => match tg with
    | [t] => zbr (fun x => 0 < x) true S (fun S' => J t L S' w cu su) (fun S' => N L S' w cu su)
    | _ => False
  | .if_icmp .eq _ => match tg with
    | [t] => zbr2 (fun x y => x = y) true S (fun S' => J t L S' w cu su) (fun S' => N L S' w cu su)
    | _ => False
  | .if_icmp .ne _ => match tg with
    | [t] => zbr2 (fun x y => x = y) false S (fun S' => J t L S' w cu su) (fun S' => N L S' w cu su)
    | _ => False
  | .if_icmp .lt _ => match tg with
    | [t] => zbr2 (fun x y => x < y) true S (fun S' => J t L S' w cu su) (fun S' => N L S' w cu su)
    | _ => False
  | .if_icmp .ge _ => match tg with
    | [t] => zbr2 (fun x y => x < y) false S (fun S' => J t L S' w cu su) (fun S' => N L S' w cu su)
    | _ => False
  | .if_icmp .gt _ => match tg with
    | [t] => zbr2 (fun x y => y < x) true S (fun S' => J t L S' w cu su) (fun S' => N L S' w cu su)
    | _ => False
  | .if_icmp .le _ => match tg with
    | [t] => zbr2 (fun x y => y < x) false S (fun S' => J t L S' w cu su) (fun S' => N L S' w cu su)
    | _ => False
  | .goto _ => match tg with
    | [t] => J t L S w cu su
    | _ => False
  | .tableswitch _ lo _ _ => match tg with
    | d :: ts => match S with
      | .int x :: S' => zsw x (fun t => J t L S' w cu su) (J d L S' w cu su) lo.toNat ts
      | _ => False
    | _ => False
  | .lookupswitch _ ps => match tg with
    | d :: ts => match S with
      | .int x :: S' => zlsw x (fun t => J t L S' w cu su) (J d L S' w cu su) (ps.toList.map (fun q => q.1.toNat)) ts
      | _ => False
    | _ => False
  | .lcmp => match S with
    | .long y :: .long x :: S' => ((x = y → N L (.int 0 :: S') w cu su) ∧ (¬ x = y → ∀ z : Int32, ¬ z = 0 → N L (.int z :: S') w cu su))
    | _ => False
  | .getfield k => zgetf T k L S w cu su N
  | .putfield k => zputf T k L S w cu su N
  | .getstatic k => match zlk k T.st with
    | some v => N L (v :: S) w cu su
    | none => False
  | .iaload => zald 0 T L S w cu su N
  | .baload => zald 2 T L S w cu su N
  | .iastore => zast 0 (fun x => x) L S w cu su N
  | .bastore => zast 2 (vp_nar .byte) L S w cu su N
  | .arraylength => zalen T L S w cu su N
  | .newarray .int => znewa T 0 (fun n => (n, .inl (fun _ => 0))) L S w cu su N
  | .newarray .byte => znewa T 2 (fun n => (n, .inl (fun _ => 0))) L S w cu su N
  | .new k => znew T k pc L S w cu su N
  | .invokevirtual k => zinv 0 T k pc L S w cu su N
  | .invokestatic k => zinv 1 T k pc L S w cu su N
  | .invokespecial k => zinv 2 T k pc L S w cu su N
  | .ireturn => match S with
    | [.int x] => T.ret (some (.int x)) w cu su
    | _ => False
  | .areturn => match S with
    | [.ref x] => T.ret (some (.ref x)) w cu su
    | _ => False
  | .return_ => match S with
    | [] => T.ret none w cu su
    | _ => False
  | _ => False
abbrev zE : Type := Nat × Instr × Nat × List Nat
def zfind (t : Nat) : List zE → List zE
  | [] => []
  | q :: r => match Nat.beq q.1 t with
    | true => q :: r
    | false => zfind t r
/-- the run of a program from the rows r on, up to a place of cut, a return, a throw -/
def zwp (T : zT) (nL : Nat) (P : List zE) (cut : List (Nat × zK)) : Nat → List zE → zK
  | 0, _, _, _, _, _, _ => False
  | _ + 1, [], _, _, _, _, _ => False
  | n + 1, q :: r, L, S, w, cu, su => zi T nL q.2.1 q.1 q.2.2.2 L S w cu su
      (fun L' S' w' cu' su' => match r with
        | [] => False
        | q' :: _ => match Nat.beq q'.1 (q.1 + q.2.2.1) with
          | true => match zlk q'.1 cut with
            | some I => I L' S' w' cu' su'
            | none => zwp T nL P cut n r L' S' w' cu' su'
          | false => False)
      (fun t L' S' w' cu' su' => match zlk t cut with
        | some I => I L' S' w' cu' su'
        | none => zwp T nL P cut n (zfind t P) L' S' w' cu' su')
end
section
/-! ===== the abstract machine is sound ===== -/
/-- a private method that a StringBuilder has from above: what a call by its name selects -/
def zXs : Cond := .selects RJ4 yJ5_ensureCapacityInternal_d00df yJ5_ensureCapacityInternal_d00df
def zTs : List Cond := (zXs :: lw_tbl).filter goodWord
theorem zXs_mem : zXs ∈ zTs := List.mem_filter.mpr ⟨List.mem_cons_self, by decide +kernel⟩
theorem zmem {i : Nat} {w : Cond} (h : lw_tbl[i]? = some w) (g : goodWord w = true) : w ∈ zTs := List.mem_filter.mpr ⟨List.mem_cons_of_mem _ (List.mem_of_getElem? h), g⟩
def ztys (cA : Nat → ClassId) : List (ClassId × FieldType) := [(cA 0, .int), (cA 1, .int), (cA 2, .byte)]
def zFld (own : String) (q : Nat × Nat × Nat) : Prop := ∃ C : vw_C, zCl[q.2.1]? = some C ∧ q.2.2 < C.2.2 ∧ Cond.fieldLink own q.1 (C.2.1 q.2.2).1 (C.2.1 q.2.2).2.1 (C.2.1 q.2.2).2.2.1 ∈ zTs
def zCls (ci : Nat) (C : vw_C) : Prop := (∀ w ∈ u_ws C.1 C.2.1 C.2.2, w ∈ zTs) ∧ (∀ k, k < C.2.2 → parseFieldDescriptor (C.2.1 k).2.2.1 = some (zTy ci k)) ∧ (∀ a, a < C.2.2 → ∀ b, b < C.2.2 → a ≠ b → (C.2.1 a).2.1 ≠ (C.2.1 b).2.1)
def zNew (own : String) (q : Nat × Nat × Nat × List Value) : Prop := ∃ C : vw_C, zCl[q.2.1]? = some C ∧ C.2.2 = q.2.2.1 ∧ (∀ j, j < C.2.2 → defaultValue (zTy q.2.1 j) = vp_V q.2.2.2 j) ∧ zbS 0 q.2.2.2 = true ∧ q.2.2.2.map (zcv (fun _ => 0)) = q.2.2.2 ∧ Cond.classLink own q.1 C.1 ∈ zTs ∧ Cond.instantiable C.1 C.2.2 ∈ zTs ∧ Cond.initialized C.1 ∈ zTs
def zStc (Γ : zX) (own : String) (q : Nat × Value) : Prop := zbV 0 q.2 = true ∧ ∃ C n d : String, va_Z C n d (zcv Γ.ad q.2) Γ.A Γ.s Γ.s.heap ∧ (Cond.fieldLink own q.1 C n d).before Γ.args Γ.s = true
def zScr (Γ : zX) (q : Nat × Nat × Nat × (Nat → Int32)) : Prop := 1000 ≤ q.1 ∧ ∃ ty : FieldType, (ztys (fun _ => 0))[q.2.1]? = some (0, ty) ∧ va_T ty (Γ.ad q.1) q.2.2.1 (fun j => .int (q.2.2.2 j)) Γ.A Γ.s Γ.s.heap
def zinstr (kd k : Nat) : Instr := match kd with
  | 0 => .invokevirtual k
  | 1 => .invokestatic k
  | _ => .invokespecial k
def zCallOK (Γ : zX) (T : zT) (q : Nat × zCall) : Prop := ∀ (pc : Nat) (L : zL) (S as S' : zS) (w : zW) (cu su : Nat) (QN : Option Value → zW → Prop), q.2.1 < 3 → decode Γ.cc pc = .ok (zinstr q.2.1 q.1, 3) → zpop q.2.2.1 S [] = some (as, S') → zrcv q.2.2.2.1 as w = true → zcat S' ≤ 8 → cu + q.2.2.2.2.1 ≤ T.rc → su + q.2.2.2.2.2.1 ≤ T.rs →
  (q.2.2.2.2.2.2.1 = true → T.al = true ∧ T.n0 ≤ w.length ∧ zbL w.length L = true ∧ zbS w.length S' = true) →
  (∀ r w', QN r w' → zSm Γ (pc + 3) L (zpush r S') w' (cu + q.2.2.2.2.1) (su + q.2.2.2.2.2.1)) →
  q.2.2.2.2.2.2.2 as w QN (fun E w' => T.exc pc E L w' (cu + q.2.2.2.2.1) (su + q.2.2.2.2.2.1)) → zSm Γ pc L S w cu su
def zThOK (Γ : zX) (T : zT) (q : Nat × String) : Prop := ∀ (L : zL) (S : zS) (w : zW) (cu su : Nat), T.exc q.1 q.2 L w (cu + 1) (su + 6) → zcat S ≤ 8 → zSm Γ q.1 L S w cu su
def zRetOK (Γ : zX) (T : zT) : Prop := ∀ (v : Option Value) (pc : Nat) (i : Instr) (L : zL) (w : zW) (cu su : Nat), decode Γ.cc pc = .ok (i, 1) → (match v with | none => i = .return_ | some (.int _) => i = .ireturn | some (.ref _) => i = .areturn | _ => False) → T.ret v w cu su → zSm Γ pc L v.toList w cu su
def zOK (Γ : zX) (T : zT) (own : String) : Prop :=
  Γ.p.tables.exec = Jvm.exec ∧ Γ.c.code = Γ.cc ∧ Γ.s.vm.findClass own = some Γ.m.cls ∧ (∀ w ∈ zTs, w.before Γ.args Γ.s = true) ∧ va_K Γ.G zCl (ztys Γ.cA) Γ.s ∧ (∀ q, Γ.s.heap.size ≤ q → Γ.A q) ∧ T.al = Γ.al ∧ T.n0 = Γ.n0 ∧ T.rc ≤ Γ.R.cells ∧ T.rs ≤ Γ.R.slots ∧
  (∀ q ∈ T.fl, zFld own q) ∧ (T.ini = true → Γ.meth.name = "<init>" ∧ ∀ q ∈ T.fl, ∀ C, zCl[q.2.1]? = some C → (C.2.1 q.2.2).1 = own) ∧ (∀ q ∈ T.cs, zCallOK Γ T q) ∧ (∀ q ∈ T.nw, zNew own q) ∧ (∀ q ∈ T.th, zThOK Γ T q) ∧ (∀ q ∈ T.st, zStc Γ own q) ∧ (∀ q ∈ T.kc, (Cond.constant own q.1 q.2).before Γ.args Γ.s = true) ∧ (∀ q ∈ T.sc, zScr Γ q) ∧ zRetOK Γ T
section ZS
variable {Γ : zX} {T : zT} {own : String} {pc : Nat} {L : zL} {S : zS} {w : zW} {cu su : Nat}
theorem zs_iconst (C : zOK Γ T own) {n : Int} {v : Int32} (hd : decode Γ.cc pc = .ok (.iconst n, 1)) (hv : Int32.ofInt n = v) (k : zSm Γ (pc + 1) L (.int v :: S) w cu su) : zSm Γ pc L S w cu su :=
  fun ad H locs ls hP hD hS hl ha => lv_iconst C.1 C.2.1 hd hv (k ad H locs ls hP hD hS hl ha)
theorem zs_bipush (C : zOK Γ T own) {n : Int} {v : Int32} (hd : decode Γ.cc pc = .ok (.bipush n, 2)) (hv : (Int8.ofInt n).toInt32 = v) (k : zSm Γ (pc + 2) L (.int v :: S) w cu su) : zSm Γ pc L S w cu su :=
  fun ad H locs ls hP hD hS hl ha => lv_bipush C.1 C.2.1 hd hv (k ad H locs ls hP hD hS hl ha)
theorem zs_sipush (C : zOK Γ T own) {n : Int} {v : Int32} (hd : decode Γ.cc pc = .ok (.sipush n, 3)) (hv : (Int16.ofInt n).toInt32 = v) (k : zSm Γ (pc + 3) L (.int v :: S) w cu su) : zSm Γ pc L S w cu su :=
  fun ad H locs ls hP hD hS hl ha => lv_sipush C.1 C.2.1 hd hv (k ad H locs ls hP hD hS hl ha)
theorem zs_lconst (C : zOK Γ T own) {n : Fin 2} (hd : decode Γ.cc pc = .ok (.lconst n, 1)) (k : zSm Γ (pc + 1) L (.long (Int64.ofNat n.val) :: S) w cu su) : zSm Γ pc L S w cu su :=
  fun ad H locs ls hP hD hS hl ha => lv_lconst C.1 C.2.1 hd rfl (k ad H locs ls hP hD hS hl ha)
theorem zs_ldc (C : zOK Γ T own) {i : Nat} {v : Int32} (hd : decode Γ.cc pc = .ok (.ldc i, 2)) (hv : zlk i T.kc = some v) (k : zSm Γ (pc + 2) L (.int v :: S) w cu su) : zSm Γ pc L S w cu su :=
  fun ad H locs ls hP hD hS hl ha => lv_ldc C.1 C.2.1 C.2.2.1 (C.2.2.2.2.2.2.2.2.2.2.2.2.2.2.2.2.1 _ (zlk_mem hv)) hd (k ad H locs ls hP hD hS hl ha)
theorem zs_null (C : zOK Γ T own) (hd : decode Γ.cc pc = .ok (.aconst_null, 1)) (k : zSm Γ (pc + 1) L (.null :: S) w cu su) : zSm Γ pc L S w cu su :=
  fun ad H locs ls hP hD hS hl ha => lv_null C.1 C.2.1 hd (k ad H locs ls hP hD hS hl ha)
theorem zs_iload_n (C : zOK Γ T own) {i : Fin 4} {x : Int32} (hd : decode Γ.cc pc = .ok (.iload_n i, 1)) (hv : zlk i.val L = some (.int x)) (k : zSm Γ (pc + 1) L (.int x :: S) w cu su) : zSm Γ pc L S w cu su :=
  fun ad H locs ls hP hD hS hl ha => lv_iload_n C.1 C.2.1 hd rfl (zlk_at hl hv) (k ad H locs ls hP hD hS hl ha)
theorem zs_iload (C : zOK Γ T own) {i : Nat} {x : Int32} (hd : decode Γ.cc pc = .ok (.iload i, 2)) (hv : zlk i L = some (.int x)) (k : zSm Γ (pc + 2) L (.int x :: S) w cu su) : zSm Γ pc L S w cu su :=
  fun ad H locs ls hP hD hS hl ha => lv_iload C.1 C.2.1 hd (zlk_at hl hv) (k ad H locs ls hP hD hS hl ha)
theorem zs_aload_n (C : zOK Γ T own) {i : Fin 4} {x : Nat} (hd : decode Γ.cc pc = .ok (.aload_n i, 1)) (hv : zlk i.val L = some (.ref x)) (k : zSm Γ (pc + 1) L (.ref x :: S) w cu su) : zSm Γ pc L S w cu su :=
  fun ad H locs ls hP hD hS hl ha => lv_aload_n C.1 C.2.1 hd rfl (zlk_at hl hv) (k ad H locs ls hP hD hS hl ha)
theorem zs_aload (C : zOK Γ T own) {i : Nat} {x : Nat} (hd : decode Γ.cc pc = .ok (.aload i, 2)) (hv : zlk i L = some (.ref x)) (k : zSm Γ (pc + 2) L (.ref x :: S) w cu su) : zSm Γ pc L S w cu su :=
  fun ad H locs ls hP hD hS hl ha => lv_aload C.1 C.2.1 hd (zlk_at hl hv) (k ad H locs ls hP hD hS hl ha)
theorem zs_aload_nN (C : zOK Γ T own) {i : Fin 4} (hd : decode Γ.cc pc = .ok (.aload_n i, 1)) (hv : zlk i.val L = some .null) (k : zSm Γ (pc + 1) L (.null :: S) w cu su) : zSm Γ pc L S w cu su :=
  fun ad H locs ls hP hD hS hl ha => lv_aload_nN C.1 C.2.1 hd rfl (zlk_at hl hv) (k ad H locs ls hP hD hS hl ha)
theorem zs_aloadN (C : zOK Γ T own) {i : Nat} (hd : decode Γ.cc pc = .ok (.aload i, 2)) (hv : zlk i L = some .null) (k : zSm Γ (pc + 2) L (.null :: S) w cu su) : zSm Γ pc L S w cu su :=
  fun ad H locs ls hP hD hS hl ha => lv_aloadN C.1 C.2.1 hd (zlk_at hl hv) (k ad H locs ls hP hD hS hl ha)
theorem zs_istore_n (C : zOK Γ T own) {i : Fin 4} {x : Int32} (hd : decode Γ.cc pc = .ok (.istore_n i, 1)) (hn : i.val < Γ.nL) (k : zSm Γ (pc + 1) (zset i.val (.int x) L) S w cu su) : zSm Γ pc L (.int x :: S) w cu su :=
  fun ad H locs ls hP hD hS hl ha => lv_istore_n C.1 C.2.1 hd rfl hl hn rfl (fun ls' hl' => k ad H locs ls' hP hD hS (zset_has (v := .int x) hl') ha)
theorem zs_istore (C : zOK Γ T own) {i : Nat} {x : Int32} (hd : decode Γ.cc pc = .ok (.istore i, 2)) (hn : i < Γ.nL) (k : zSm Γ (pc + 2) (zset i (.int x) L) S w cu su) : zSm Γ pc L (.int x :: S) w cu su :=
  fun ad H locs ls hP hD hS hl ha => lv_istore C.1 C.2.1 hd hl hn rfl (fun ls' hl' => k ad H locs ls' hP hD hS (zset_has (v := .int x) hl') ha)
theorem zs_astore_n (C : zOK Γ T own) {i : Fin 4} {x : Nat} (hd : decode Γ.cc pc = .ok (.astore_n i, 1)) (hn : i.val < Γ.nL) (k : zSm Γ (pc + 1) (zset i.val (.ref x) L) S w cu su) : zSm Γ pc L (.ref x :: S) w cu su :=
  fun ad H locs ls hP hD hS hl ha => lv_astore_n C.1 C.2.1 hd rfl hl hn rfl (fun ls' hl' => k ad H locs ls' hP hD hS (zset_has (v := .ref x) hl') ha)
theorem zs_astore (C : zOK Γ T own) {i : Nat} {x : Nat} (hd : decode Γ.cc pc = .ok (.astore i, 2)) (hn : i < Γ.nL) (k : zSm Γ (pc + 2) (zset i (.ref x) L) S w cu su) : zSm Γ pc L (.ref x :: S) w cu su :=
  fun ad H locs ls hP hD hS hl ha => lv_astore C.1 C.2.1 hd hl hn rfl (fun ls' hl' => k ad H locs ls' hP hD hS (zset_has (v := .ref x) hl') ha)
theorem zs_astore_nN (C : zOK Γ T own) {i : Fin 4} (hd : decode Γ.cc pc = .ok (.astore_n i, 1)) (hn : i.val < Γ.nL) (k : zSm Γ (pc + 1) (zset i.val .null L) S w cu su) : zSm Γ pc L (.null :: S) w cu su :=
  fun ad H locs ls hP hD hS hl ha => lv_astore_nN C.1 C.2.1 hd rfl hl hn rfl (fun ls' hl' => k ad H locs ls' hP hD hS (zset_has (v := .null) hl') ha)
theorem zs_astoreN (C : zOK Γ T own) {i : Nat} (hd : decode Γ.cc pc = .ok (.astore i, 2)) (hn : i < Γ.nL) (k : zSm Γ (pc + 2) (zset i .null L) S w cu su) : zSm Γ pc L (.null :: S) w cu su :=
  fun ad H locs ls hP hD hS hl ha => lv_astoreN C.1 C.2.1 hd hl hn rfl (fun ls' hl' => k ad H locs ls' hP hD hS (zset_has (v := .null) hl') ha)
theorem zs_iinc (C : zOK Γ T own) {i : Nat} {n : Int} {x d : Int32} (hd : decode Γ.cc pc = .ok (.iinc i n, 3)) (hn : i < Γ.nL) (hv : zlk i L = some (.int x)) (he : Int32.ofInt n = d) (k : zSm Γ (pc + 3) (zset i (.int (x + d)) L) S w cu su) : zSm Γ pc L S w cu su := by
  intro ad H locs ls hP hD hS hl ha
  obtain ⟨j, hj⟩ := List.getElem?_of_mem (List.mem_map.mpr ⟨(i, Value.int x), zlk_mem hv, rfl⟩ : (i, zcv ad (.int x)) ∈ zcl ad L)
  exact lv_iinc C.1 C.2.1 hd hl (k := j) hj (v := x + d) (by rw [he]) hn rfl (fun ls' hl' => k ad H locs ls' hP hD hS (zset_has (v := .int (x + d)) hl') ha)
theorem zs_iadd (C : zOK Γ T own) {x y : Int32} (hd : decode Γ.cc pc = .ok (.iadd, 1)) (k : zSm Γ (pc + 1) L (.int (x + y) :: S) w cu su) : zSm Γ pc L (.int y :: .int x :: S) w cu su :=
  fun ad H locs ls hP hD hS hl ha => lv_iadd C.1 C.2.1 hd (k ad H locs ls hP hD hS hl ha)
theorem zs_isub (C : zOK Γ T own) {x y : Int32} (hd : decode Γ.cc pc = .ok (.isub, 1)) (k : zSm Γ (pc + 1) L (.int (x - y) :: S) w cu su) : zSm Γ pc L (.int y :: .int x :: S) w cu su :=
  fun ad H locs ls hP hD hS hl ha => lv_isub C.1 C.2.1 hd (k ad H locs ls hP hD hS hl ha)
theorem zs_imul (C : zOK Γ T own) {x y : Int32} (hd : decode Γ.cc pc = .ok (.imul, 1)) (k : zSm Γ (pc + 1) L (.int (x * y) :: S) w cu su) : zSm Γ pc L (.int y :: .int x :: S) w cu su :=
  fun ad H locs ls hP hD hS hl ha => lv_imul C.1 C.2.1 hd (k ad H locs ls hP hD hS hl ha)
theorem zs_iand (C : zOK Γ T own) {x y : Int32} (hd : decode Γ.cc pc = .ok (.iand, 1)) (k : zSm Γ (pc + 1) L (.int (x &&& y) :: S) w cu su) : zSm Γ pc L (.int y :: .int x :: S) w cu su :=
  fun ad H locs ls hP hD hS hl ha => lv_iand C.1 C.2.1 hd (k ad H locs ls hP hD hS hl ha)
theorem zs_ior (C : zOK Γ T own) {x y : Int32} (hd : decode Γ.cc pc = .ok (.ior, 1)) (k : zSm Γ (pc + 1) L (.int (x ||| y) :: S) w cu su) : zSm Γ pc L (.int y :: .int x :: S) w cu su :=
  fun ad H locs ls hP hD hS hl ha => lv_ior C.1 C.2.1 hd (k ad H locs ls hP hD hS hl ha)
theorem zs_ishl (C : zOK Γ T own) {x y : Int32} (hd : decode Γ.cc pc = .ok (.ishl, 1)) (k : zSm Γ (pc + 1) L (.int (x <<< (y &&& 31)) :: S) w cu su) : zSm Γ pc L (.int y :: .int x :: S) w cu su :=
  fun ad H locs ls hP hD hS hl ha => lv_ishl C.1 C.2.1 hd (k ad H locs ls hP hD hS hl ha)
theorem zs_ishr (C : zOK Γ T own) {x y : Int32} (hd : decode Γ.cc pc = .ok (.ishr, 1)) (k : zSm Γ (pc + 1) L (.int (x >>> (y &&& 31)) :: S) w cu su) : zSm Γ pc L (.int y :: .int x :: S) w cu su :=
  fun ad H locs ls hP hD hS hl ha => lv_ishr C.1 C.2.1 hd (k ad H locs ls hP hD hS hl ha)
theorem zs_iushr (C : zOK Γ T own) {x y : Int32} (hd : decode Γ.cc pc = .ok (.iushr, 1)) (k : zSm Γ (pc + 1) L (.int ((x.toUInt32 >>> (y.toUInt32 &&& Int32.toUInt32 31)).toInt32) :: S) w cu su) : zSm Γ pc L (.int y :: .int x :: S) w cu su :=
  fun ad H locs ls hP hD hS hl ha => lv_iushr C.1 C.2.1 hd rfl (k ad H locs ls hP hD hS hl ha)
theorem zs_idiv (C : zOK Γ T own) {x y : Int32} (hd : decode Γ.cc pc = .ok (.idiv, 1)) (hne : ¬ y = 0) (k : zSm Γ (pc + 1) L (.int (x / y) :: S) w cu su) : zSm Γ pc L (.int y :: .int x :: S) w cu su :=
  fun ad H locs ls hP hD hS hl ha => lv_idiv C.1 C.2.1 hd hne (k ad H locs ls hP hD hS hl ha)
theorem zs_irem (C : zOK Γ T own) {x y : Int32} (hd : decode Γ.cc pc = .ok (.irem, 1)) (hne : ¬ y = 0) (k : zSm Γ (pc + 1) L (.int (x - x / y * y) :: S) w cu su) : zSm Γ pc L (.int y :: .int x :: S) w cu su :=
  fun ad H locs ls hP hD hS hl ha => lv_irem C.1 C.2.1 hd hne (k ad H locs ls hP hD hS hl ha)
theorem zs_ineg (C : zOK Γ T own) {x : Int32} (hd : decode Γ.cc pc = .ok (.ineg, 1)) (k : zSm Γ (pc + 1) L (.int (-x) :: S) w cu su) : zSm Γ pc L (.int x :: S) w cu su :=
  fun ad H locs ls hP hD hS hl ha => lv_ineg C.1 C.2.1 hd (k ad H locs ls hP hD hS hl ha)
theorem zs_i2b (C : zOK Γ T own) {x : Int32} (hd : decode Γ.cc pc = .ok (.i2b, 1)) (k : zSm Γ (pc + 1) L (.int x.toInt8.toInt32 :: S) w cu su) : zSm Γ pc L (.int x :: S) w cu su :=
  fun ad H locs ls hP hD hS hl ha => lv_i2b C.1 C.2.1 hd rfl (k ad H locs ls hP hD hS hl ha)
theorem zs_i2c (C : zOK Γ T own) {x : Int32} (hd : decode Γ.cc pc = .ok (.i2c, 1)) (k : zSm Γ (pc + 1) L (.int (x.toUInt32 % 65536).toInt32 :: S) w cu su) : zSm Γ pc L (.int x :: S) w cu su :=
  fun ad H locs ls hP hD hS hl ha => lv_i2c C.1 C.2.1 hd rfl (k ad H locs ls hP hD hS hl ha)
theorem zs_i2l (C : zOK Γ T own) {x : Int32} (hd : decode Γ.cc pc = .ok (.i2l, 1)) (k : zSm Γ (pc + 1) L (.long x.toInt64 :: S) w cu su) : zSm Γ pc L (.int x :: S) w cu su :=
  fun ad H locs ls hP hD hS hl ha => lv_i2l C.1 C.2.1 hd rfl (k ad H locs ls hP hD hS hl ha)
theorem zs_dup (C : zOK Γ T own) {v : Value} (hd : decode Γ.cc pc = .ok (.dup, 1)) (hv : v.category = 1) (k : zSm Γ (pc + 1) L (v :: v :: S) w cu su) : zSm Γ pc L (v :: S) w cu su :=
  fun ad H locs ls hP hD hS hl ha => lv_dup C.1 C.2.1 hd ((zcv_cat ad v).trans hv) (k ad H locs ls hP hD hS hl ha)
theorem zs_pop (C : zOK Γ T own) {v : Value} (hd : decode Γ.cc pc = .ok (.pop, 1)) (hv : v.category = 1) (k : zSm Γ (pc + 1) L S w cu su) : zSm Γ pc L (v :: S) w cu su :=
  fun ad H locs ls hP hD hS hl ha => lv_pop C.1 C.2.1 hd ((zcv_cat ad v).trans hv) (k ad H locs ls hP hD hS hl ha)
theorem zs_dup_x1 (C : zOK Γ T own) {a b : Value} (hd : decode Γ.cc pc = .ok (.dup_x1, 1)) (hv : a.category = 1) (hv2 : b.category = 1) (k : zSm Γ (pc + 1) L (a :: b :: a :: S) w cu su) : zSm Γ pc L (a :: b :: S) w cu su :=
  fun ad H locs ls hP hD hS hl ha => lv_dup_x1 C.1 C.2.1 hd ((zcv_cat ad a).trans hv) ((zcv_cat ad b).trans hv2) (k ad H locs ls hP hD hS hl ha)
theorem zs_dup2 (C : zOK Γ T own) {a b : Value} (hd : decode Γ.cc pc = .ok (.dup2, 1)) (hv : a.category = 1) (hv2 : b.category = 1) (k : zSm Γ (pc + 1) L (a :: b :: a :: b :: S) w cu su) : zSm Γ pc L (a :: b :: S) w cu su :=
  fun ad H locs ls hP hD hS hl ha => lv_dup2_11 C.1 C.2.1 hd ((zcv_cat ad a).trans hv) ((zcv_cat ad b).trans hv2) (k ad H locs ls hP hD hS hl ha)
theorem zs_goto (C : zOK Γ T own) {off : Int} {t : Nat} (hd : decode Γ.cc pc = .ok (.goto off, 3)) (ht : (pc : Int) + off = (t : Int)) (k : zSm Γ t L S w cu su) : zSm Γ pc L S w cu su :=
  fun ad H locs ls hP hD hS hl ha => lv_goto C.1 C.2.1 hd ht (k ad H locs ls hP hD hS hl ha)
theorem zs_if_eq (C : zOK Γ T own) {x : Int32} {off : Int} {t : Nat} (hd : decode Γ.cc pc = .ok (.ifCond .eq off, 3)) (ht : (pc : Int) + off = (t : Int)) (k1 : x = 0 → zSm Γ t L S w cu su) (k2 : ¬ x = 0 → zSm Γ (pc + 3) L S w cu su) : zSm Γ pc L (.int x :: S) w cu su :=
  fun ad H locs ls hP hD hS hl ha => lv_if_eq C.1 C.2.1 hd ht (fun h => k1 h ad H locs ls hP hD hS hl ha) (fun h => k2 h ad H locs ls hP hD hS hl ha)
theorem zs_if_ne (C : zOK Γ T own) {x : Int32} {off : Int} {t : Nat} (hd : decode Γ.cc pc = .ok (.ifCond .ne off, 3)) (ht : (pc : Int) + off = (t : Int)) (k1 : ¬ x = 0 → zSm Γ t L S w cu su) (k2 : x = 0 → zSm Γ (pc + 3) L S w cu su) : zSm Γ pc L (.int x :: S) w cu su :=
  fun ad H locs ls hP hD hS hl ha => lv_if_ne C.1 C.2.1 hd ht (fun h => k1 h ad H locs ls hP hD hS hl ha) (fun h => k2 h ad H locs ls hP hD hS hl ha)
theorem zs_if_lt (C : zOK Γ T own) {x : Int32} {off : Int} {t : Nat} (hd : decode Γ.cc pc = .ok (.ifCond .lt off, 3)) (ht : (pc : Int) + off = (t : Int)) (k1 : x < 0 → zSm Γ t L S w cu su) (k2 : ¬ x < 0 → zSm Γ (pc + 3) L S w cu su) : zSm Γ pc L (.int x :: S) w cu su :=
  fun ad H locs ls hP hD hS hl ha => lv_if_lt C.1 C.2.1 hd ht (fun h => k1 h ad H locs ls hP hD hS hl ha) (fun h => k2 h ad H locs ls hP hD hS hl ha)
theorem zle_nlt {x y : Int32} : y ≤ x ↔ ¬ x < y := Int32.not_lt.symm
theorem zs_if_ge (C : zOK Γ T own) {x : Int32} {off : Int} {t : Nat} (hd : decode Γ.cc pc = .ok (.ifCond .ge off, 3)) (ht : (pc : Int) + off = (t : Int)) (k1 : ¬ x < 0 → zSm Γ t L S w cu su) (k2 : x < 0 → zSm Γ (pc + 3) L S w cu su) : zSm Γ pc L (.int x :: S) w cu su :=
  fun ad H locs ls hP hD hS hl ha => lv_if_ge C.1 C.2.1 hd ht (fun h => k1 (zle_nlt.mp h) ad H locs ls hP hD hS hl ha) (fun h => k2 (Classical.byContradiction fun q => h (zle_nlt.mpr q)) ad H locs ls hP hD hS hl ha)
theorem zs_if_le (C : zOK Γ T own) {x : Int32} {off : Int} {t : Nat} (hd : decode Γ.cc pc = .ok (.ifCond .le off, 3)) (ht : (pc : Int) + off = (t : Int)) (k1 : ¬ 0 < x → zSm Γ t L S w cu su) (k2 : 0 < x → zSm Γ (pc + 3) L S w cu su) : zSm Γ pc L (.int x :: S) w cu su :=
  fun ad H locs ls hP hD hS hl ha => lv_if_le C.1 C.2.1 hd ht (fun h => k1 (zle_nlt.mp h) ad H locs ls hP hD hS hl ha) (fun h => k2 (Classical.byContradiction fun q => h (zle_nlt.mpr q)) ad H locs ls hP hD hS hl ha)
theorem zs_if_gt (C : zOK Γ T own) {x : Int32} {off : Int} {t : Nat} (hd : decode Γ.cc pc = .ok (.ifCond .gt off, 3)) (ht : (pc : Int) + off = (t : Int)) (k1 : 0 < x → zSm Γ t L S w cu su) (k2 : ¬ 0 < x → zSm Γ (pc + 3) L S w cu su) : zSm Γ pc L (.int x :: S) w cu su :=
  fun ad H locs ls hP hD hS hl ha => lv_if_gt C.1 C.2.1 hd ht (fun h => k1 h ad H locs ls hP hD hS hl ha) (fun h => k2 h ad H locs ls hP hD hS hl ha)
theorem zs_icmp_eq (C : zOK Γ T own) {x y : Int32} {off : Int} {t : Nat} (hd : decode Γ.cc pc = .ok (.if_icmp .eq off, 3)) (ht : (pc : Int) + off = (t : Int)) (k1 : x = y → zSm Γ t L S w cu su) (k2 : ¬ x = y → zSm Γ (pc + 3) L S w cu su) : zSm Γ pc L (.int y :: .int x :: S) w cu su :=
  fun ad H locs ls hP hD hS hl ha => lv_icmp_eq C.1 C.2.1 hd ht (fun h => k1 h ad H locs ls hP hD hS hl ha) (fun h => k2 h ad H locs ls hP hD hS hl ha)
theorem zs_icmp_ne (C : zOK Γ T own) {x y : Int32} {off : Int} {t : Nat} (hd : decode Γ.cc pc = .ok (.if_icmp .ne off, 3)) (ht : (pc : Int) + off = (t : Int)) (k1 : ¬ x = y → zSm Γ t L S w cu su) (k2 : x = y → zSm Γ (pc + 3) L S w cu su) : zSm Γ pc L (.int y :: .int x :: S) w cu su :=
  fun ad H locs ls hP hD hS hl ha => lv_icmp_ne C.1 C.2.1 hd ht (fun h => k1 h ad H locs ls hP hD hS hl ha) (fun h => k2 h ad H locs ls hP hD hS hl ha)
theorem zs_icmp_lt (C : zOK Γ T own) {x y : Int32} {off : Int} {t : Nat} (hd : decode Γ.cc pc = .ok (.if_icmp .lt off, 3)) (ht : (pc : Int) + off = (t : Int)) (k1 : x < y → zSm Γ t L S w cu su) (k2 : ¬ x < y → zSm Γ (pc + 3) L S w cu su) : zSm Γ pc L (.int y :: .int x :: S) w cu su :=
  fun ad H locs ls hP hD hS hl ha => lv_icmp_lt C.1 C.2.1 hd ht (fun h => k1 h ad H locs ls hP hD hS hl ha) (fun h => k2 h ad H locs ls hP hD hS hl ha)
theorem zs_icmp_ge (C : zOK Γ T own) {x y : Int32} {off : Int} {t : Nat} (hd : decode Γ.cc pc = .ok (.if_icmp .ge off, 3)) (ht : (pc : Int) + off = (t : Int)) (k1 : ¬ x < y → zSm Γ t L S w cu su) (k2 : x < y → zSm Γ (pc + 3) L S w cu su) : zSm Γ pc L (.int y :: .int x :: S) w cu su :=
  fun ad H locs ls hP hD hS hl ha => lv_icmp_ge C.1 C.2.1 hd ht (fun h => k1 (zle_nlt.mp h) ad H locs ls hP hD hS hl ha) (fun h => k2 (Classical.byContradiction fun q => h (zle_nlt.mpr q)) ad H locs ls hP hD hS hl ha)
theorem zs_icmp_gt (C : zOK Γ T own) {x y : Int32} {off : Int} {t : Nat} (hd : decode Γ.cc pc = .ok (.if_icmp .gt off, 3)) (ht : (pc : Int) + off = (t : Int)) (k1 : y < x → zSm Γ t L S w cu su) (k2 : ¬ y < x → zSm Γ (pc + 3) L S w cu su) : zSm Γ pc L (.int y :: .int x :: S) w cu su :=
  fun ad H locs ls hP hD hS hl ha => lv_icmp_gt C.1 C.2.1 hd ht (fun h => k1 h ad H locs ls hP hD hS hl ha) (fun h => k2 h ad H locs ls hP hD hS hl ha)
theorem zs_icmp_le (C : zOK Γ T own) {x y : Int32} {off : Int} {t : Nat} (hd : decode Γ.cc pc = .ok (.if_icmp .le off, 3)) (ht : (pc : Int) + off = (t : Int)) (k1 : ¬ y < x → zSm Γ t L S w cu su) (k2 : y < x → zSm Γ (pc + 3) L S w cu su) : zSm Γ pc L (.int y :: .int x :: S) w cu su :=
  fun ad H locs ls hP hD hS hl ha => lv_icmp_le C.1 C.2.1 hd ht (fun h => k1 (zle_nlt.mp h) ad H locs ls hP hD hS hl ha) (fun h => k2 (Classical.byContradiction fun q => h (zle_nlt.mpr q)) ad H locs ls hP hD hS hl ha)
end ZS
end
section
/-! ===== the abstract machine is sound: the heap, the switches, the whole step ===== -/
def zins : List Nat → List Cond → Bool
  | [], [] => true
  | p :: ps, w :: ws => decide (lw_tbl[p]? = some w) && goodWord w && zins ps ws
  | _, _ => false
theorem zins_in : ∀ {ps : List Nat} {ws : List Cond}, zins ps ws = true → ∀ w ∈ ws, w ∈ zTs
  | [], [], _, _, hw => by cases hw
  | p :: ps, x :: ws, h, w, hw => by
    simp only [zins, Bool.and_eq_true, decide_eq_true_eq] at h
    rcases List.mem_cons.mp hw with e | hw
    · subst e
      exact zmem h.1.1 h.1.2
    · exact zins_in h.2 w hw
  | [], _ :: _, h, _, _ => by cases h
  | _ :: _, [], h, _, _ => by cases h
theorem zc0 : zCls 0 (RJ4, TJ4, 4) := ⟨zins_in (ps := [157, 159, 161, 163]) (by decide +kernel), tyJ4_ok, nmJ4⟩
theorem zc1 : zCls 1 (RX0, TX0, 8) := ⟨zins_in (ps := [62, 64, 66, 68, 70, 72, 74, 76]) (by decide +kernel), tyX0_ok, nmX0⟩
theorem zc2 : zCls 2 (RX1, TX1, 4) := ⟨zins_in (ps := [104, 106, 108, 110]) (by decide +kernel), tyX1_ok, nmX1⟩
theorem zc3 : zCls 3 (RX2, TX2, 2) := ⟨zins_in (ps := [89, 91]) (by decide +kernel), tyX2_ok, nmX2⟩
theorem zc4 : zCls 4 (RX3, TX3, 5) := ⟨zins_in (ps := [124, 126, 128, 130, 132]) (by decide +kernel), tyX3_ok, nmX3⟩
theorem zc5 : zCls 5 (RX4, TX4, 6) := ⟨zins_in (ps := [173, 175, 177, 179, 181, 183]) (by decide +kernel), tyX4_ok, nmX4⟩
theorem zcls {ci : Nat} {C : vw_C} (h : zCl[ci]? = some C) : zCls ci C := by
  match ci, h with
  | 0, h => cases h; exact zc0
  | 1, h => cases h; exact zc1
  | 2, h => cases h; exact zc2
  | 3, h => cases h; exact zc3
  | 4, h => cases h; exact zc4
  | 5, h => cases h; exact zc5
  | n + 6, h => simp [zCl] at h
theorem zOK.hts {Γ : zX} {T : zT} {own : String} (C : zOK Γ T own) : ∀ w ∈ zTs, w.before Γ.args Γ.s = true := C.2.2.2.1
theorem zOK.hown {Γ : zX} {T : zT} {own : String} (C : zOK Γ T own) : Γ.s.vm.findClass own = some Γ.m.cls := C.2.2.1
theorem zOK.hK {Γ : zX} {T : zT} {own : String} (C : zOK Γ T own) : va_K Γ.G zCl (ztys Γ.cA) Γ.s := C.2.2.2.2.1
theorem zOK.hA {Γ : zX} {T : zT} {own : String} (C : zOK Γ T own) : ∀ q, Γ.s.heap.size ≤ q → Γ.A q := C.2.2.2.2.2.1
theorem zOK.al {Γ : zX} {T : zT} {own : String} (C : zOK Γ T own) : T.al = Γ.al := C.2.2.2.2.2.2.1
theorem zOK.n0 {Γ : zX} {T : zT} {own : String} (C : zOK Γ T own) : T.n0 = Γ.n0 := C.2.2.2.2.2.2.2.1
theorem zOK.rc {Γ : zX} {T : zT} {own : String} (C : zOK Γ T own) : T.rc ≤ Γ.R.cells := C.2.2.2.2.2.2.2.2.1
theorem zOK.rs {Γ : zX} {T : zT} {own : String} (C : zOK Γ T own) : T.rs ≤ Γ.R.slots := C.2.2.2.2.2.2.2.2.2.1
theorem zOK.fl {Γ : zX} {T : zT} {own : String} (C : zOK Γ T own) : ∀ q ∈ T.fl, zFld own q := C.2.2.2.2.2.2.2.2.2.2.1
theorem zOK.ini {Γ : zX} {T : zT} {own : String} (C : zOK Γ T own) : T.ini = true → Γ.meth.name = "<init>" ∧ ∀ q ∈ T.fl, ∀ C, zCl[q.2.1]? = some C → (C.2.1 q.2.2).1 = own := C.2.2.2.2.2.2.2.2.2.2.2.1
theorem zOK.cs {Γ : zX} {T : zT} {own : String} (C : zOK Γ T own) : ∀ q ∈ T.cs, zCallOK Γ T q := C.2.2.2.2.2.2.2.2.2.2.2.2.1
theorem zOK.nw {Γ : zX} {T : zT} {own : String} (C : zOK Γ T own) : ∀ q ∈ T.nw, zNew own q := C.2.2.2.2.2.2.2.2.2.2.2.2.2.1
theorem zOK.th {Γ : zX} {T : zT} {own : String} (C : zOK Γ T own) : ∀ q ∈ T.th, zThOK Γ T q := C.2.2.2.2.2.2.2.2.2.2.2.2.2.2.1
theorem zOK.st {Γ : zX} {T : zT} {own : String} (C : zOK Γ T own) : ∀ q ∈ T.st, zStc Γ own q := C.2.2.2.2.2.2.2.2.2.2.2.2.2.2.2.1
theorem zOK.sc {Γ : zX} {T : zT} {own : String} (C : zOK Γ T own) : ∀ q ∈ T.sc, zScr Γ q := C.2.2.2.2.2.2.2.2.2.2.2.2.2.2.2.2.2.1
theorem zOK.ret {Γ : zX} {T : zT} {own : String} (C : zOK Γ T own) : zRetOK Γ T := C.2.2.2.2.2.2.2.2.2.2.2.2.2.2.2.2.2.2
/-- the words that arrays want -/
theorem zarr_i {Γ : zX} {T : zT} {own : String} (C : zOK Γ T own) : (Cond.arrayClass .int).before Γ.args Γ.s = true := C.hts _ (zins_in (ps := [79]) (ws := [.arrayClass .int]) (by decide +kernel) _ List.mem_cons_self)
theorem zarr_b {Γ : zX} {T : zT} {own : String} (C : zOK Γ T own) : (Cond.arrayClass .byte).before Γ.args Γ.s = true := C.hts _ (zins_in (ps := [166]) (ws := [.arrayClass .byte]) (by decide +kernel) _ List.mem_cons_self)
theorem zag_out {Γ : zX} {ad : Nat → Nat} {k : Nat} (h : zag Γ.al Γ.n0 Γ.ad ad) (hk : 1000 ≤ k) : ad k = Γ.ad k := h k (Or.inr (Or.inr hk))
theorem zcv_out {Γ : zX} {ad : Nat → Nat} {v : Value} (h : zag Γ.al Γ.n0 Γ.ad ad) (hv : zbV 0 v = true) : zcv ad v = zcv Γ.ad v := by
  cases v <;> try rfl
  rename_i k
  simp only [zbV, Bool.or_eq_true] at hv
  rcases hv with hv | hv
  · simp [Nat.blt] at hv
  · exact congrArg Value.ref (zag_out h (Nat.le_of_ble_eq_true hv))
theorem zbS0 {n : Nat} : ∀ {fs : List Value}, zbS 0 fs = true → zbS n fs = true
  | [], _ => rfl
  | v :: t, h => by
    simp only [zbS, Bool.and_eq_true] at h ⊢
    refine ⟨?_, zbS0 h.2⟩
    have hb := h.1
    cases v <;> try rfl
    simp only [zbV, Bool.or_eq_true] at hb ⊢
    rcases hb with hb | hb
    · simp [Nat.blt] at hb
    · exact Or.inr hb
theorem zcS0 {ad : Nat → Nat} : ∀ {fs : List Value}, zbS 0 fs = true → fs.map (zcv (fun _ => 0)) = fs → fs.map (zcv ad) = fs
  | [], _, _ => rfl
  | v :: t, h, h2 => by
    simp only [zbS, Bool.and_eq_true] at h
    simp only [List.map_cons, List.cons.injEq] at h2
    simp only [List.map_cons, List.cons.injEq]
    refine ⟨?_, zcS0 h.2 h2.2⟩
    have hv := h2.1
    have hb := h.1
    cases v <;> try rfl
    rename_i r
    simp only [zbV, Bool.or_eq_true] at hb
    rcases hb with hb | hb
    · simp [Nat.blt] at hb
    · have h9 := Nat.le_of_ble_eq_true hb
      simp only [zcv, Value.ref.injEq] at hv
      subst hv
      exact absurd h9 (by decide)
section ZH
variable {Γ : zX} {T : zT} {own : String} {pc : Nat} {L : zL} {S : zS} {w : zW} {cu su : Nat}
theorem zs_getf (C : zOK Γ T own) {k a ci i : Nat} {o : Nat × List Value} {v : Value} (hd : decode Γ.cc pc = .ok (.getfield k, 3)) (hf : zlk k T.fl = some (ci, i)) (hw : w[a]? = some (.inr o)) (hc : o.1 = ci) (hv : o.2[i]? = some v) (kk : zSm Γ (pc + 3) L (v :: S) w cu su) : zSm Γ pc L (.ref a :: S) w cu su := by
  intro ad H locs ls hP hD hS hl ha
  obtain ⟨q, h1, h2, h3⟩ := C.fl _ (zlk_mem hf)
  subst hc
  exact va_get (C := q.1) (T := q.2.1) (N := q.2.2) C.1 C.2.1 C.hts (zcls h1).1 C.hown C.hK hP a (zcw_get hw) h1 i h2 (C.hts _ h3) (fun _ h => h) (v := zcv ad v) (by rw [List.getElem?_map, hv]; rfl) hd (kk ad H locs ls hP hD hS hl ha)
theorem zcv_fit {ad : Nat → Nat} {ty : FieldType} {v : Value} (h : narrow ty v = v ∧ fits ty v = true) : narrow ty (zcv ad v) = zcv ad v ∧ fits ty (zcv ad v) = true := by
  cases v <;> try exact h
  rename_i k
  obtain ⟨h1, h2⟩ := h
  cases ty <;> first | (simp_all [zcv, narrow, fits]; done) | exact ⟨rfl, rfl⟩
theorem zs_putf (C : zOK Γ T own) {k a ci i : Nat} {o : Nat × List Value} {v : Value} {q : vw_C} (hd : decode Γ.cc pc = .ok (.putfield k, 3)) (hf : zlk k T.fl = some (ci, i)) (hw : w[a]? = some (.inr o)) (hc : o.1 = ci) (hi : i < o.2.length) (hq : zCl[ci]? = some q) (hini : (q.2.1 i).2.2.2 = false ∨ T.ini = true) (hfit : narrow (zTy ci i) v = v ∧ fits (zTy ci i) v = true) (kk : zSm Γ (pc + 3) L S (w.set a (.inr (ci, o.2.set i v))) cu su) : zSm Γ pc L (v :: .ref a :: S) w cu su := by
  intro ad H locs ls hP hD hS hl ha
  obtain ⟨q', h1, h2, h3⟩ := C.fl _ (zlk_mem hf)
  cases hq.symm.trans h1
  subst hc
  obtain ⟨g1, g2, g3⟩ := zcls hq
  have hlt : a < w.length := (List.getElem?_eq_some_iff.mp hw).1
  obtain ⟨f1, f2⟩ := zcv_fit (ad := ad) hfit
  have fin : ∀ (H1 : Heap) (locs1 : List Loc), va_P Γ.G zCl ((zcw Γ.cA ad w).set a (ad a, .inr (o.1, (o.2.map (zcv ad)).set i (zcv ad v)))) H1 → va_D Γ.A ((zcw Γ.cA ad w).set a (ad a, .inr (o.1, (o.2.map (zcv ad)).set i (zcv ad v)))) → va_S Γ.A Γ.s.heap H1 locs1 → W Γ.p Γ.l Γ.e Γ.R Γ.s Γ.m Γ.args Γ.below Γ.meth Γ.c H1 locs1 cu su Γ.Q (F0 Γ.m (pc + 3) ls (S.map (zcv ad))) := by
    intro H1 locs1 hP1 hD1 hS1
    have e : (zcw Γ.cA ad w).set a (ad a, .inr (o.1, (o.2.map (zcv ad)).set i (zcv ad v))) = zcw Γ.cA ad (w.set a (.inr (o.1, o.2.set i v))) := by
      rw [← zcw_set hlt]
      congr 1
      simp only [zce, List.map_set]
    rw [e] at hP1 hD1
    exact kk ad H1 locs1 ls hP1 hD1 hS1 hl ha
  cases hfn : (q.2.1 i).2.2.2 with
  | false => exact va_put (C := q.1) (T := q.2.1) (N := q.2.2) C.1 C.2.1 C.hts g1 (zTy o.1) g2 g3 C.hown C.hK hP hD hS a (zcw_get hw) hq i h2 (C.hts _ h3) (fun _ h => h) hfn (g2 i h2) f1 f2 (by rw [List.length_map]; exact hi) hd fin
  | true =>
    have hin : T.ini = true := hini.resolve_left (by rw [hfn]; decide)
    obtain ⟨n1, n2⟩ := C.ini hin
    exact va_putF (C := q.1) (T := q.2.1) (N := q.2.2) C.1 C.2.1 C.hts g1 (zTy o.1) g2 g3 C.hown C.hK hP hD hS a (zcw_get hw) hq i h2 (C.hts _ h3) (fun _ h => h) hfn n1 (n2 _ (zlk_mem hf) _ hq) (g2 i h2) f1 f2 (by rw [List.length_map]; exact hi) hd fin
theorem zs_gets (C : zOK Γ T own) {k : Nat} {v : Value} (hd : decode Γ.cc pc = .ok (.getstatic k, 3)) (hf : zlk k T.st = some v) (kk : zSm Γ (pc + 3) L (v :: S) w cu su) : zSm Γ pc L S w cu su := by
  intro ad H locs ls hP hD hS hl ha
  obtain ⟨hb, Cn, n, d, hZ, hk⟩ := C.st _ (zlk_mem hf)
  have h := kk ad H locs ls hP hD hS hl ha
  refine va_gets C.1 C.2.1 hZ hS C.hown hk (fun _ h => h) hd ?_
  rw [← zcv_out ha hb]
  exact h
theorem zs_iald (C : zOK Γ T own) {a n : Nat} {f : Nat → Int32} {i : Int32} (hd : decode Γ.cc pc = .ok (.iaload, 1)) (hw : w[a]? = some (.inl (0, n, .inl f))) (hin : vp_in i n) (kk : zSm Γ (pc + 1) L (.int (f i.toNatClampNeg) :: S) w cu su) : zSm Γ pc L (.int i :: .ref a :: S) w cu su :=
  fun ad H locs ls hP hD hS hl ha => va_iald C.1 C.2.1 C.hK hP a 0 (zcw_get hw) rfl hin hd (kk ad H locs ls hP hD hS hl ha)
theorem zs_bald (C : zOK Γ T own) {a n : Nat} {f : Nat → Int32} {i : Int32} (hd : decode Γ.cc pc = .ok (.baload, 1)) (hw : w[a]? = some (.inl (2, n, .inl f))) (hin : vp_in i n) (kk : zSm Γ (pc + 1) L (.int (f i.toNatClampNeg) :: S) w cu su) : zSm Γ pc L (.int i :: .ref a :: S) w cu su :=
  fun ad H locs ls hP hD hS hl ha => va_bald C.1 C.2.1 C.hK hP a 2 (zcw_get hw) rfl hin hd (kk ad H locs ls hP hD hS hl ha)
theorem zs_iast (C : zOK Γ T own) {a n : Nat} {f : Nat → Int32} {i x : Int32} (hd : decode Γ.cc pc = .ok (.iastore, 1)) (hw : w[a]? = some (.inl (0, n, .inl f))) (hin : vp_in i n) (kk : zSm Γ (pc + 1) L S (w.set a (.inl (0, n, .inl (upd f i.toNatClampNeg x)))) cu su) : zSm Γ pc L (.int x :: .int i :: .ref a :: S) w cu su := by
  intro ad H locs ls hP hD hS hl ha
  have hlt : a < w.length := (List.getElem?_eq_some_iff.mp hw).1
  refine va_iast C.1 C.2.1 C.hK hP hD hS a 0 (zcw_get hw) rfl hin hd (fun H1 locs1 hP1 hD1 hS1 => ?_)
  rw [show (ad a, (Sum.inl (Γ.cA 0, n, .inl (upd f i.toNatClampNeg x)) : va_E)) = (ad a, zce Γ.cA ad (.inl (0, n, .inl (upd f i.toNatClampNeg x)))) from rfl, zcw_set hlt] at hP1 hD1
  exact kk ad H1 locs1 ls hP1 hD1 hS1 hl ha
theorem zs_bast (C : zOK Γ T own) {a n : Nat} {f : Nat → Int32} {i x : Int32} (hd : decode Γ.cc pc = .ok (.bastore, 1)) (hw : w[a]? = some (.inl (2, n, .inl f))) (hin : vp_in i n) (kk : zSm Γ (pc + 1) L S (w.set a (.inl (2, n, .inl (upd f i.toNatClampNeg (vp_nar .byte x))))) cu su) : zSm Γ pc L (.int x :: .int i :: .ref a :: S) w cu su := by
  intro ad H locs ls hP hD hS hl ha
  have hlt : a < w.length := (List.getElem?_eq_some_iff.mp hw).1
  refine va_bast C.1 C.2.1 C.hK hP hD hS a 2 (zcw_get hw) rfl hin hd (fun H1 locs1 hP1 hD1 hS1 => ?_)
  rw [show (ad a, (Sum.inl (Γ.cA 2, n, .inl (upd f i.toNatClampNeg (vp_nar .byte x))) : va_E)) = (ad a, zce Γ.cA ad (.inl (2, n, .inl (upd f i.toNatClampNeg (vp_nar .byte x))))) from rfl, zcw_set hlt] at hP1 hD1
  exact kk ad H1 locs1 ls hP1 hD1 hS1 hl ha
theorem zs_alen (C : zOK Γ T own) {a t n : Nat} {x : (Nat → Int32) ⊕ (Nat → Int64) ⊕ (Nat → UInt32) ⊕ (Nat → UInt64) ⊕ (Nat → Option Nat)} (hd : decode Γ.cc pc = .ok (.arraylength, 1)) (hw : w[a]? = some (.inl (t, n, x))) (ht : t < 3) (kk : zSm Γ (pc + 1) L (.int (nI n) :: S) w cu su) : zSm Γ pc L (.ref a :: S) w cu su := by
  intro ad H locs ls hP hD hS hl ha
  have h := kk ad H locs ls hP hD hS hl ha
  match t, ht with
  | 0, _ => exact va_alen C.1 C.2.1 C.hK hP a 0 (zcw_get hw) rfl rfl hd h
  | 1, _ => exact va_alen C.1 C.2.1 C.hK hP a 1 (zcw_get hw) rfl rfl hd h
  | 2, _ => exact va_alen C.1 C.2.1 C.hK hP a 2 (zcw_get hw) rfl rfl hd h
theorem zs_sald (C : zOK Γ T own) {a n : Nat} {f : Nat → Int32} {i : Int32} (hd : decode Γ.cc pc = .ok (.iaload, 1)) (ha0 : 1000 ≤ a) (hsc : zlk a T.sc = some (0, n, f)) (hin : vp_in i n) (kk : zSm Γ (pc + 1) L (.int (f i.toNatClampNeg) :: S) w cu su) : zSm Γ pc L (.int i :: .ref a :: S) w cu su := by
  intro ad H locs ls hP hD hS hl ha
  obtain ⟨-, ty, e, hX⟩ := C.sc _ (zlk_mem hsc)
  cases e
  have h := kk ad H locs ls hP hD hS hl ha
  show W _ _ _ _ _ _ _ _ _ _ _ _ _ _ _ (F0 Γ.m pc ls (.int i :: .ref (ad a) :: S.map (zcv ad)))
  rw [zag_out ha ha0]
  exact va_ti C.1 C.2.1 hX hS hin rfl hd h
theorem zs_sbld (C : zOK Γ T own) {a n : Nat} {f : Nat → Int32} {i : Int32} (hd : decode Γ.cc pc = .ok (.baload, 1)) (ha0 : 1000 ≤ a) (hsc : zlk a T.sc = some (2, n, f)) (hin : vp_in i n) (kk : zSm Γ (pc + 1) L (.int (f i.toNatClampNeg) :: S) w cu su) : zSm Γ pc L (.int i :: .ref a :: S) w cu su := by
  intro ad H locs ls hP hD hS hl ha
  obtain ⟨-, ty, e, hX⟩ := C.sc _ (zlk_mem hsc)
  cases e
  have h := kk ad H locs ls hP hD hS hl ha
  show W _ _ _ _ _ _ _ _ _ _ _ _ _ _ _ (F0 Γ.m pc ls (.int i :: .ref (ad a) :: S.map (zcv ad)))
  rw [zag_out ha ha0]
  exact va_tb C.1 C.2.1 hX hS hin rfl hd h
theorem zs_slen (C : zOK Γ T own) {a t n : Nat} {f : Nat → Int32} (hd : decode Γ.cc pc = .ok (.arraylength, 1)) (ha0 : 1000 ≤ a) (hsc : zlk a T.sc = some (t, n, f)) (kk : zSm Γ (pc + 1) L (.int (nI n) :: S) w cu su) : zSm Γ pc L (.ref a :: S) w cu su := by
  intro ad H locs ls hP hD hS hl ha
  obtain ⟨-, ty, e, hX⟩ := C.sc _ (zlk_mem hsc)
  have h := kk ad H locs ls hP hD hS hl ha
  show W _ _ _ _ _ _ _ _ _ _ _ _ _ _ _ (F0 Γ.m pc ls (.ref (ad a) :: S.map (zcv ad)))
  rw [zag_out ha ha0]
  exact va_tlen C.1 C.2.1 hX hS rfl hd h
theorem zag_up {Γ : zX} {ad : Nat → Nat} {n q : Nat} (hal : Γ.al = true) (hn0 : Γ.n0 ≤ n) (hn : n < 1000) (h : zag Γ.al Γ.n0 Γ.ad ad) : zag Γ.al Γ.n0 Γ.ad (va_up ad n q) := by
  intro k hk
  have hne : k ≠ n := by
    rcases hk with hk | hk | hk
    · rw [hal] at hk; cases hk
    · omega
    · omega
  show (if k = n then q else ad k) = Γ.ad k
  rw [if_neg hne]
  exact h k hk
theorem zs_new (C : zOK Γ T own) {k ci n : Nat} {fs : List Value} (hd : decode Γ.cc pc = .ok (.new k, 3)) (hf : zlk k T.nw = some (ci, n, fs)) (hal : T.al = true) (hn : w.length < 1000) (hn0 : T.n0 ≤ w.length) (hL : zbL w.length L = true) (hS0 : zbS w.length S = true) (hw : zbW w.length w = true) (hc : cu + 1 ≤ T.rc) (hs : su + n ≤ T.rs)
    (kk : zSm Γ (pc + 3) L (.ref w.length :: S) (w ++ [.inr (ci, fs)]) (cu + 1) (su + n)) : zSm Γ pc L S w cu su := by
  intro ad H locs ls hP hD hS hl ha
  obtain ⟨q, h1, h2, h3, h4, h5, h6, h7, h8⟩ := C.nw _ (zlk_mem hf)
  have hal' : Γ.al = true := by rw [← C.al]; exact hal
  have hn0' : Γ.n0 ≤ w.length := by rw [← C.n0]; exact hn0
  subst h2
  have hfs : ∀ ad' : Nat → Nat, fs.map (zcv ad') = fs := fun _ => zcS0 h4 h5
  refine va_new (C := q.1) (T := q.2.1) (N := q.2.2) (fs := fs) C.1 C.2.1 C.hts (zcls h1).1 (zTy ci) (zcls h1).2.1 C.hown (C.hts _ h6) (C.hts _ h7) (C.hts _ h8) C.hK hP hD hS C.hA h1 h3 (Nat.le_trans hc C.rc) (Nat.le_trans hs C.rs) hd (fun a H1 hP1 hD1 hS1 => ?_)
  have hce : (Sum.inr (ci, fs) : va_E) = zce Γ.cA ad (.inr (ci, fs)) := by simp only [zce, hfs]
  have hbE : zbE w.length (.inr (ci, fs)) = true := zbS0 h4
  rw [hce, zcw_push hn hw hbE] at hP1 hD1
  have h9 := kk (va_up ad w.length a) H1 locs ls hP1 hD1 hS1 (by rw [zcl_up hn hL]; exact hl) (zag_up hal' hn0' hn ha)
  rw [List.map_cons, zcS_up hn hS0] at h9
  have e9 : zcv (va_up ad w.length a) (.ref w.length) = .ref a := by simp [zcv, va_up]
  rw [e9] at h9
  exact h9
theorem zs_newa (C : zOK Γ T own) {t N : Nat} {n : Int32} {ty : ArrayType} {ft : FieldType} {a0 : vp_A} (hd : decode Γ.cc pc = .ok (.newarray ty, 2)) (harr : (Cond.arrayClass (newarray.typeOf ty)).before Γ.args Γ.s = true) (hty : newarray.typeOf ty = ft) (ht : (ztys Γ.cA)[t]? = some (Γ.cA t, ft)) (hprim : ∀ U : State, ∀ c : ClassId, va_RA U c ft → U.vm.findClass ("[" ++ ft.toString) = some c) (hcell : ∀ cA : ClassId, vp_cell cA a0 = arrV cA N (fun _ => defaultValue ft)) (hn : n = nI N) (hN : N ≤ 65536) (hcb : componentBytes ft ≤ 8)
    (hal : T.al = true) (hl0 : w.length < 1000) (hn0 : T.n0 ≤ w.length) (hL : zbL w.length L = true) (hS0 : zbS w.length S = true) (hw : zbW w.length w = true) (hc : cu + 1 ≤ T.rc) (hs : su + N ≤ T.rs)
    (kk : zSm Γ (pc + 2) L (.ref w.length :: S) (w ++ [.inl (t, a0)]) (cu + 1) (su + N)) : zSm Γ pc L (.int n :: S) w cu su := by
  intro ad H locs ls hP hD hS hl ha
  have hal' : Γ.al = true := by rw [← C.al]; exact hal
  have hn0' : Γ.n0 ≤ w.length := by rw [← C.n0]; exact hn0
  subst hn
  have hm : N * componentBytes ft ≤ 65536 * 8 := Nat.mul_le_mul hN hcb
  refine va_newa (ty := ft) (a0 := a0) (N' := N) C.1 C.2.1 harr hty C.hK hP hD hS C.hA hcell (nI_pos (by omega)) (nI_clamp (by omega)) (by omega) (Nat.le_trans hc C.rc) (Nat.le_trans hs C.rs) hd (fun a cA H1 hK1 hP1 hD1 hS1 => ?_)
  have e1 : cA = Γ.cA t := by
    have h1 := (hK1.2 3 (cA, ft) (by rfl)).2
    have h2 := (C.hK.2 t _ ht).2
    exact Option.some.inj ((hprim _ _ h1).symm.trans (hprim _ _ h2))
  subst e1
  rw [show (Sum.inl (Γ.cA t, a0) : va_E) = zce Γ.cA ad (.inl (t, a0)) from rfl, zcw_push hl0 hw rfl] at hP1 hD1
  have h9 := kk (va_up ad w.length a) H1 locs ls hP1 hD1 hS1 (by rw [zcl_up hl0 hL]; exact hl) (zag_up hal' hn0' hl0 ha)
  rw [List.map_cons, zcS_up hl0 hS0] at h9
  have e9 : zcv (va_up ad w.length a) (.ref w.length) = .ref a := by simp [zcv, va_up]
  rw [e9] at h9
  exact h9
theorem zs_lcmp (C : zOK Γ T own) {x y : Int64} (hd : decode Γ.cc pc = .ok (.lcmp, 1)) (k1 : x = y → zSm Γ (pc + 1) L (.int 0 :: S) w cu su) (k2 : ¬ x = y → ∀ z : Int32, ¬ z = 0 → zSm Γ (pc + 1) L (.int z :: S) w cu su) : zSm Γ pc L (.long y :: .long x :: S) w cu su := by
  intro ad H locs ls hP hD hS hl ha
  refine W.lcmp C.1 C.2.1 hd ?_
  by_cases e : x = y
  · subst e
    have h0 : lg_cmp x x = 0 := by simp [lg_cmp]
    rw [h0]
    exact k1 rfl ad H locs ls hP hD hS hl ha
  · have h0 : ¬ lg_cmp x y = 0 := by
      unfold lg_cmp
      split
      · decide
      · first | decide | (rw [if_neg e]; decide)
    exact k2 e _ h0 ad H locs ls hP hD hS hl ha
end ZH
end
section
/-! ===== the whole step, the whole run ===== -/
def ztgt (pc : Nat) (off : Int) (tg : List Nat) : Bool := match tg with
  | [t] => decide ((pc : Int) + off = (t : Int))
  | _ => false
def ztgts (pc : Nat) : List Int → List Nat → Bool
  | [], [] => true
  | o :: os, t :: ts => decide ((pc : Int) + o = (t : Int)) && ztgts pc os ts
  | _, _ => false
/-- what the row of a program must keep -/
def ztg (i : Instr) (pc len : Nat) (tg : List Nat) : Bool := match i with
  | .iconst n => Nat.beq len 1 && decide (Int32.ofInt n = zkon tg)
  | .bipush n => Nat.beq len 2 && decide ((Int8.ofInt n).toInt32 = zkon tg)
  | .sipush n => Nat.beq len 3 && decide ((Int16.ofInt n).toInt32 = zkon tg)
  | .iinc _ n => Nat.beq len 3 && decide (Int32.ofInt n = zkon tg)
  | .ifCond _ off => Nat.beq len 3 && ztgt pc off tg
  | .if_icmp _ off => Nat.beq len 3 && ztgt pc off tg
  | .goto off => Nat.beq len 3 && ztgt pc off tg
  | .tableswitch d lo hi offs => match tg with
    | t :: ts => decide ((pc : Int) + d = (t : Int)) && decide (0 ≤ lo) && decide (hi = lo + offs.size - 1) && decide (hi < 1000) && ztgts pc offs.toList ts
    | [] => false
  | .lookupswitch d ps => match tg with
    | t :: ts => decide ((pc : Int) + d = (t : Int)) && ps.toList.all (fun q => decide (0 ≤ q.1) && decide (q.1 < 1000)) && (ps.toList.zip (ps.toList.drop 1)).all (fun (a, next) => a.1 < next.1) && ztgts pc (ps.toList.map (fun q => q.2)) ts
    | [] => false
  | .iload _ => Nat.beq len 2
  | .aload _ => Nat.beq len 2
  | .istore _ => Nat.beq len 2
  | .astore _ => Nat.beq len 2
  | .ldc _ => Nat.beq len 2
  | .newarray _ => Nat.beq len 2
  | .getfield _ => Nat.beq len 3
  | .putfield _ => Nat.beq len 3
  | .getstatic _ => Nat.beq len 3
  | .new _ => Nat.beq len 3
  | .invokevirtual _ => Nat.beq len 3
  | .invokestatic _ => Nat.beq len 3
  | .invokespecial _ => Nat.beq len 3
  | _ => Nat.beq len 1
section ZI
variable {Γ : zX} {T : zT} {own : String} {pc i nL : Nat} {L : zL} {S : zS} {w : zW} {cu su : Nat} {N : zK}
theorem zload_s (h : zload i L S w cu su N) : ∃ x, zlk i L = some (.int x) ∧ N L (.int x :: S) w cu su := by
  unfold zload at h
  split at h
  · exact ⟨_, by assumption, h⟩
  · exact h.elim
theorem zaload_s (h : zaload i L S w cu su N) : (∃ x, zlk i L = some (.ref x) ∧ N L (.ref x :: S) w cu su) ∨ (zlk i L = some .null ∧ N L (.null :: S) w cu su) := by
  unfold zaload at h
  split at h
  · exact Or.inl ⟨_, by assumption, h⟩
  · exact Or.inr ⟨by assumption, h⟩
  · exact h.elim
theorem zblt {a b : Nat} (h : Nat.blt a b = true) : a < b := by simpa [Nat.blt_eq] using h
theorem zstore_s (h : zstore nL i L S w cu su N) : ∃ x S', i < nL ∧ S = .int x :: S' ∧ N (zset i (.int x) L) S' w cu su := by
  unfold zstore at h
  split at h
  · rename_i hb
    split at h
    · exact ⟨_, _, zblt hb, rfl, h⟩
    · exact h.elim
  · exact h.elim
theorem zastore_s (h : zastore nL i L S w cu su N) : (∃ x S', i < nL ∧ S = .ref x :: S' ∧ N (zset i (.ref x) L) S' w cu su) ∨ (∃ S', i < nL ∧ S = .null :: S' ∧ N (zset i .null L) S' w cu su) := by
  unfold zastore at h
  split at h
  · rename_i hb
    split at h
    · exact Or.inl ⟨_, _, zblt hb, rfl, h⟩
    · exact Or.inr ⟨_, zblt hb, rfl, h⟩
    · exact h.elim
  · exact h.elim
theorem zinc_s {d : Int32} (h : zinc nL i d L S w cu su N) : ∃ x, i < nL ∧ zlk i L = some (.int x) ∧ N (zset i (.int (x + d)) L) S w cu su := by
  unfold zinc at h
  split at h
  · rename_i hb
    split at h
    · exact ⟨_, zblt hb, by assumption, h⟩
    · exact h.elim
  · exact h.elim
theorem zbin_s {f : Int32 → Int32 → Int32} (h : zbin f L S w cu su N) : ∃ x y S', S = .int y :: .int x :: S' ∧ N L (.int (f x y) :: S') w cu su := by
  unfold zbin at h
  split at h
  · exact ⟨_, _, _, rfl, h⟩
  · exact h.elim
theorem zdiv_s {f : Int32 → Int32 → Int32} (h : zdiv f L S w cu su N) : ∃ x y S', S = .int y :: .int x :: S' ∧ ¬ y = 0 ∧ N L (.int (f x y) :: S') w cu su := by
  unfold zdiv at h
  split at h
  · exact ⟨_, _, _, rfl, h⟩
  · exact h.elim
theorem zun_s {f : Int32 → Int32} (h : zun f L S w cu su N) : ∃ x S', S = .int x :: S' ∧ N L (.int (f x) :: S') w cu su := by
  unfold zun at h
  split at h
  · exact ⟨_, _, rfl, h⟩
  · exact h.elim
theorem zbr_t {f : Int32 → Prop} {J N : zS → Prop} (h : zbr f true S J N) : ∃ x S', S = .int x :: S' ∧ (f x → J S') ∧ (¬ f x → N S') := by
  unfold zbr at h
  split at h
  · exact ⟨_, _, rfl, h⟩
  · exact h.elim
theorem zbr_f {f : Int32 → Prop} {J N : zS → Prop} (h : zbr f false S J N) : ∃ x S', S = .int x :: S' ∧ (f x → N S') ∧ (¬ f x → J S') := by
  unfold zbr at h
  split at h
  · exact ⟨_, _, rfl, h⟩
  · exact h.elim
theorem zbr2_t {f : Int32 → Int32 → Prop} {J N : zS → Prop} (h : zbr2 f true S J N) : ∃ x y S', S = .int y :: .int x :: S' ∧ (f x y → J S') ∧ (¬ f x y → N S') := by
  unfold zbr2 at h
  split at h
  · exact ⟨_, _, _, rfl, h⟩
  · exact h.elim
theorem zbr2_f {f : Int32 → Int32 → Prop} {J N : zS → Prop} (h : zbr2 f false S J N) : ∃ x y S', S = .int y :: .int x :: S' ∧ (f x y → N S') ∧ (¬ f x y → J S') := by
  unfold zbr2 at h
  split at h
  · exact ⟨_, _, _, rfl, h⟩
  · exact h.elim
theorem zgetf_s {k : Nat} (h : zgetf T k L S w cu su N) : ∃ ci j a S' o v, zlk k T.fl = some (ci, j) ∧ S = .ref a :: S' ∧ w[a]? = some (.inr o) ∧ o.1 = ci ∧ o.2[j]? = some v ∧ N L (v :: S') w cu su := by
  unfold zgetf at h
  split at h
  · split at h
    · split at h
      · split at h
        · rename_i hb
          split at h
          · exact ⟨_, _, _, _, _, _, by assumption, rfl, by assumption, Nat.eq_of_beq_eq_true hb, by assumption, h⟩
          · exact h.elim
        · exact h.elim
      · exact h.elim
    · exact h.elim
  · exact h.elim
theorem zfit_s {ty : FieldType} {v : Value} {K : Prop} (h : zfit ty v K) : (narrow ty v = v ∧ fits ty v = true) ∧ K := by
  unfold zfit at h
  split at h
  · exact ⟨⟨rfl, rfl⟩, h⟩
  · exact ⟨⟨rfl, rfl⟩, h⟩
  · exact ⟨⟨rfl, rfl⟩, h⟩
  · exact ⟨⟨rfl, rfl⟩, h⟩
  · exact ⟨⟨rfl, rfl⟩, h⟩
  · exact ⟨⟨h.1, h.2.1⟩, h.2.2⟩
theorem zputf_s {k : Nat} (h : zputf T k L S w cu su N) : ∃ ci j a S' v q, ∃ o : Nat × List Value, zlk k T.fl = some (ci, j) ∧ S = v :: .ref a :: S' ∧ w[a]? = some (.inr o) ∧ o.1 = ci ∧ j < o.2.length ∧ zCl[ci]? = some q ∧ ((q.2.1 j).2.2.2 = false ∨ T.ini = true) ∧ (narrow (zTy ci j) v = v ∧ fits (zTy ci j) v = true) ∧ N L S' (w.set a (.inr (ci, o.2.set j v))) cu su := by
  unfold zputf at h
  split at h
  · split at h
    · split at h
      · split at h
        · rename_i hb
          simp only [Bool.and_eq_true] at hb
          split at h
          · split at h
            · rename_i hc
              obtain ⟨h1, h2⟩ := zfit_s h
              refine ⟨_, _, _, _, _, _, _, by assumption, rfl, by assumption, Nat.eq_of_beq_eq_true hb.1, zblt hb.2, by assumption, ?_, h1, h2⟩
              simpa using hc
            · exact h.elim
          · exact h.elim
        · exact h.elim
      · exact h.elim
    · exact h.elim
  · exact h.elim
theorem zsw_s {x : Int32} {K : Nat → Prop} {D : Prop} : ∀ {k : Nat} {ts : List Nat}, zsw x K D k ts → (∃ j t, ts[j]? = some t ∧ x = nI (k + j) ∧ K t) ∨ ((∀ j, j < ts.length → ¬ x = nI (k + j)) ∧ D)
  | _, [], h => Or.inr ⟨fun j hj => absurd hj (Nat.not_lt_zero j), h⟩
  | k, t :: ts, h => by
    by_cases e : x = nI k
    · exact Or.inl ⟨0, t, rfl, e, h.1 e⟩
    · rcases zsw_s (h.2 e) with ⟨j, t', h1, h2, h3⟩ | ⟨h1, h2⟩
      · exact Or.inl ⟨j + 1, t', h1, by rw [h2]; congr 1; omega, h3⟩
      · refine Or.inr ⟨fun j hj => ?_, h2⟩
        match j, hj with
        | 0, _ => exact e
        | j + 1, hj =>
          have h9 := h1 j (by simpa using hj)
          rw [show k + (j + 1) = k + 1 + j by omega]
          exact h9
theorem ztgts_get : ∀ {os : List Int} {ts : List Nat} {j t : Nat}, ztgts pc os ts = true → ts[j]? = some t → ∃ o, os[j]? = some o ∧ (pc : Int) + o = (t : Int)
  | [], [], _, _, _, h => by cases h
  | o :: os, t' :: ts, 0, t, h, hj => by
    simp only [ztgts, Bool.and_eq_true, decide_eq_true_eq] at h
    cases hj
    exact ⟨o, rfl, h.1⟩
  | o :: os, t' :: ts, j + 1, t, h, hj => by
    simp only [ztgts, Bool.and_eq_true, decide_eq_true_eq] at h
    obtain ⟨o', h1, h2⟩ := ztgts_get h.2 (by simpa using hj)
    exact ⟨o', by simpa using h1, h2⟩
  | [], _ :: _, _, _, h, _ => by cases h
  | _ :: _, [], _, _, h, _ => by cases h
theorem ztgts_len : ∀ {os : List Int} {ts : List Nat}, ztgts pc os ts = true → os.length = ts.length
  | [], [], _ => rfl
  | o :: os, t :: ts, h => by
    simp only [ztgts, Bool.and_eq_true] at h
    simp [ztgts_len h.2]
  | [], _ :: _, h => by cases h
  | _ :: _, [], h => by cases h
theorem zs_table (C : zOK Γ T own) {x : Int32} {d lo hi : Int} {offs : Array Int} {len t : Nat} {ts : List Nat} (hd : decode Γ.cc pc = .ok (.tableswitch d lo hi offs, len)) (ht : ztg (.tableswitch d lo hi offs) pc len (t :: ts) = true) {K : Nat → Prop} {D : Prop} (hK : ∀ t, K t → zSm Γ t L S w cu su) (hD : D → zSm Γ t L S w cu su) (h : zsw x K D lo.toNat ts) : zSm Γ pc L (.int x :: S) w cu su := by
  intro ad H locs ls hP hDd hS hl ha
  simp only [ztg, Bool.and_eq_true, decide_eq_true_eq] at ht
  obtain ⟨⟨⟨⟨t1, t2⟩, t3⟩, t4⟩, t5⟩ := ht
  have hlen : offs.size = ts.length := by rw [← ztgts_len t5]; simp
  rcases zsw_s h with ⟨j, t', h1, h2, h3⟩ | ⟨h1, h2⟩
  · obtain ⟨o, g1, g2⟩ := ztgts_get t5 h1
    have hj : j < offs.size := by
      rw [hlen]
      exact (List.getElem?_eq_some_iff.mp h1).1
    have hx : x.toInt = lo + j := by rw [h2, nI_toInt (by omega)]; omega
    refine lv_tableIn C.1 C.2.1 hd (x := x) (off := o) (tgt := t') (by omega) (by omega) ?_ g2 (hK _ h3 ad H locs ls hP hDd hS hl ha)
    rw [show (x.toInt - lo).toNat = j by omega, ← Array.getElem?_toList]
    exact g1
  · refine lv_tableOut C.1 C.2.1 hd (x := x) ?_ t1 (hD h2 ad H locs ls hP hDd hS hl ha)
    by_cases c1 : x.toInt < lo
    · exact Or.inl c1
    · by_cases c2 : hi < x.toInt
      · exact Or.inr c2
      · exfalso
        refine h1 (x.toInt - lo).toNat (by omega) ?_
        apply Int32.toInt_inj.mp
        rw [nI_toInt (by omega)]
        omega
theorem zlsw_s {x : Int32} {K : Nat → Prop} {D : Prop} : ∀ {ks ts : List Nat}, zlsw x K D ks ts → (∃ (j k t : Nat), ks[j]? = some k ∧ ts[j]? = some t ∧ x = nI k ∧ (∀ i k', i < j → ks[i]? = some k' → ¬ x = nI k') ∧ K t) ∨ ((∀ k ∈ ks, ¬ x = nI k) ∧ D)
  | [], _, h => Or.inr ⟨fun _ hk => absurd hk List.not_mem_nil, h⟩
  | _ :: _, [], h => h.elim
  | k :: ks, t :: ts, h => by
    by_cases e : x = nI k
    · exact Or.inl ⟨0, k, t, rfl, rfl, e, fun i _ hi => absurd hi (Nat.not_lt_zero i), h.1 e⟩
    · rcases zlsw_s (h.2 e) with ⟨j, k', t', h1, h2, h3, h4, h5⟩ | ⟨h1, h2⟩
      · refine Or.inl ⟨j + 1, k', t', h1, h2, h3, fun i k9 hi hk9 => ?_, h5⟩
        match i, hi, hk9 with
        | 0, _, hk9 => cases hk9; exact e
        | i + 1, hi, hk9 => exact h4 i k9 (by omega) (by simpa using hk9)
      · exact Or.inr ⟨fun k' hk' => (List.mem_cons.mp hk').elim (fun q => by rw [q]; exact e) (h1 k'), h2⟩
theorem zoff_at {x : Int32} {d : Int} : ∀ {ps : List (Int × Int)} {j : Nat} {q : Int × Int}, ps[j]? = some q → x.toInt = q.1 → (∀ i q', i < j → ps[i]? = some q' → ¬ x.toInt = q'.1) → Op.lookupswitch.offset ps d x.toInt = q.2
  | [], _, _, h, _, _ => by cases h
  | p :: ps, 0, q, h, hx, _ => by
    cases h
    rw [Op.lookupswitch.offset_cons, if_pos hx.symm]
  | p :: ps, j + 1, q, h, hx, hn => by
    rw [Op.lookupswitch.offset_cons, if_neg (fun e => hn 0 p (by omega) rfl e.symm)]
    exact zoff_at (j := j) (by simpa using h) hx (fun i q' hi hq' => hn (i + 1) q' (by omega) (by simpa using hq'))
theorem zoff_no {x : Int32} {d : Int} : ∀ {ps : List (Int × Int)}, (∀ q ∈ ps, ¬ x.toInt = q.1) → Op.lookupswitch.offset ps d x.toInt = d
  | [], _ => rfl
  | p :: ps, h => by
    rw [Op.lookupswitch.offset_cons, if_neg (fun e => h p List.mem_cons_self e.symm)]
    exact zoff_no (fun q hq => h q (List.mem_cons_of_mem _ hq))
theorem zs_lookup (C : zOK Γ T own) {x : Int32} {d : Int} {ps : Array (Int × Int)} {len t : Nat} {ts : List Nat} (hd : decode Γ.cc pc = .ok (.lookupswitch d ps, len)) (ht : ztg (.lookupswitch d ps) pc len (t :: ts) = true) {K : Nat → Prop} {D : Prop} (hK : ∀ t, K t → zSm Γ t L S w cu su) (hD : D → zSm Γ t L S w cu su) (h : zlsw x K D (ps.toList.map (fun q => q.1.toNat)) ts) : zSm Γ pc L (.int x :: S) w cu su := by
  intro ad H locs ls hP hDd hS hl ha
  simp only [ztg, Bool.and_eq_true, decide_eq_true_eq] at ht
  obtain ⟨⟨⟨t1, t2⟩, t3⟩, t4⟩ := ht
  have hb : ∀ q ∈ ps.toList, 0 ≤ q.1 ∧ q.1 < 1000 := by
    intro q hq
    have := List.all_eq_true.mp t2 q hq
    simpa using this
  have hkey : ∀ q ∈ ps.toList, (x = nI q.1.toNat ↔ x.toInt = q.1) := by
    intro q hq
    obtain ⟨b1, b2⟩ := hb q hq
    constructor
    · intro e
      rw [e, nI_toInt (by omega)]
      omega
    · intro e
      apply Int32.toInt_inj.mp
      rw [nI_toInt (by omega)]
      omega
  rcases zlsw_s h with ⟨j, k, t', h1, h2, h3, h4, h5⟩ | ⟨h1, h2⟩
  · rw [List.getElem?_map] at h1
    cases hq : ps.toList[j]? with
    | none => rw [hq] at h1; cases h1
    | some q =>
      rw [hq] at h1
      cases h1
      have hm := List.mem_of_getElem? hq
      obtain ⟨o, g1, g2⟩ := ztgts_get t4 h2
      have ho : o = q.2 := by
        rw [List.getElem?_map, hq] at g1
        exact (Option.some.inj g1).symm
      subst ho
      refine lv_lookup C.1 C.2.1 hd (x := x) (off := q.2) (tgt := t') t3 (zoff_at hq ((hkey q hm).mp h3) (fun i q' hi hq' e => ?_)) g2 (hK _ h5 ad H locs ls hP hDd hS hl ha)
      refine h4 i q'.1.toNat hi (by rw [List.getElem?_map, hq']; rfl) ((hkey q' (List.mem_of_getElem? hq')).mpr e)
  · refine lv_lookup C.1 C.2.1 hd (x := x) (off := d) (tgt := t) t3 (zoff_no (fun q hq e => ?_)) t1 (hD h2 ad H locs ls hP hDd hS hl ha)
    exact h1 q.1.toNat (List.mem_map.mpr ⟨q, hq, rfl⟩) ((hkey q hq).mpr e)
end ZI
end
section
section ZR
variable {Γ : zX} {T : zT} {own : String} {pc : Nat} {L : zL} {S : zS} {w : zW} {cu su : Nat}
theorem zald_s {t : Nat} {N : zK} (h : zald t T L S w cu su N) : ∃ i a S', S = .int i :: .ref a :: S' ∧ ((∃ n f, w[a]? = some (.inl (t, n, .inl f)) ∧ vp_in i n ∧ N L (.int (f i.toNatClampNeg) :: S') w cu su) ∨ (∃ n f, 1000 ≤ a ∧ zlk a T.sc = some (t, n, f) ∧ vp_in i n ∧ N L (.int (f i.toNatClampNeg) :: S') w cu su)) := by
  unfold zald at h
  split at h
  · split at h
    · rename_i h1
      split at h
      · rename_i h2
        split at h
        · rename_i hb
          have e := Nat.eq_of_beq_eq_true hb
          subst e
          exact ⟨_, _, _, rfl, Or.inr ⟨_, _, Nat.le_of_ble_eq_true h1, h2, h.1, h.2⟩⟩
        · exact h.elim
      · exact h.elim
    · split at h
      · split at h
        · rename_i hw _ hb
          have e := Nat.eq_of_beq_eq_true hb
          subst e
          exact ⟨_, _, _, rfl, Or.inl ⟨_, _, hw, h.1, h.2⟩⟩
        · exact h.elim
      · exact h.elim
  · exact h.elim
theorem zast_s {t : Nat} {nr : Int32 → Int32} {N : zK} (h : zast t nr L S w cu su N) : ∃ x i a S' n f, S = .int x :: .int i :: .ref a :: S' ∧ w[a]? = some (.inl (t, n, .inl f)) ∧ vp_in i n ∧ N L S' (w.set a (.inl (t, n, .inl (upd f i.toNatClampNeg (nr x))))) cu su := by
  unfold zast at h
  split at h
  · split at h
    · split at h
      · rename_i hw _ hb
        have e := Nat.eq_of_beq_eq_true hb
        subst e
        exact ⟨_, _, _, _, _, _, rfl, hw, h.1, h.2⟩
      · exact h.elim
    · exact h.elim
  · exact h.elim
theorem zlald_s {N : zK} (h : zlald L S w cu su N) : ∃ i a S' n f, S = .int i :: .ref a :: S' ∧ w[a]? = some (.inl (1, n, .inr (.inl f))) ∧ vp_in i n ∧ N L (.long (f i.toNatClampNeg) :: S') w cu su := by
  unfold zlald at h
  split at h
  · split at h
    · split at h
      · rename_i hw _ hb
        have e := Nat.eq_of_beq_eq_true hb
        subst e
        exact ⟨_, _, _, _, _, rfl, hw, h.1, h.2⟩
      · exact h.elim
    · exact h.elim
  · exact h.elim
theorem zlast_s {N : zK} (h : zlast L S w cu su N) : ∃ x i a S' n f, S = .long x :: .int i :: .ref a :: S' ∧ w[a]? = some (.inl (1, n, .inr (.inl f))) ∧ vp_in i n ∧ N L S' (w.set a (.inl (1, n, .inr (.inl (vp_updL f i.toNatClampNeg x))))) cu su := by
  unfold zlast at h
  split at h
  · split at h
    · split at h
      · rename_i hw _ hb
        have e := Nat.eq_of_beq_eq_true hb
        subst e
        exact ⟨_, _, _, _, _, _, rfl, hw, h.1, h.2⟩
      · exact h.elim
    · exact h.elim
  · exact h.elim
theorem zalen_s {N : zK} (h : zalen T L S w cu su N) : ∃ a S', S = .ref a :: S' ∧ ((∃ t n x, w[a]? = some (.inl (t, n, x)) ∧ t < 3 ∧ N L (.int (nI n) :: S') w cu su) ∨ (∃ t n f, 1000 ≤ a ∧ zlk a T.sc = some (t, n, f) ∧ N L (.int (nI n) :: S') w cu su)) := by
  unfold zalen at h
  split at h
  · split at h
    · rename_i h1
      split at h
      · rename_i h2
        exact ⟨_, _, rfl, Or.inr ⟨_, _, _, Nat.le_of_ble_eq_true h1, h2, h⟩⟩
      · exact h.elim
    · split at h
      · split at h
        · rename_i hw _ hb
          exact ⟨_, _, rfl, Or.inl ⟨_, _, _, hw, zblt hb, h⟩⟩
        · exact h.elim
      · exact h.elim
  · exact h.elim
theorem znew_sound (C : zOK Γ T own) {k : Nat} {N : zK} (hd : decode Γ.cc pc = .ok (.new k, 3)) (hN : ∀ L S w cu su, N L S w cu su → zSm Γ (pc + 3) L S w cu su) (h : znew T k pc L S w cu su N) : zSm Γ pc L S w cu su := by
  unfold znew at h
  split at h
  · rename_i E he
    split at h
    · rename_i hb
      exact C.th _ (zlk_mem he) L S w cu su h (Nat.le_of_ble_eq_true hb)
    · exact h.elim
  · split at h
    · rename_i hf
      split at h
      · rename_i hb
        simp only [Bool.and_eq_true] at hb
        obtain ⟨⟨⟨⟨⟨⟨⟨b1, b2⟩, b3⟩, b4⟩, b5⟩, b6⟩, b7⟩, b8⟩ := hb
        exact zs_new C hd hf b1 (zblt b2) (Nat.le_of_ble_eq_true b3) b4 b5 b6 (Nat.le_of_ble_eq_true b7) (Nat.le_of_ble_eq_true b8) (hN _ _ _ _ _ h)
      · exact h.elim
    · exact h.elim
theorem znewa_sound (C : zOK Γ T own) {t : Nat} {z : Nat → vp_A} {ty : ArrayType} {ft : FieldType} {N : zK} (hd : decode Γ.cc pc = .ok (.newarray ty, 2)) (harr : (Cond.arrayClass (newarray.typeOf ty)).before Γ.args Γ.s = true) (hty : newarray.typeOf ty = ft) (ht : (ztys Γ.cA)[t]? = some (Γ.cA t, ft)) (hprim : ∀ U : State, ∀ c : ClassId, va_RA U c ft → U.vm.findClass ("[" ++ ft.toString) = some c) (hcell : ∀ (n : Nat) (cA : ClassId), vp_cell cA (z n) = arrV cA n (fun _ => defaultValue ft)) (hcb : componentBytes ft ≤ 8)
    (hN : ∀ L S w cu su, N L S w cu su → zSm Γ (pc + 2) L S w cu su) (h : znewa T t z L S w cu su N) : zSm Γ pc L S w cu su := by
  unfold znewa at h
  split at h
  · split at h
    · rename_i hb
      simp only [Bool.and_eq_true] at hb
      obtain ⟨⟨⟨⟨⟨⟨b1, b2⟩, b3⟩, b4⟩, b5⟩, b6⟩, b7⟩ := hb
      obtain ⟨n0, e1, e2, e3, h⟩ := h
      exact zs_newa C hd harr hty ht hprim (hcell n0) e1 e2 hcb b1 (zblt b2) (Nat.le_of_ble_eq_true b3) b4 b5 b6 (Nat.le_of_ble_eq_true b7) e3 (hN _ _ _ _ _ h)
    · exact h.elim
  · exact h.elim
theorem zinv_sound (C : zOK Γ T own) {k ik : Nat} {N : zK} (hik : ik < 3) (hd : decode Γ.cc pc = .ok (zinstr ik k, 3)) (hN : ∀ L S w cu su, N L S w cu su → zSm Γ (pc + 3) L S w cu su) (h : zinv ik T k pc L S w cu su N) : zSm Γ pc L S w cu su := by
  unfold zinv at h
  split at h
  · rename_i hf
    split at h
    · rename_i hp
      split at h
      · rename_i hb
        simp only [Bool.and_eq_true] at hb
        obtain ⟨⟨⟨⟨⟨b1, b2⟩, b3⟩, b4⟩, b5⟩, b6⟩ := hb
        have e := Nat.eq_of_beq_eq_true b1
        subst e
        refine C.cs _ (zlk_mem hf) pc L S _ _ w cu su _ hik hd hp b2 (Nat.le_of_ble_eq_true b3) (Nat.le_of_ble_eq_true b4) (Nat.le_of_ble_eq_true b5) (fun ha => ?_) (fun r w' hq => hN _ _ _ _ _ hq) h
        simp only [Bool.or_eq_true, Bool.and_eq_true, Bool.not_eq_true'] at b6
        rcases b6 with b6 | ⟨⟨⟨c1, c2⟩, c3⟩, c4⟩
        · exact absurd (b6.symm.trans ha) (by decide)
        exact ⟨c1, Nat.le_of_ble_eq_true c2, c3, c4⟩
      · exact h.elim
    · exact h.elim
  · exact h.elim
theorem ztgt_s {off : Int} {t : Nat} {tg : List Nat} (h : ztgt pc off tg = true) (e : tg = [t]) : (pc : Int) + off = (t : Int) := by
  subst e
  simpa [ztgt] using h
theorem zlen_s {len n : Nat} (h : Nat.beq len n = true) : len = n := Nat.eq_of_beq_eq_true h
set_option maxHeartbeats 4000000 in
/-- one step -/
theorem zi_sound (C : zOK Γ T own) {i : Instr} {len : Nat} {tg : List Nat} {N : zK} {J : Nat → zK} (hd : decode Γ.cc pc = .ok (i, len)) (ht : ztg i pc len tg = true) (hN : ∀ L S w cu su, N L S w cu su → zSm Γ (pc + len) L S w cu su) (hJ : ∀ t L S w cu su, J t L S w cu su → zSm Γ t L S w cu su) (h : zi T Γ.nL i pc tg L S w cu su N J) : zSm Γ pc L S w cu su := by
  unfold zi at h
  split at h
  -- iconst
  · simp only [ztg, Bool.and_eq_true, decide_eq_true_eq] at ht
    obtain ⟨t1, t2⟩ := ht; cases zlen_s t1
    exact zs_iconst C hd t2 (hN _ _ _ _ _ h)
  · simp only [ztg, Bool.and_eq_true, decide_eq_true_eq] at ht
    obtain ⟨t1, t2⟩ := ht; cases zlen_s t1
    exact zs_bipush C hd t2 (hN _ _ _ _ _ h)
  · simp only [ztg, Bool.and_eq_true, decide_eq_true_eq] at ht
    obtain ⟨t1, t2⟩ := ht; cases zlen_s t1
    exact zs_sipush C hd t2 (hN _ _ _ _ _ h)
  · cases zlen_s ht
    exact zs_lconst C hd (hN _ _ _ _ _ h)
  · cases zlen_s ht
    split at h
    · exact zs_ldc C hd (by assumption) (hN _ _ _ _ _ h)
    · exact h.elim
  · cases zlen_s ht
    exact zs_null C hd (hN _ _ _ _ _ h)
  -- loads
  · cases zlen_s ht
    obtain ⟨x, h1, h2⟩ := zload_s h
    exact zs_iload_n C hd h1 (hN _ _ _ _ _ h2)
  · cases zlen_s ht
    obtain ⟨x, h1, h2⟩ := zload_s h
    exact zs_iload C hd h1 (hN _ _ _ _ _ h2)
  · cases zlen_s ht
    rcases zaload_s h with ⟨x, h1, h2⟩ | ⟨h1, h2⟩
    · exact zs_aload_n C hd h1 (hN _ _ _ _ _ h2)
    · exact zs_aload_nN C hd h1 (hN _ _ _ _ _ h2)
  · cases zlen_s ht
    rcases zaload_s h with ⟨x, h1, h2⟩ | ⟨h1, h2⟩
    · exact zs_aload C hd h1 (hN _ _ _ _ _ h2)
    · exact zs_aloadN C hd h1 (hN _ _ _ _ _ h2)
  -- stores
  · cases zlen_s ht
    obtain ⟨x, S', h1, rfl, h2⟩ := zstore_s h
    exact zs_istore_n C hd h1 (hN _ _ _ _ _ h2)
  · cases zlen_s ht
    obtain ⟨x, S', h1, rfl, h2⟩ := zstore_s h
    exact zs_istore C hd h1 (hN _ _ _ _ _ h2)
  · cases zlen_s ht
    rcases zastore_s h with ⟨x, S', h1, rfl, h2⟩ | ⟨S', h1, rfl, h2⟩
    · exact zs_astore_n C hd h1 (hN _ _ _ _ _ h2)
    · exact zs_astore_nN C hd h1 (hN _ _ _ _ _ h2)
  · cases zlen_s ht
    rcases zastore_s h with ⟨x, S', h1, rfl, h2⟩ | ⟨S', h1, rfl, h2⟩
    · exact zs_astore C hd h1 (hN _ _ _ _ _ h2)
    · exact zs_astoreN C hd h1 (hN _ _ _ _ _ h2)
  · simp only [ztg, Bool.and_eq_true, decide_eq_true_eq] at ht
    obtain ⟨t1, t2⟩ := ht; cases zlen_s t1
    obtain ⟨x, h1, h2, h3⟩ := zinc_s h
    exact zs_iinc C hd h1 h2 t2 (hN _ _ _ _ _ h3)
  -- arithmetic
  · cases zlen_s ht; obtain ⟨x, y, S', rfl, h2⟩ := zbin_s h; exact zs_iadd C hd (hN _ _ _ _ _ h2)
  · cases zlen_s ht; obtain ⟨x, y, S', rfl, h2⟩ := zbin_s h; exact zs_isub C hd (hN _ _ _ _ _ h2)
  · cases zlen_s ht; obtain ⟨x, y, S', rfl, h2⟩ := zbin_s h; exact zs_imul C hd (hN _ _ _ _ _ h2)
  · cases zlen_s ht; obtain ⟨x, y, S', rfl, h2⟩ := zbin_s h; exact zs_iand C hd (hN _ _ _ _ _ h2)
  · cases zlen_s ht; obtain ⟨x, y, S', rfl, h2⟩ := zbin_s h; exact zs_ior C hd (hN _ _ _ _ _ h2)
  · cases zlen_s ht; obtain ⟨x, y, S', rfl, h2⟩ := zbin_s h; exact zs_ishl C hd (hN _ _ _ _ _ h2)
  · cases zlen_s ht; obtain ⟨x, y, S', rfl, h2⟩ := zbin_s h; exact zs_ishr C hd (hN _ _ _ _ _ h2)
  · cases zlen_s ht; obtain ⟨x, y, S', rfl, h2⟩ := zbin_s h; exact zs_iushr C hd (hN _ _ _ _ _ h2)
  · cases zlen_s ht; obtain ⟨x, y, S', rfl, h1, h2⟩ := zdiv_s h; exact zs_idiv C hd h1 (hN _ _ _ _ _ h2)
  · cases zlen_s ht; obtain ⟨x, y, S', rfl, h1, h2⟩ := zdiv_s h; exact zs_irem C hd h1 (hN _ _ _ _ _ h2)
  · cases zlen_s ht; obtain ⟨x, S', rfl, h2⟩ := zun_s h; exact zs_ineg C hd (hN _ _ _ _ _ h2)
  · cases zlen_s ht; obtain ⟨x, S', rfl, h2⟩ := zun_s h; exact zs_i2b C hd (hN _ _ _ _ _ h2)
  · cases zlen_s ht; obtain ⟨x, S', rfl, h2⟩ := zun_s h; exact zs_i2c C hd (hN _ _ _ _ _ h2)
  · cases zlen_s ht
    split at h
    · exact zs_i2l C hd (hN _ _ _ _ _ h)
    · exact h.elim
  -- stack
  · cases zlen_s ht
    split at h
    · split at h
      · rename_i hb
        exact zs_dup C hd (Nat.eq_of_beq_eq_true hb) (hN _ _ _ _ _ h)
      · exact h.elim
    · exact h.elim
  · cases zlen_s ht
    split at h
    · split at h
      · rename_i hb
        simp only [Bool.and_eq_true] at hb
        exact zs_dup_x1 C hd (Nat.eq_of_beq_eq_true hb.1) (Nat.eq_of_beq_eq_true hb.2) (hN _ _ _ _ _ h)
      · exact h.elim
    · exact h.elim
  · cases zlen_s ht
    split at h
    · split at h
      · rename_i hb
        simp only [Bool.and_eq_true] at hb
        exact zs_dup2 C hd (Nat.eq_of_beq_eq_true hb.1) (Nat.eq_of_beq_eq_true hb.2) (hN _ _ _ _ _ h)
      · exact h.elim
    · exact h.elim
  · cases zlen_s ht
    split at h
    · split at h
      · rename_i hb
        exact zs_pop C hd (Nat.eq_of_beq_eq_true hb) (hN _ _ _ _ _ h)
      · exact h.elim
    · exact h.elim
  -- branches
  · simp only [ztg, Bool.and_eq_true] at ht
    obtain ⟨t1, t2⟩ := ht; cases zlen_s t1
    split at h
    · obtain ⟨x, S', rfl, h1, h2⟩ := zbr_t h
      exact zs_if_eq C hd (ztgt_s t2 rfl) (fun q => hJ _ _ _ _ _ _ (h1 q)) (fun q => hN _ _ _ _ _ (h2 q))
    · exact h.elim
  · simp only [ztg, Bool.and_eq_true] at ht
    obtain ⟨t1, t2⟩ := ht; cases zlen_s t1
    split at h
    · obtain ⟨x, S', rfl, h1, h2⟩ := zbr_f h
      exact zs_if_ne C hd (ztgt_s t2 rfl) (fun q => hJ _ _ _ _ _ _ (h2 q)) (fun q => hN _ _ _ _ _ (h1 q))
    · exact h.elim
  · simp only [ztg, Bool.and_eq_true] at ht
    obtain ⟨t1, t2⟩ := ht; cases zlen_s t1
    split at h
    · obtain ⟨x, S', rfl, h1, h2⟩ := zbr_t h
      exact zs_if_lt C hd (ztgt_s t2 rfl) (fun q => hJ _ _ _ _ _ _ (h1 q)) (fun q => hN _ _ _ _ _ (h2 q))
    · exact h.elim
  · simp only [ztg, Bool.and_eq_true] at ht
    obtain ⟨t1, t2⟩ := ht; cases zlen_s t1
    split at h
    · obtain ⟨x, S', rfl, h1, h2⟩ := zbr_f h
      exact zs_if_ge C hd (ztgt_s t2 rfl) (fun q => hJ _ _ _ _ _ _ (h2 q)) (fun q => hN _ _ _ _ _ (h1 q))
    · exact h.elim
  · simp only [ztg, Bool.and_eq_true] at ht
    obtain ⟨t1, t2⟩ := ht; cases zlen_s t1
    split at h
    · obtain ⟨x, S', rfl, h1, h2⟩ := zbr_f h
      exact zs_if_le C hd (ztgt_s t2 rfl) (fun q => hJ _ _ _ _ _ _ (h2 q)) (fun q => hN _ _ _ _ _ (h1 q))
    · exact h.elim
  · simp only [ztg, Bool.and_eq_true] at ht
    obtain ⟨t1, t2⟩ := ht; cases zlen_s t1
    split at h
    · obtain ⟨x, S', rfl, h1, h2⟩ := zbr_t h
      exact zs_if_gt C hd (ztgt_s t2 rfl) (fun q => hJ _ _ _ _ _ _ (h1 q)) (fun q => hN _ _ _ _ _ (h2 q))
    · exact h.elim
  · simp only [ztg, Bool.and_eq_true] at ht
    obtain ⟨t1, t2⟩ := ht; cases zlen_s t1
    split at h
    · obtain ⟨x, y, S', rfl, h1, h2⟩ := zbr2_t h
      exact zs_icmp_eq C hd (ztgt_s t2 rfl) (fun q => hJ _ _ _ _ _ _ (h1 q)) (fun q => hN _ _ _ _ _ (h2 q))
    · exact h.elim
  · simp only [ztg, Bool.and_eq_true] at ht
    obtain ⟨t1, t2⟩ := ht; cases zlen_s t1
    split at h
    · obtain ⟨x, y, S', rfl, h1, h2⟩ := zbr2_f h
      exact zs_icmp_ne C hd (ztgt_s t2 rfl) (fun q => hJ _ _ _ _ _ _ (h2 q)) (fun q => hN _ _ _ _ _ (h1 q))
    · exact h.elim
  · simp only [ztg, Bool.and_eq_true] at ht
    obtain ⟨t1, t2⟩ := ht; cases zlen_s t1
    split at h
    · obtain ⟨x, y, S', rfl, h1, h2⟩ := zbr2_t h
      exact zs_icmp_lt C hd (ztgt_s t2 rfl) (fun q => hJ _ _ _ _ _ _ (h1 q)) (fun q => hN _ _ _ _ _ (h2 q))
    · exact h.elim
  · simp only [ztg, Bool.and_eq_true] at ht
    obtain ⟨t1, t2⟩ := ht; cases zlen_s t1
    split at h
    · obtain ⟨x, y, S', rfl, h1, h2⟩ := zbr2_f h
      exact zs_icmp_ge C hd (ztgt_s t2 rfl) (fun q => hJ _ _ _ _ _ _ (h2 q)) (fun q => hN _ _ _ _ _ (h1 q))
    · exact h.elim
  · simp only [ztg, Bool.and_eq_true] at ht
    obtain ⟨t1, t2⟩ := ht; cases zlen_s t1
    split at h
    · obtain ⟨x, y, S', rfl, h1, h2⟩ := zbr2_t h
      exact zs_icmp_gt C hd (ztgt_s t2 rfl) (fun q => hJ _ _ _ _ _ _ (h1 q)) (fun q => hN _ _ _ _ _ (h2 q))
    · exact h.elim
  · simp only [ztg, Bool.and_eq_true] at ht
    obtain ⟨t1, t2⟩ := ht; cases zlen_s t1
    split at h
    · obtain ⟨x, y, S', rfl, h1, h2⟩ := zbr2_f h
      exact zs_icmp_le C hd (ztgt_s t2 rfl) (fun q => hJ _ _ _ _ _ _ (h2 q)) (fun q => hN _ _ _ _ _ (h1 q))
    · exact h.elim
  · simp only [ztg, Bool.and_eq_true] at ht
    obtain ⟨t1, t2⟩ := ht; cases zlen_s t1
    split at h
    · exact zs_goto C hd (ztgt_s t2 rfl) (hJ _ _ _ _ _ _ h)
    · exact h.elim
  · split at h
    · split at h
      · exact zs_table C hd ht (fun t => hJ t _ _ _ _ _) (hJ _ _ _ _ _ _) h
      · exact h.elim
    · exact h.elim
  · split at h
    · split at h
      · exact zs_lookup C hd ht (fun t => hJ t _ _ _ _ _) (hJ _ _ _ _ _ _) h
      · exact h.elim
    · exact h.elim
  · cases zlen_s ht
    split at h
    · exact zs_lcmp C hd (fun q => hN _ _ _ _ _ (h.1 q)) (fun q z hz => hN _ _ _ _ _ (h.2 q z hz))
    · exact h.elim
  -- the heap
  · cases zlen_s ht
    obtain ⟨ci, j, a, S', o, v, h1, rfl, h2, h3, h4, h5⟩ := zgetf_s h
    exact zs_getf C hd h1 h2 h3 h4 (hN _ _ _ _ _ h5)
  · cases zlen_s ht
    obtain ⟨ci, j, a, S', v, q, o, h1, rfl, h2, h3, h4, h5, h6, h7, h8⟩ := zputf_s h
    exact zs_putf C hd h1 h2 h3 h4 h5 h6 h7 (hN _ _ _ _ _ h8)
  · cases zlen_s ht
    split at h
    · exact zs_gets C hd (by assumption) (hN _ _ _ _ _ h)
    · exact h.elim
  · cases zlen_s ht
    obtain ⟨j, a, S', rfl, ⟨n, f, h1, h2, h3⟩ | ⟨n, f, h0, h1, h2, h3⟩⟩ := zald_s h
    · exact zs_iald C hd h1 h2 (hN _ _ _ _ _ h3)
    · exact zs_sald C hd h0 h1 h2 (hN _ _ _ _ _ h3)
  · cases zlen_s ht
    obtain ⟨j, a, S', rfl, ⟨n, f, h1, h2, h3⟩ | ⟨n, f, h0, h1, h2, h3⟩⟩ := zald_s h
    · exact zs_bald C hd h1 h2 (hN _ _ _ _ _ h3)
    · exact zs_sbld C hd h0 h1 h2 (hN _ _ _ _ _ h3)
  · cases zlen_s ht
    obtain ⟨x, j, a, S', n, f, rfl, h1, h2, h3⟩ := zast_s h
    exact zs_iast C hd h1 h2 (hN _ _ _ _ _ h3)
  · cases zlen_s ht
    obtain ⟨x, j, a, S', n, f, rfl, h1, h2, h3⟩ := zast_s h
    exact zs_bast C hd h1 h2 (hN _ _ _ _ _ h3)
  · cases zlen_s ht
    obtain ⟨a, S', rfl, ⟨t, n, x, h1, h2, h3⟩ | ⟨t, n, f, h0, h1, h3⟩⟩ := zalen_s h
    · exact zs_alen C hd h1 h2 (hN _ _ _ _ _ h3)
    · exact zs_slen C hd h0 h1 (hN _ _ _ _ _ h3)
  · cases zlen_s ht
    exact znewa_sound C hd (zarr_i C) rfl rfl (fun _ _ h => h) (fun _ _ => rfl) (by decide) hN h
  · cases zlen_s ht
    exact znewa_sound C hd (zarr_b C) rfl rfl (fun _ _ h => h) (fun _ _ => rfl) (by decide) hN h
  · cases zlen_s ht
    exact znew_sound C hd hN h
  · cases zlen_s ht
    exact zinv_sound (ik := 0) C (by decide) hd hN h
  · cases zlen_s ht
    exact zinv_sound (ik := 1) C (by decide) hd hN h
  · cases zlen_s ht
    exact zinv_sound (ik := 2) C (by decide) hd hN h
  -- ends
  · cases zlen_s ht
    split at h
    · exact C.ret _ pc _ L w cu su hd rfl h
    · exact h.elim
  · cases zlen_s ht
    split at h
    · exact C.ret _ pc _ L w cu su hd rfl h
    · exact h.elim
  · cases zlen_s ht
    split at h
    · exact C.ret none pc _ L w cu su hd rfl h
    · exact h.elim
  · exact h.elim
/-- a program's rows: what each must keep -/
def zPg (Γ : zX) (P : List zE) : Prop := ∀ q ∈ P, decode Γ.cc q.1 = .ok (q.2.1, q.2.2.1) ∧ ztg q.2.1 q.1 q.2.2.1 q.2.2.2 = true
theorem zfind_s {t : Nat} : ∀ {P : List zE}, (∀ q ∈ zfind t P, q ∈ P) ∧ (∀ q r, zfind t P = q :: r → q.1 = t)
  | [] => ⟨fun _ h => absurd h List.not_mem_nil, fun _ _ h => (by cases h)⟩
  | x :: P => by
    unfold zfind
    split
    · rename_i hb
      refine ⟨fun q h => h, fun q r h => ?_⟩
      cases h
      exact Nat.eq_of_beq_eq_true hb
    · exact ⟨fun q h => List.mem_cons_of_mem _ (zfind_s.1 q h), zfind_s.2⟩
/-- the whole run: where every place of cut is safe, so is every place from which the run holds -/
theorem zwp_sound (C : zOK Γ T own) {P : List zE} (hP : zPg Γ P) {cut : List (Nat × zK)} (hcut : ∀ q ∈ cut, ∀ L S w cu su, q.2 L S w cu su → zSm Γ q.1 L S w cu su) : ∀ (n : Nat) (r : List zE), (∀ q ∈ r, q ∈ P) → ∀ (L : zL) (S : zS) (w : zW) (cu su : Nat), zwp T Γ.nL P cut n r L S w cu su → ∀ q r', r = q :: r' → zSm Γ q.1 L S w cu su := by
  intro n
  induction n with
  | zero => intro r _ L S w cu su h; cases r <;> exact h.elim
  | succ n ih =>
    intro r hr L S w cu su h q r' e
    subst e
    obtain ⟨hd, ht⟩ := hP q (hr q List.mem_cons_self)
    unfold zwp at h
    refine zi_sound C hd ht (fun L' S' w' cu' su' h1 => ?_) (fun t L' S' w' cu' su' h1 => ?_) h
    · split at h1
      · exact h1.elim
      · rename_i q' r''
        split at h1
        · rename_i hb
          have e1 := Nat.eq_of_beq_eq_true hb
          rw [← e1]
          split at h1
          · rename_i hc
            exact hcut _ (zlk_mem hc) _ _ _ _ _ h1
          · exact ih _ (fun x hx => hr x (List.mem_cons_of_mem _ hx)) _ _ _ _ _ h1 _ _ rfl
        · exact h1.elim
    · split at h1
      · rename_i hc
        exact hcut _ (zlk_mem hc) _ _ _ _ _ h1
      · cases hf : zfind t P with
        | nil => rw [hf] at h1; cases n <;> exact h1.elim
        | cons x r'' =>
          rw [hf] at h1
          have e1 := zfind_s.2 x r'' hf
          rw [← e1]
          exact ih _ (fun y hy => zfind_s.1 y (by rw [hf]; exact hy)) _ _ _ _ _ h1 _ _ rfl
/-- fewer, or other, locals are enough -/
def zsub : zL → zL → Prop
  | [], _ => True
  | q :: t, L => zlk q.1 L = some q.2 ∧ zsub t L
theorem zsub_mem : ∀ {L' L : zL}, zsub L' L → ∀ q ∈ L', zlk q.1 L = some q.2
  | [], _, _, _, hq => by cases hq
  | x :: t, L, h, q, hq => by
    rcases List.mem_cons.mp hq with e | hq
    · rw [e]; exact h.1
    · exact zsub_mem h.2 q hq
theorem zSm_sub {L' : zL} (h : zsub L' L) (k : zSm Γ pc L' S w cu su) : zSm Γ pc L S w cu su := by
  intro ad H locs ls hP hD hS hl ha
  refine k ad H locs ls hP hD hS ⟨hl.1, hl.2.1, fun q hq => ?_⟩ ha
  obtain ⟨x, hx, rfl⟩ := List.mem_map.mp hq
  exact zlk_at hl (zsub_mem h x hx)
theorem zSm_widen {k n : Nat} (h1 : cu ≤ k) (h2 : su ≤ n) (kk : zSm Γ pc L S w k n) : zSm Γ pc L S w cu su :=
  fun ad H locs ls hP hD hS hl ha => W.widen h1 h2 (kk ad H locs ls hP hD hS hl ha)
/-- two worlds that hold the same -/
def zeqE : va_E → va_E → Prop
  | .inl (t, n, .inl f), .inl (t', n', .inl f') => t = t' ∧ n = n' ∧ ∀ j, j < n → f j = f' j
  | e, e' => e = e'
theorem zSm_cells {w' : zW} (h : ∀ ad H, va_P Γ.G zCl (zcw Γ.cA ad w) H → va_P Γ.G zCl (zcw Γ.cA ad w') H) (hl : w'.length = w.length) (k : zSm Γ pc L S w' cu su) : zSm Γ pc L S w cu su := by
  intro ad H locs ls hP hD hS hl2 ha
  refine k ad H locs ls (h ad H hP) ⟨fun i j p q hi hj hpq => ?_, fun i q hq => ?_⟩ hS hl2 ha
  · obtain ⟨e1, g1, rfl⟩ := zcw_inv hi
    obtain ⟨e2, g2, rfl⟩ := zcw_inv hj
    have l1 : i < w.length := by rw [← hl]; exact (List.getElem?_eq_some_iff.mp g1).1
    have l2 : j < w.length := by rw [← hl]; exact (List.getElem?_eq_some_iff.mp g2).1
    exact hD.1 i j _ _ (zcw_get (List.getElem?_eq_getElem l1)) (zcw_get (List.getElem?_eq_getElem l2)) hpq
  · obtain ⟨e1, g1, rfl⟩ := zcw_inv hq
    have l1 : i < w.length := by rw [← hl]; exact (List.getElem?_eq_some_iff.mp g1).1
    have h9 := hD.2 i _ (zcw_get (List.getElem?_eq_getElem l1))
    exact h9
end ZR
end
section
/-! ===== CONTRACTS: what a method's call answers, over any world ===== -/
def zNest : List (String × Nat × MethodName × String) := [(RX0, 43, yX4_isCell, RX4), (RX0, 59, yX4_columnOf, RX4), (RX2, 24, yX4_depthAt, RX4)]
def zStr : List (String × Nat × String) := [(RX4, 235, "no such cell"), (RX4, 251, "out of range"), (RX4, 91, "no such place"), (RX4, 237, "no such diver"), (RX4, 257, "the diver is not free"), (RX4, 262, "too little air"), (RX4, 264, "no shape there"), (RX4, 266, "a rock"), (RX4, 129, "no room for a thing"), (RX4, 239, "no such finder"), (RX4, 158, "the shape has a finder"), (RX4, 161, "no room for a claim"), (RX4, 244, "no such claim"), (RX4, 173, "the claim does not run"), (RX4, 179, "behind the last minute"), (RX4, 247, "no such thing")]
/-- words of the tables that no good word is -/
def zOth : List Cond := [.declares ⟨"java/lang/RuntimeException", "<init>", "(Ljava/lang/String;)V"⟩, .declares ⟨"java/lang/Exception", "<init>", "(Ljava/lang/String;)V"⟩, .declares ⟨"java/lang/Throwable", "<init>", "(Ljava/lang/String;)V"⟩,
  .castable "java/lang/IndexOutOfBoundsException" "java/lang/IndexOutOfBoundsException", .castable "java/lang/IllegalArgumentException" "java/lang/IllegalArgumentException", .castable "java/lang/IllegalStateException" "java/lang/IllegalStateException"]
theorem zOth_w : ∀ w ∈ zOth, (∃ x, w = .declares x) ∨ ∃ C T, w = .castable C T := List.forall_mem_cons.mpr ⟨Or.inl ⟨_, rfl⟩, List.forall_mem_cons.mpr ⟨Or.inl ⟨_, rfl⟩, List.forall_mem_cons.mpr ⟨Or.inl ⟨_, rfl⟩, List.forall_mem_cons.mpr ⟨Or.inr ⟨_, _, rfl⟩, List.forall_mem_cons.mpr ⟨Or.inr ⟨_, _, rfl⟩, List.forall_mem_cons.mpr ⟨Or.inr ⟨_, _, rfl⟩, fun _ h => absurd h List.not_mem_nil⟩⟩⟩⟩⟩⟩
theorem zOth_warm {w : Cond} (hw : w ∈ zOth) {s U : State} (hW : s.WarmedH U.vm) (h : va_Nw w s) : va_Nw w U := by
  rcases zOth_w w hw with ⟨x, rfl⟩ | ⟨C, T, rfl⟩
  · exact va_Nw.warmD hW h
  · exact va_Nw.warmC hW h
theorem zOth_use {w : Cond} (hw : w ∈ zOth) {A : Array Value} {U : State} (h : va_Nw w U) : w.before A U = true := by
  rcases zOth_w w hw with ⟨x, rfl⟩ | ⟨C, T, rfl⟩
  · exact va_Nw.use rfl h
  · exact va_Nw.use rfl h
/-- which exceptions are no others -/
def zNc : List (String × String) := []
def zOnes (j : Nat) : Int32 := nI (48 + j % 10)
def zTens (j : Nat) : Int32 := nI (48 + j / 10)
/-- the tables' words, the texts, the static fields: what no call changes -/
def zEnv (G : va_G) (cA : Nat → ClassId) (ad : Nat → Nat) (U : State) (A : Nat → Prop) (H : Heap) : Prop :=
  (∀ w ∈ zTs, w.before #[] U = true) ∧ ((∀ q ∈ zNest, va_Nw (.methodLinkNest q.1 q.2.1 q.2.2.1 q.2.2.2) U) ∧ (∀ x ∈ zOth, va_Nw x U) ∧ ∃ (L : Nat) (xs : Nat → Int32), L < 2 ^ 31 ∧ va_T .int (ad 1000) L (fun j => .int (xs j)) A U H) ∧ (∀ q ∈ zStr, ∃ a, vk_R q.1 q.2.1 q.2.2 a U) ∧ vx_Zq Bundle.tN "UNASSIGNED_STACK" Bundle.steD A U H ∧ vx_Zq Bundle.tN "SUPPRESSED_SENTINEL" Bundle.listD A U H ∧
  va_Z "java/lang/String" "COMPACT_STRINGS" "Z" (.int 1) A U H ∧ (∃ v0 : Value, (v0 = .null ∨ v0 = .ref 1001) ∧ va_Z "jdk/internal/util/Preconditions" "SIOOBE_FORMATTER" "Ljava/util/function/BiFunction;" (zcv ad v0) A U H) ∧ va_K G zCl (ztys cA) U ∧
  (va_Z "java/lang/Integer" "DigitOnes" "[B" (.ref (ad 1002)) A U H ∧ va_T .byte (ad 1002) 100 (fun j => .int (zOnes j)) A U H) ∧ (va_Z "java/lang/Integer" "DigitTens" "[B" (.ref (ad 1003)) A U H ∧ va_T .byte (ad 1003) 100 (fun j => .int (zTens j)) A U H)
theorem zgood {w : Cond} (h : w ∈ zTs) : goodWord w = true := (List.mem_filter.mp h).2
theorem zEnv.next {G : va_G} {cA : Nat → ClassId} {ad ad' : Nat → Nat} {s U : State} {A B : Nat → Prop} {H H1 : Heap} (h : zEnv G cA ad s A H) (hW : s.WarmedH U.vm) (hk : ∀ a : Nat, a < H.size → ¬ A a → H1[a]? = H[a]?) (hAB : ∀ q, B q → A q) (ha : ∀ k, 1000 ≤ k → ad' k = ad k) : zEnv G cA ad' U B H1 := by
  obtain ⟨h1, h2, h3, h4, h5, h6, ⟨v0, h7, h8⟩, h9, ⟨h10, h11⟩, ⟨h12, h13⟩⟩ := h
  have hvm := hW.alike
  refine ⟨fun w hw => word_at hW (good_of_word (zgood hw)) (h1 w hw), ⟨fun q hq => va_Nw.warmM hW (h2.1 q hq), fun x hx => zOth_warm hx hW (h2.2.1 x hx), (by obtain ⟨L, xs, hL, hT⟩ := h2.2.2; exact ⟨L, xs, hL, by rw [ha 1000 (by decide)]; exact ((hT.kept hk).narrow hAB).moved hvm⟩)⟩, fun q hq => ?_, ((h4.kept hk).narrow hAB).moved hvm, ((h5.kept hk).narrow hAB).moved hvm, ((h6.kept hk).narrow hAB).moved hvm, ⟨v0, h7, ?_⟩, h9.moved hvm, ⟨?_, ?_⟩, ⟨?_, ?_⟩⟩
  · obtain ⟨a, ha⟩ := h3 q hq
    exact ⟨a, vk_R.warm hW ha⟩
  · have e : zcv ad' v0 = zcv ad v0 := by
      rcases h7 with rfl | rfl
      · rfl
      · exact congrArg Value.ref (ha 1001 (by decide))
    rw [e]
    exact ((h8.kept hk).narrow hAB).moved hvm
  · rw [ha 1002 (by decide)]
    exact ((h10.kept hk).narrow hAB).moved hvm
  · rw [ha 1002 (by decide)]
    exact ((h11.kept hk).narrow hAB).moved hvm
  · rw [ha 1003 (by decide)]
    exact ((h12.kept hk).narrow hAB).moved hvm
  · rw [ha 1003 (by decide)]
    exact ((h13.kept hk).narrow hAB).moved hvm
def zRm (d mc ms : Nat) : Room := { frames := 4 + d, cells := mc, slots := ms, locals := 140 + 39 * d }
def zPre (G : va_G) (cA : Nat → ClassId) (ad : Nat → Nat) (w : zW) (sz : Nat) (args : zS) : Array Value → State → Prop :=
  va_Pc (args.map (zcv ad)) (fun U => U.heap.size = sz ∧ va_P G zCl (zcw cA ad w) U.heap ∧ va_D (fun _ => True) (zcw cA ad w) ∧ zEnv G cA ad U (va_A (zcw cA ad w) sz) U.heap)
def zQc (G : va_G) (cA : Nat → ClassId) (ad : Nat → Nat) (w : zW) (sz : Nat) (al : Bool) (Q : Option Value → zW → Prop) : Array Value → State → Outcome → State → Prop := fun _ st oc t =>
  (∃ (r : Option Value) (w' : zW) (ad' : Nat → Nat), oc = .returned (r.map (zcv ad')) ∧ Q r w' ∧ zag al w.length ad ad' ∧ va_P G zCl (zcw cA ad' w') t.heap ∧ va_D (va_A (zcw cA ad w) sz) (zcw cA ad' w')) ∧ va_F (va_A (zcw cA ad w) sz) st t
def zXc (G : va_G) (cA : Nat → ClassId) (ad : Nat → Nat) (w : zW) (sz : Nat) (al : Bool) (X : String → zW → Prop) : String → State → State → Prop := fun E st t =>
  (∃ (w' : zW) (ad' : Nat → Nat), X E w' ∧ zag al w.length ad ad' ∧ va_P G zCl (zcw cA ad' w') t.heap ∧ va_D (va_A (zcw cA ad w) sz) (zcw cA ad' w')) ∧ va_F (va_A (zcw cA ad w) sz) st t
/-- the contract of method y, at depth d, of mc cells and ms slots -/
def CT (l : Launch) (y : MethodName) (wd : Cond) (d mc ms : Nat) (al : Bool) (Sp : zSpec) : Prop :=
  ∀ (G : va_G) (cA : Nat → ClassId) (ad : Nat → Nat) (w : zW) (args : zS) (sz : Nat) (Q : Option Value → zW → Prop) (X : String → zW → Prop), Sp args w Q X → vx_Met l y [wd] (zRm d mc ms) (zPre G cA ad w sz args) (zQc G cA ad w sz al Q) (zXc G cA ad w sz al X) mc ms (va_A (zcw cA ad w) sz)
/-- what a thrown exception owes -/
def zExcOK (Γ : zX) (T : zT) : Prop := ∀ (pc : Nat) (E : String) (L : zL) (S : zS) (w : zW) (cu su : Nat), T.exc pc E L w cu su → ∀ (ad : Nat → Nat) (H : Heap) (locs : List Loc) (ls : Array Slot) (ce : Cell) (q9 : Addr), va_P Γ.G zCl (zcw Γ.cA ad w) H → va_D Γ.A (zcw Γ.cA ad w) → va_S Γ.A Γ.s.heap H locs → lv_has ls Γ.nL (zcl ad L) → zag Γ.al Γ.n0 Γ.ad ad → H[q9]? = some ce → ce.vm = .none → Γ.s.vm.findClass E = some ce.cls →
  vx_W Γ.p Γ.l Γ.e Γ.R Γ.s Γ.m Γ.args Γ.below Γ.meth Γ.c H locs cu su Γ.Q (F0 Γ.m pc ls (S.map (zcv ad))) q9
/-- what calls stand on -/
def zBase (Γ : zX) (T : zT) (l : Launch) (own : String) (d : Nat) : Prop :=
  Γ.l = l ∧ Γ.p.tables.exec = Jvm.exec ∧ Γ.c.code = Γ.cc ∧ Γ.c.maxLocals = Γ.nL ∧ Γ.s.vm.findClass own = some Γ.m.cls ∧ zEnv Γ.G Γ.cA Γ.ad Γ.s Γ.A Γ.s.heap ∧ 4 + d ≤ Γ.R.frames ∧ 140 + 39 * d ≤ Γ.R.locals ∧ (∀ q, Γ.s.heap.size ≤ q → Γ.A q) ∧ T.rc ≤ Γ.R.cells ∧ T.rs ≤ Γ.R.slots ∧ T.al = Γ.al ∧ T.n0 = Γ.n0 ∧ zExcOK Γ T
def zCallable (l : Launch) (own : String) (d : Nat) (q : Nat × zCall) : Prop := ∀ (Γ : zX) (T : zT), zBase Γ T l own d → zCallOK Γ T q
theorem zpop_s : ∀ {n : Nat} {S acc as S' : zS}, zpop n S acc = some (as, S') → ∃ p : zS, p.length = n ∧ S = p ++ S' ∧ as = p.reverse ++ acc
  | 0, S, acc, as, S', h => by
    cases h
    exact ⟨[], rfl, rfl, rfl⟩
  | n + 1, v :: S, acc, as, S', h => by
    obtain ⟨p, h1, h2, h3⟩ := zpop_s (n := n) (S := S) (acc := v :: acc) h
    exact ⟨v :: p, by simp [h1], by simp [h2], by simp [h3]⟩
  | _ + 1, [], _, _, _, h => by cases h
theorem zpop_top {n : Nat} {S as S' : zS} (h : zpop n S [] = some (as, S')) : as.length = n ∧ S = as.reverse ++ S' := by
  obtain ⟨p, h1, h2, h3⟩ := zpop_s h
  rw [List.append_nil] at h3
  subst h3
  exact ⟨by simp [h1], by simp [h2]⟩
theorem zcl_ag {ad ad' : Nat → Nat} {n : Nat} (h : ∀ k, (k < n ∨ 1000 ≤ k) → ad' k = ad k) {v : Value} (hv : zbV n v = true) : zcv ad' v = zcv ad v := by
  cases v <;> try rfl
  rename_i k
  simp only [zbV, Bool.or_eq_true] at hv
  exact congrArg Value.ref (h k (hv.elim (fun q => Or.inl (zblt q)) (fun q => Or.inr (Nat.le_of_ble_eq_true q))))
theorem zcS_ag {ad ad' : Nat → Nat} {n : Nat} (h : ∀ k, (k < n ∨ 1000 ≤ k) → ad' k = ad k) : ∀ {S : zS}, zbS n S = true → S.map (zcv ad') = S.map (zcv ad)
  | [], _ => rfl
  | v :: t, hv => by
    simp only [zbS, Bool.and_eq_true] at hv
    simp only [List.map_cons, zcl_ag h hv.1, zcS_ag h hv.2]
theorem zcL_ag {ad ad' : Nat → Nat} {n : Nat} (h : ∀ k, (k < n ∨ 1000 ≤ k) → ad' k = ad k) : ∀ {L : zL}, zbL n L = true → zcl ad' L = zcl ad L
  | [], _ => rfl
  | v :: t, hv => by
    simp only [zbL, Bool.and_eq_true] at hv
    have e := zcL_ag h hv.2
    unfold zcl at e ⊢
    simp only [List.map_cons, zcl_ag h hv.1, e]
/-- behind a call: the locals, the rest of the stack, the addresses -/
theorem zafter {Γ : zX} {T : zT} {al : Bool} {w : zW} {L : zL} {S' : zS} {ad ad' : Nat → Nat} (hTa : T.al = Γ.al) (hTn : T.n0 = Γ.n0) (hal : al = true → T.al = true ∧ T.n0 ≤ w.length ∧ zbL w.length L = true ∧ zbS w.length S' = true) (hag : zag al w.length ad ad') (ha : zag Γ.al Γ.n0 Γ.ad ad) : zcl ad' L = zcl ad L ∧ S'.map (zcv ad') = S'.map (zcv ad) ∧ zag Γ.al Γ.n0 Γ.ad ad' := by
  cases al with
  | false =>
    have e : ad' = ad := funext fun k => hag k (Or.inl rfl)
    subst e
    exact ⟨rfl, rfl, ha⟩
  | true =>
    obtain ⟨a1, a2, a3, a4⟩ := hal rfl
    have h : ∀ k, (k < w.length ∨ 1000 ≤ k) → ad' k = ad k := fun k hk => hag k (Or.inr hk)
    refine ⟨zcL_ag h a3, zcS_ag h a4, fun k hk => ?_⟩
    rw [hTn] at a2
    rw [hTa] at a1
    have hk' : k < w.length ∨ 1000 ≤ k := by
      rcases hk with hk | hk | hk
      · rw [a1] at hk; cases hk
      · exact Or.inl (Nat.lt_of_lt_of_le hk a2)
      · exact Or.inr hk
    rw [h k hk']
    exact ha k hk
theorem zvaA {A0 : Nat → Prop} {ws : va_W} {H0 H : Heap} {locs : List Loc} (hD : va_D A0 ws) (hS : va_S A0 H0 H locs) (hA : ∀ q, H0.size ≤ q → A0 q) : ∀ q, va_A ws H.size q → A0 q := by
  intro q h
  rcases h with ⟨k, e, h⟩ | h
  · exact hD.2 k (q, e) h
  · exact hA q (Nat.le_trans hS.1 h)
section ZC
variable {Γ : zX} {T : zT} {l : Launch} {own : String} {d pc : Nat} {L : zL} {S S' : zS} {w : zW} {cu su : Nat}
theorem zcall_fin (B : zBase Γ T l own d) {al : Bool} {mc ms : Nat} {QN : Option Value → zW → Prop} {a : Array Value} {ad : Nat → Nat} {H : Heap} {locs : List Loc} {ls : Array Slot} (hP : va_P Γ.G zCl (zcw Γ.cA ad w) H) (hD : va_D Γ.A (zcw Γ.cA ad w)) (hS : va_S Γ.A Γ.s.heap H locs) (hl : lv_has ls Γ.nL (zcl ad L)) (ha : zag Γ.al Γ.n0 Γ.ad ad)
    (hal : al = true → T.al = true ∧ T.n0 ≤ w.length ∧ zbL w.length L = true ∧ zbS w.length S' = true) (hN : ∀ r w', QN r w' → zSm Γ (pc + 3) L (zpush r S') w' (cu + mc) (su + ms))
    (run : vx_Run Γ.p Γ.l Γ.e Γ.R Γ.s Γ.m Γ.args Γ.below Γ.meth Γ.c H locs cu su mc ms (F0 Γ.m pc ls (S.map (zcv ad))) (S'.map (zcv ad)) (zQc Γ.G Γ.cA ad w H.size al QN a) (zXc Γ.G Γ.cA ad w H.size al (fun E w' => T.exc pc E L w' (cu + mc) (su + ms))) (va_A (zcw Γ.cA ad w) H.size)) :
    W Γ.p Γ.l Γ.e Γ.R Γ.s Γ.m Γ.args Γ.below Γ.meth Γ.c H locs cu su Γ.Q (F0 Γ.m pc ls (S.map (zcv ad))) := by
  obtain ⟨-, -, -, -, -, -, -, -, hA, -, -, hTa, hTn, hex⟩ := B
  have hsub := zvaA hD hS hA
  intro U hT X
  rcases run U hT X with ⟨v, st₀, t, T', Lc, h0, X', hL, e1, e2, ⟨⟨r, w', ad', hv, hq, hag, hP1, hD1⟩, hF⟩, st⟩ | ⟨q, st₀, t, T', Lc, E, ce, h0, X', hL, e1, e2, ⟨⟨w', ad', hq, hag, hP1, hD1⟩, hF⟩, hce, hcv, hcl, st⟩
  · obtain ⟨k1, k2, k3⟩ := vx_keep h0 e1 hS (fun q _ h => hsub q h) hsub hL hF
    obtain ⟨f1, f2, f3⟩ := zafter hTa hTn hal hag ha
    cases hv
    have h9 := hN r w' hq ad' T'.heap (locs ++ Lc) ls (by rw [e1]; exact hP1) (hD1.weaken (fun _ q _ h => hsub q.1 h)) k3 (by rw [f1]; exact hl) f3
    obtain ⟨t2, a1, b1⟩ := h9 T' rfl X'
    refine ⟨t2, st t2 ?_, b1⟩
    have e9 : (zpush r S').map (zcv ad') = (r.map (zcv ad')).toList ++ S'.map (zcv ad) := by
      cases r with
      | none => exact f2
      | some v => exact congrArg (List.cons (zcv ad' v)) f2
    rw [e9] at a1
    exact a1
  · obtain ⟨k1, k2, k3⟩ := vx_keep h0 e1 hS (fun q _ h => hsub q h) hsub hL hF
    obtain ⟨f1, f2, f3⟩ := zafter hTa hTn hal hag ha
    have h9 := hex pc E L S' w' _ _ hq ad' T'.heap (locs ++ Lc) ls ce q (by rw [e1]; exact hP1) (hD1.weaken (fun _ q _ h => hsub q.1 h)) k3 (by rw [f1]; exact hl) f3 (by rw [e1]; exact hce) hcv hcl
    rw [f2] at h9
    obtain ⟨t2, a1, b1⟩ := h9 T' rfl X'
    exact ⟨t2, st.trans a1, b1⟩
theorem zpre_blind {G : va_G} {cA : Nat → ClassId} {ad : Nat → Nat} {sz : Nat} {args : zS} : FrameBlind (zPre G cA ad w sz args) := by
  intro a U g mk h
  obtain ⟨h1, h2, h3, h4, h5⟩ := h
  exact ⟨h1, h2, h3, h4, h5.next (U := U.calling g mk a) (State.WarmedH.refl U) (fun _ _ _ => rfl) (fun _ h => h) (fun _ _ => rfl)⟩
theorem zpre_at (B : zBase Γ T l own d) {ad : Nat → Nat} {H : Heap} {locs : List Loc} {as : zS} (hP : va_P Γ.G zCl (zcw Γ.cA ad w) H) (hD : va_D Γ.A (zcw Γ.cA ad w)) (hS : va_S Γ.A Γ.s.heap H locs) (ha : zag Γ.al Γ.n0 Γ.ad ad) {U : State} (hU : U.heap = H) (hW : Γ.s.WarmedH U.vm) : zPre Γ.G Γ.cA ad w H.size as (as.map (zcv ad)).toArray U := by
  obtain ⟨-, -, -, -, -, hE, -, -, hA, -⟩ := B
  refine ⟨rfl, by rw [hU], by rw [hU]; exact hP, hD.weaken (fun _ _ _ _ => trivial), ?_⟩
  rw [hU]
  exact hE.next hW hS.2.1 (zvaA hD hS hA) (fun k hk => ha k (Or.inr (Or.inr hk)))
theorem zts {Γ : zX} {T : zT} {l : Launch} {own : String} {d : Nat} (B : zBase Γ T l own d) : ∀ w ∈ zTs, w.before Γ.args Γ.s = true := fun w hw => word_at (State.WarmedH.refl Γ.s) (good_of_word (zgood hw)) (B.2.2.2.2.2.1.1 w hw)
theorem zgi {wd : Cond} (h : wd ∈ zTs) : GoodIn zTs [wd] := fun w hw => by
  rw [List.mem_singleton.mp hw]
  exact ⟨h, good_of_word (zgood h)⟩
theorem zgi_app {a b : List Cond} (ha : ∀ w ∈ a, w ∈ zTs) (hb : ∀ w ∈ b, w ∈ zTs) : GoodIn zTs (a ++ b) := fun w hw => by
  have h : w ∈ zTs := (List.mem_append.mp hw).elim (ha w) (hb w)
  exact ⟨h, good_of_word (zgood h)⟩
theorem zroom {l : Launch} {own : String} (B : zBase Γ T l own d) {d' maxL mc ms : Nat} (hd : d' < d) (hm : maxL ≤ 20) : (zRm d' mc ms).frames + 1 ≤ Γ.R.frames ∧ 8 + (maxL + 11) + (zRm d' mc ms).locals ≤ Γ.R.locals := by
  obtain ⟨-, -, -, -, -, -, h1, h2, -⟩ := B
  simp only [zRm]
  omega
theorem zmon {m : MethodId} {pc : Nat} {ls : Array Slot} {st : List Value} {ad : Nat → Nat} {S' : zS} (h : zcat S' ≤ 8) : 2 * (F0 m pc ls st).monitorRoom + ((S'.map (zcv ad)).map fun v => v.category).sum ≤ 8 := lv_room (rest := st) (by rw [zcat_map]; exact h)
end ZC
end
section
/-! ===== CALLS: of each kind, by the callee's contract ===== -/
section ZK
variable {l : Launch} {own : String} {d idx d' maxL mc ms n ci : Nat} {al : Bool} {Sp : zSpec} {y : MethodName} {bytes : ByteArray} {ret : Option FieldType} {ps : List Nat}
theorem zins_good {ws : List Cond} (h : zins ps ws = true) : GoodIn zTs ws := fun w hw => ⟨zins_in h w hw, good_of_word (zgood (zins_in h w hw))⟩
theorem zrcv_s {as : zS} {w : zW} (h : zrcv (some ci) as w = true) : ∃ k as' o, as = .ref k :: as' ∧ w[k]? = some (.inr o) ∧ o.1 = ci := by
  unfold zrcv at h
  split at h
  · rename_i h0; cases h0
  · rename_i h0
    cases h0
    split at h
    · split at h
      · exact ⟨_, _, _, rfl, by assumption, Nat.eq_of_beq_eq_true h⟩
      · cases h
    · cases h
theorem zstk {as S' : zS} {ad : Nat → Nat} {k : Nat} : ((Value.ref k :: as).reverse ++ S').map (zcv ad) = (as.map (zcv ad)).reverse ++ .ref (ad k) :: S'.map (zcv ad) := by
  simp [List.map_append, List.map_reverse, zcv]
theorem zstkS {as S' : zS} {ad : Nat → Nat} : (as.reverse ++ S').map (zcv ad) = (as.map (zcv ad)).reverse ++ S'.map (zcv ad) := by
  simp [List.map_append, List.map_reverse]
set_option maxHeartbeats 2000000 in
theorem zcV {C : vw_C} (hM : CT l y (.code y bytes maxL ret) d' mc ms al Sp) (hz : zins ps (wsV own idx C.1 y [.code y bytes maxL ret]) = true) (hc : zCl[ci]? = some C) (hy : y.cls = C.1 ∧ y.cls ≠ "java/lang/invoke/MethodHandle" ∧ y.cls ≠ "java/lang/invoke/VarHandle" ∧ (parseMethodDescriptor y.desc).map (fun d => d.parameters.length) = some n) (hd : d' < d) (hm : maxL ≤ 20) : zCallable l own d (idx, 0, n + 1, some ci, mc, ms, al, Sp) := by
  intro Γ T B pc L S as S' w cu su QN _ hd2 hp hrc hcat hcu hsu hal hN hSp ad H locs ls hP hD hS hl ha
  obtain ⟨hlen, rfl⟩ := zpop_top hp
  obtain ⟨k, as', o, rfl, hw, rfl⟩ := zrcv_s hrc
  obtain ⟨e1, hx, hb, hml, hown, hE, hRf, hRl, hA, hrC, hrS, hTa, hTn, hex⟩ := id B
  subst e1
  have M := hM Γ.G Γ.cA ad w (.ref k :: as') H.size QN _ hSp
  exact zcall_fin B hP hD hS hl ha hal hN (vx_runV (As := as'.map (zcv ad)) (rest := S'.map (zcv ad)) (b := ad k) ⟨hx, hb, hml, hown, zts B⟩ M (cwV n (zts B) (zins_good hz) rfl rfl rfl hy (zroom B hd hm)) ⟨zpre_blind, va_recv hE.2.2.2.2.2.2.2.1 hP hc (zcw_get hw), fun U hU hW => zpre_at (as := .ref k :: as') B hP hD hS ha hU hW⟩ rfl (by rw [List.length_map]; simpa using hlen) hl.1 zstk (zmon hcat) hd2 ⟨Nat.le_trans hcu hrC, Nat.le_trans hsu hrS⟩)
set_option maxHeartbeats 2000000 in
theorem zcS (hM : CT l y (.code y bytes maxL ret) d' mc ms al Sp) (hz : zins ps (va_wsS own idx y [.code y bytes maxL ret]) = true) (hy : y.cls ≠ "java/lang/invoke/MethodHandle" ∧ y.cls ≠ "java/lang/invoke/VarHandle" ∧ (parseMethodDescriptor y.desc).map (fun d => d.parameters.length) = some n) (hd : d' < d) (hm : maxL ≤ 20) : zCallable l own d (idx, 1, n, none, mc, ms, al, Sp) := by
  intro Γ T B pc L S as S' w cu su QN _ hd2 hp hrc hcat hcu hsu hal hN hSp ad H locs ls hP hD hS hl ha
  obtain ⟨hlen, rfl⟩ := zpop_top hp
  obtain ⟨e1, hx, hb, hml, hown, hE, hRf, hRl, hA, hrC, hrS, hTa, hTn, hex⟩ := id B
  subst e1
  have M := hM Γ.G Γ.cA ad w as H.size QN _ hSp
  exact zcall_fin B hP hD hS hl ha hal hN (vx_runS (As := as.map (zcv ad)) (rest := S'.map (zcv ad)) ⟨hx, hb, hml, hown, zts B⟩ M (va_cwS n (zts B) (zins_good hz) rfl rfl rfl hy (zroom B hd hm)) ⟨zpre_blind, fun U hU hW => zpre_at B hP hD hS ha hU hW⟩ rfl (by rw [List.length_map]; exact hlen) hl.1 zstkS (zmon hcat) hd2 ⟨Nat.le_trans hcu hrC, Nat.le_trans hsu hrS⟩)
set_option maxHeartbeats 2000000 in
theorem zcI (hM : CT l y (.code y bytes maxL none) d' mc ms al Sp) (hz : zins ps [.methodLink own idx y, .instanceMethod y, .initialized y.cls, .code y bytes maxL none] = true) (hy1 : y.name = "<init>") (hy : y.cls ≠ "java/lang/invoke/MethodHandle" ∧ y.cls ≠ "java/lang/invoke/VarHandle" ∧ (parseMethodDescriptor y.desc).map (fun d => d.parameters.length) = some n) (hd : d' < d) (hm : maxL ≤ 20) : zCallable l own d (idx, 2, n + 1, some ci, mc, ms, al, Sp) := by
  intro Γ T B pc L S as S' w cu su QN _ hd2 hp hrc hcat hcu hsu hal hN hSp ad H locs ls hP hD hS hl ha
  obtain ⟨hlen, rfl⟩ := zpop_top hp
  obtain ⟨k, as', o, rfl, hw, rfl⟩ := zrcv_s hrc
  obtain ⟨e1, hx, hb, hml, hown, hE, hRf, hRl, hA, hrC, hrS, hTa, hTn, hex⟩ := id B
  subst e1
  have M := hM Γ.G Γ.cA ad w (.ref k :: as') H.size QN _ hSp
  have hm9 : ∀ w ∈ [Cond.methodLink own idx y, .instanceMethod y, .initialized y.cls, .code y bytes maxL none], w.before Γ.args Γ.s = true := fun w hw => zts B w (zins_in hz w hw)
  exact zcall_fin B hP hD hS hl ha hal hN (vx_runI (As := as'.map (zcv ad)) (rest := S'.map (zcv ad)) (b := ad k) ⟨hx, hb, hml, hown, zts B⟩ M (cwI n (zts B) (zgi (zins_in hz _ (by simp))) rfl rfl rfl (hm9 _ (by simp)) (hm9 _ (by simp)) (hm9 _ (by simp)) hy1 hy (zroom B hd hm)) ⟨zpre_blind, fun U hU hW => zpre_at (as := .ref k :: as') B hP hD hS ha hU hW⟩ rfl (by rw [List.length_map]; simpa using hlen) hl.1 zstk (zmon hcat) hd2 ⟨Nat.le_trans hcu hrC, Nat.le_trans hsu hrS⟩)
set_option maxHeartbeats 2000000 in
theorem zcN {host : String} (hM : CT l y (.code y bytes maxL ret) d' mc ms al Sp) (hz : zins ps [.static y, .initialized y.cls, .code y bytes maxL ret] = true) (hn : (own, idx, y, host) ∈ zNest) (hy : y.cls ≠ "java/lang/invoke/MethodHandle" ∧ y.cls ≠ "java/lang/invoke/VarHandle" ∧ (parseMethodDescriptor y.desc).map (fun d => d.parameters.length) = some n) (hd : d' < d) (hm : maxL ≤ 20) : zCallable l own d (idx, 1, n, none, mc, ms, al, Sp) := by
  intro Γ T B pc L S as S' w cu su QN _ hd2 hp hrc hcat hcu hsu hal hN hSp ad H locs ls hP hD hS hl ha
  obtain ⟨hlen, rfl⟩ := zpop_top hp
  obtain ⟨e1, hx, hb, hml, hown, hE, hRf, hRl, hA, hrC, hrS, hTa, hTn, hex⟩ := id B
  subst e1
  have M := hM Γ.G Γ.cA ad w as H.size QN _ hSp
  have hm9 : ∀ w ∈ [Cond.static y, .initialized y.cls, .code y bytes maxL ret], w.before Γ.args Γ.s = true := fun w hw => zts B w (zins_in hz w hw)
  exact zcall_fin B hP hD hS hl ha hal hN (vx_runSN (host := host) (As := as.map (zcv ad)) (rest := S'.map (zcv ad)) ⟨hx, hb, hml, hown, zts B⟩ M ⟨va_cnB n (zts B) (zgi (zins_in hz _ (by simp))) rfl rfl rfl (hE.2.1.1 _ hn) (hm9 _ (by simp)) hy (zroom B hd hm), hm9 _ (by simp), trivial⟩ ⟨zpre_blind, fun U hU hW => zpre_at B hP hD hS ha hU hW⟩ rfl (by rw [List.length_map]; exact hlen) hl.1 zstkS (zmon hcat) hd2 ⟨Nat.le_trans hcu hrC, Nat.le_trans hsu hrS⟩)
set_option maxHeartbeats 2000000 in
theorem zcU {C : vw_C} {x : MethodName} {owner : String} (hM : CT l y (.code y bytes maxL ret) d' mc ms al Sp) (hz : zins ps (va_wsU own idx C.1 owner x y [.code y bytes maxL ret]) = true) (hc : zCl[ci]? = some C) (hyx : y = ⟨owner, x.name, x.desc⟩) (hy : owner ≠ "java/lang/invoke/MethodHandle" ∧ owner ≠ "java/lang/invoke/VarHandle" ∧ (parseMethodDescriptor x.desc).map (fun d => d.parameters.length) = some n) (hd : d' < d) (hm : maxL ≤ 20) : zCallable l own d (idx, 0, n + 1, some ci, mc, ms, al, Sp) := by
  intro Γ T B pc L S as S' w cu su QN _ hd2 hp hrc hcat hcu hsu hal hN hSp ad H locs ls hP hD hS hl ha
  obtain ⟨hlen, rfl⟩ := zpop_top hp
  obtain ⟨k, as', o, rfl, hw, rfl⟩ := zrcv_s hrc
  obtain ⟨e1, hx, hb, hml, hown, hE, hRf, hRl, hA, hrC, hrS, hTa, hTn, hex⟩ := id B
  subst e1
  have M := hM Γ.G Γ.cA ad w (.ref k :: as') H.size QN _ hSp
  exact zcall_fin B hP hD hS hl ha hal hN (vx_runU (As := as'.map (zcv ad)) (rest := S'.map (zcv ad)) (b := ad k) ⟨hx, hb, hml, hown, zts B⟩ M (va_cwU n (zts B) (zins_good hz) rfl rfl rfl hyx hy (zroom B hd hm)) ⟨zpre_blind, va_recv hE.2.2.2.2.2.2.2.1 hP hc (zcw_get hw), fun U hU hW => zpre_at (as := .ref k :: as') B hP hD hS ha hU hW⟩ rfl (by rw [List.length_map]; simpa using hlen) hl.1 zstk (zmon hcat) hd2 ⟨Nat.le_trans hcu hrC, Nat.le_trans hsu hrS⟩)
set_option maxHeartbeats 2000000 in
theorem zcSU {C : vw_C} (hM : CT l y (.code y bytes maxL ret) d' mc ms al Sp) (hz : zins ps (va_wsSU own idx y [.code y bytes maxL ret]) = true) (hc : zCl[ci]? = some C) (hy : y.name ≠ "<init>" ∧ (parseMethodDescriptor y.desc).map (fun d => d.parameters.length) = some n) (hd : d' < d) (hm : maxL ≤ 20) : zCallable l own d (idx, 2, n + 1, some ci, mc, ms, al, Sp) := by
  intro Γ T B pc L S as S' w cu su QN _ hd2 hp hrc hcat hcu hsu hal hN hSp ad H locs ls hP hD hS hl ha
  obtain ⟨hlen, rfl⟩ := zpop_top hp
  obtain ⟨k, as', o, rfl, hw, rfl⟩ := zrcv_s hrc
  obtain ⟨e1, hx, hb, hml, hown, hE, hRf, hRl, hA, hrC, hrS, hTa, hTn, hex⟩ := id B
  subst e1
  have M := hM Γ.G Γ.cA ad w (.ref k :: as') H.size QN _ hSp
  exact zcall_fin B hP hD hS hl ha hal hN (vx_runSU (As := as'.map (zcv ad)) (rest := S'.map (zcv ad)) (b := ad k) ((hE.2.2.2.2.2.2.2.1.1 _ C hc).2) ⟨hx, hb, hml, hown, zts B⟩ M (va_cwSU n (zts B) (zins_good hz) rfl rfl rfl hy (zroom B hd hm)) ⟨zpre_blind, va_recv hE.2.2.2.2.2.2.2.1 hP hc (zcw_get hw), fun U hU hW => zpre_at (as := .ref k :: as') B hP hD hS ha hU hW⟩ rfl (by rw [List.length_map]; simpa using hlen) hl.1 zstk (zmon hcat) hd2 ⟨Nat.le_trans hcu hrC, Nat.le_trans hsu hrS⟩)
/-- the constructor of java.lang.Object -/
theorem zcO (hz : zins ps [.methodLink own idx Lib.objectInit, .instanceMethod Lib.objectInit, .code Lib.objectInit ⟨#[0xb1]⟩ 1 none] = true) (hd : 0 < d) : zCallable l own d (idx, 2, 1, some ci, 0, 0, false, fun _ w Q _ => Q none w) := by
  intro Γ T B pc L S as S' w cu su QN _ hd2 hp hrc hcat hcu hsu hal hN hSp ad H locs ls hP hD hS hl ha
  obtain ⟨hlen, rfl⟩ := zpop_top hp
  obtain ⟨k, as', o, rfl, hw, rfl⟩ := zrcv_s hrc
  obtain ⟨e1, hx, hb, hml, hown, hE, hRf, hRl, hA, hrC, hrS, hTa, hTn, hex⟩ := id B
  have has : as' = [] := List.length_eq_zero_iff.mp (by simpa using hlen)
  subst has
  have hm9 : ∀ w ∈ [Cond.methodLink own idx Lib.objectInit, .instanceMethod Lib.objectInit, .code Lib.objectInit ⟨#[0xb1]⟩ 1 none], w.before Γ.args Γ.s = true := fun w hw => zts B w (zins_in hz w hw)
  have h9 := hN none w hSp ad H locs ls hP hD hS hl ha
  refine W.objInit hx hb hown (hm9 _ (by simp)) (hm9 _ (by simp)) (hm9 _ (by simp)) rfl (hl.1.trans hml.symm) (a := ad k) (rest := S'.map (zcv ad)) rfl hd2 (by omega) ?_ h9
  have h8 : 2 * (F0 Γ.m pc ls ([] : List Value)).monitorRoom + ((S'.map (zcv ad)).map fun v => v.category).sum ≤ 8 := zmon (st := []) hcat
  have h7 : (F0 Γ.m pc ls (List.map (zcv ad) ([Value.ref k].reverse ++ S'))).monitorRoom = (F0 Γ.m pc ls ([] : List Value)).monitorRoom := rfl
  rw [h7]
  omega
end ZK
end
section
/-! ===== A METHOD: from the run of the abstract machine to its contract ===== -/
/-- the words of a throw that no good word holds -/
def zthw (own : String) (ic : Nat) (cls : String) (names : List String) : Bool := (vx_atS own ic cls names).all (fun w => vx_ot w && (decide (w ∈ lw_tbl) && goodWord w || decide (w ∈ zOth)))
/-- at pc: throw new cls(text) -/
def zThrow (cc : ByteArray) (own : String) (q : Nat × String) : Prop := ∃ (text : String) (ik is ic : Nat) (ps : List Nat),
  Bundle.fit q.2 = true ∧ zins ps [.classLink own ik q.2, .initialized q.2] = true ∧ (own, is, text) ∈ zStr ∧ zthw own ic q.2 ["java/lang/RuntimeException", "java/lang/Exception"] = true ∧
  decode cc q.1 = .ok (.new ik, 3) ∧ decode cc (q.1 + 3) = .ok (.dup, 1) ∧ ((decode cc (q.1 + 4) = .ok (.ldc is, 2) ∧ decode cc (q.1 + 6) = .ok (.invokespecial ic, 3) ∧ decode cc (q.1 + 9) = .ok (.athrow, 1)) ∨ (decode cc (q.1 + 4) = .ok (.ldc_w is, 3) ∧ decode cc (q.1 + 7) = .ok (.invokespecial ic, 3) ∧ decode cc (q.1 + 10) = .ok (.athrow, 1)))
def zStat (own : String) (v0 : Value) (q : Nat × Value) : Prop :=
  (q.2 = .int 1 ∧ Cond.fieldLink own q.1 "java/lang/String" "COMPACT_STRINGS" "Z" ∈ zTs) ∨ (q.2 = v0 ∧ Cond.fieldLink own q.1 "jdk/internal/util/Preconditions" "SIOOBE_FORMATTER" "Ljava/util/function/BiFunction;" ∈ zTs) ∨ (q.2 = .ref 1002 ∧ Cond.fieldLink own q.1 "java/lang/Integer" "DigitOnes" "[B" ∈ zTs) ∨ (q.2 = .ref 1003 ∧ Cond.fieldLink own q.1 "java/lang/Integer" "DigitTens" "[B" ∈ zTs)
/-- the arrays that nobody writes -/
def zRO : List (Nat × Nat × Nat × (Nat → Int32)) := [(1002, 2, 100, zOnes), (1003, 2, 100, zTens)]
/-- what a return of this type owes -/
def zrq (ret : Option FieldType) (v : Option Value) (K : Prop) : Prop := match ret, v with
  | some .int, some (.int _) => K
  | some .boolean, some (.int x) => (x = 0 ∨ x = 1) ∧ K
  | some ty, some (.int x) => narrow ty (.int x) = .int x ∧ K
  | none, none => K
  | some (.object _), some (.ref _) => K
  | _, _ => False
def zretP (ret : Option FieldType) (mc ms : Nat) (Q : Option Value → zW → Prop) : Option Value → zW → Nat → Nat → Prop := fun v w cu su => match Nat.ble cu mc && Nat.ble su ms with
  | true => zrq ret v (Q v w)
  | false => False
def zexcP (mc ms : Nat) (X : String → zW → Prop) : Nat → String → zL → zW → Nat → Nat → Prop := fun _ E _ w cu su => match Nat.ble cu mc && Nat.ble su ms with
  | true => X E w
  | false => False
abbrev zTab (fl : List (Nat × Nat × Nat)) (cs : List (Nat × zCall)) (nw : List (Nat × Nat × Nat × List Value)) (th : List (Nat × String)) (st : List (Nat × Value)) (kc : List (Nat × Int32)) (ini : Bool) (ret : Option FieldType) (mc ms : Nat) (al : Bool) (n0 : Nat) (Q : Option Value → zW → Prop) (X : String → zW → Prop) : zT :=
  (fl, cs, nw, th, st, kc, zRO, ini, (mc, ms), zretP ret mc ms Q, zexcP mc ms X, (al, n0))
abbrev zTabS (L : Nat) (xs : Nat → Int32) (fl : List (Nat × Nat × Nat)) (cs : List (Nat × zCall)) (nw : List (Nat × Nat × Nat × List Value)) (th : List (Nat × String)) (st : List (Nat × Value)) (kc : List (Nat × Int32)) (ini : Bool) (ret : Option FieldType) (mc ms : Nat) (al : Bool) (n0 : Nat) (Q : Option Value → zW → Prop) (X : String → zW → Prop) : zT :=
  (fl, cs, nw, th, st, kc, [(1002, 2, 100, zOnes), (1003, 2, 100, zTens), (1000, 0, L, xs)], ini, (mc, ms), zretP ret mc ms Q, zexcP mc ms X, (al, n0))
/-- the body of a method: entry and loops -/
def zBody (T : zT) (nL : Nat) (P : List zE) (args : zS) (w : zW) : Prop := (lg_sl args).length ≤ nL ∧ ∃ (fuel : Nat) (I : List (Nat × (Nat → zK))),
  zwp T nL P (I.map (fun q => (q.1, fun L S w cu su => ∃ n, q.2 n L S w cu su))) fuel P (lv_args 0 args) [] w 0 0 ∧
  ∀ q ∈ I, ∀ (n : Nat) (L : zL) (S : zS) (w : zW) (cu su : Nat), q.2 n L S w cu su → ∃ L', zsub L' L ∧ zwp T nL P (I.map (fun q' => (q'.1, fun L S w cu su => ∃ m, m < n ∧ q'.2 m L S w cu su))) fuel (zfind q.1 P) L' S w cu su
theorem zlv_args (ad : Nat → Nat) : ∀ (args : zS) (k : Nat), lv_args k (args.map (zcv ad)) = zcl ad (lv_args k args)
  | [], k => rfl
  | v :: t, k => by
    simp only [List.map_cons, lv_args, zcv_cat, zlv_args ad t]
    rfl
theorem zlg_len (ad : Nat → Nat) : ∀ (args : zS), (lg_sl (args.map (zcv ad))).length = (lg_sl args).length
  | [] => rfl
  | v :: t => by
    have ih := zlg_len ad t
    have e : (if (zcv ad v).category = 2 then [Slot.val (zcv ad v), Slot.second] else [Slot.val (zcv ad v)]).length = (if v.category = 2 then [Slot.val v, Slot.second] else [Slot.val v]).length := by
      rw [zcv_cat]
      split <;> rfl
    unfold lg_sl at ih ⊢
    simp only [List.map_cons, List.flatMap_cons, List.length_append, e, ih]
/-- the loops of a body -/
theorem zloops {Γ : zX} {T : zT} {own : String} (C : zOK Γ T own) {P : List zE} (hP : zPg Γ P) {fuel : Nat} {I : List (Nat × (Nat → zK))} (hI : ∀ q ∈ I, ∃ x r, zfind q.1 P = x :: r)
    (h : ∀ q ∈ I, ∀ (n : Nat) (L : zL) (S : zS) (w : zW) (cu su : Nat), q.2 n L S w cu su → ∃ L', zsub L' L ∧ zwp T Γ.nL P (I.map (fun q' => (q'.1, fun L S w cu su => ∃ m, m < n ∧ q'.2 m L S w cu su))) fuel (zfind q.1 P) L' S w cu su) :
    ∀ (n : Nat), ∀ q ∈ I, ∀ (L : zL) (S : zS) (w : zW) (cu su : Nat), q.2 n L S w cu su → zSm Γ q.1 L S w cu su := by
  intro n
  induction n using Nat.strongRecOn with
  | ind n ih =>
    intro q hq L S w cu su hh
    obtain ⟨L', hs, hw⟩ := h q hq n L S w cu su hh
    refine zSm_sub hs ?_
    obtain ⟨x, r, e⟩ := hI q hq
    have e1 := zfind_s.2 x r e
    rw [← e1]
    refine zwp_sound C hP (cut := I.map (fun q' => (q'.1, fun L S w cu su => ∃ m, m < n ∧ q'.2 m L S w cu su))) ?_ fuel _ zfind_s.1 L' S w cu su hw x r e
    intro c hc L2 S2 w2 cu2 su2 hcc
    obtain ⟨q', hq', rfl⟩ := List.mem_map.mp hc
    obtain ⟨k, hk, hh2⟩ := hcc
    exact ih k hk q' hq' L2 S2 w2 cu2 su2 hh2
theorem zbody_sound {Γ : zX} {T : zT} {own : String} (C : zOK Γ T own) {P : List zE} (hP : zPg Γ P) {q0 : zE} {P' : List zE} (hP0 : P = q0 :: P') (h0 : q0.1 = 0) {args : zS} {w : zW} (h : zBody T Γ.nL P args w) : zSm Γ 0 (lv_args 0 args) [] w 0 0 := by
  obtain ⟨-, fuel, I, h1, h2⟩ := h
  have hI : ∀ q ∈ I, ∀ n L S w cu su, q.2 n L S w cu su → ∃ x r, zfind q.1 P = x :: r := by
    intro q hq n L S w cu su hh
    obtain ⟨L', -, hw⟩ := h2 q hq n L S w cu su hh
    cases hf : zfind q.1 P with
    | nil => rw [hf] at hw; cases fuel <;> exact hw.elim
    | cons x r => exact ⟨x, r, rfl⟩
  have key : ∀ (n : Nat), ∀ q ∈ I, ∀ (L : zL) (S : zS) (w : zW) (cu su : Nat), q.2 n L S w cu su → zSm Γ q.1 L S w cu su := by
    intro n
    induction n using Nat.strongRecOn with
    | ind n ih =>
      intro q hq L S w cu su hh
      obtain ⟨L', hs, hw⟩ := h2 q hq n L S w cu su hh
      refine zSm_sub hs ?_
      obtain ⟨x, r, e⟩ := hI q hq n L S w cu su hh
      have e1 := zfind_s.2 x r e
      rw [← e1]
      refine zwp_sound C hP (cut := I.map (fun q' => (q'.1, fun L S w cu su => ∃ m, m < n ∧ q'.2 m L S w cu su))) ?_ fuel _ zfind_s.1 L' S w cu su hw x r e
      intro c hc L2 S2 w2 cu2 su2 hcc
      obtain ⟨q', hq', rfl⟩ := List.mem_map.mp hc
      obtain ⟨k, hk, hh2⟩ := hcc
      exact ih k hk q' hq' L2 S2 w2 cu2 su2 hh2
  have h9 := zwp_sound C hP (cut := I.map (fun q => (q.1, fun L S w cu su => ∃ n, q.2 n L S w cu su))) (fun c hc L2 S2 w2 cu2 su2 hcc => by
    obtain ⟨q', hq', rfl⟩ := List.mem_map.mp hc
    obtain ⟨k, hh2⟩ := hcc
    exact key k q' hq' L2 S2 w2 cu2 su2 hh2) fuel P (fun _ h => h) _ _ _ _ _ h1 q0 P' hP0
  rw [h0] at h9
  exact h9
section ZM
variable {p : Program} {l : Launch} {e : Env} {R : Room} {s : State} {m : MethodId} {args : Array Value} {below : List Frame} {meth : Method} {c : Code} {cc : ByteArray} {nL : Nat} {G : va_G} {cA : Nat → ClassId} {ad : Nat → Nat} {w0 : zW} {al : Bool} {mc ms : Nat} {Q : Option Value → zW → Prop} {X : String → zW → Prop}
abbrev zGam (p : Program) (l : Launch) (e : Env) (R : Room) (s : State) (m : MethodId) (args : Array Value) (below : List Frame) (meth : Method) (c : Code) (cc : ByteArray) (nL : Nat) (G : va_G) (cA : Nat → ClassId) (ad : Nat → Nat) (w0 : zW) (al : Bool) (mc ms : Nat) (Q : Option Value → zW → Prop) (X : String → zW → Prop) : zX :=
  (p, l, e, R, s, m, args, below, meth, c, cc, nL, G, cA, va_A (zcw cA ad w0) s.heap.size, ad, (al, w0.length), vx_MQ below (zQc G cA ad w0 s.heap.size al Q) (zXc G cA ad w0 s.heap.size al X) args s mc ms (va_A (zcw cA ad w0) s.heap.size))
theorem zret_ok {T : zT} {ret : Option FieldType} (hx : p.tables.exec = Jvm.exec) (hb : c.code = cc) (hr : meth.sig.returnType = ret) (hlocks : meth.locks = false) (hT : T.ret = zretP ret mc ms Q) : zRetOK (zGam p l e R s m args below meth c cc nL G cA ad w0 al mc ms Q X) T := by
  intro v pc i L w cu su hd hi h ad' H locs ls hP hD hS hl ha
  rw [hT] at h
  unfold zretP at h
  split at h
  · rename_i hbl
    simp only [Bool.and_eq_true] at hbl
    have fin : ∀ (r : Option Value), Q r w → ∀ t : State, t.heap = H → s.WarmedH t.vm → zQc G cA ad w0 s.heap.size al Q args s (.returned (r.map (zcv ad'))) t := by
      intro r hq t ht hW
      exact ⟨⟨r, w, ad', rfl, hq, ha, by rw [ht]; exact hP, hD⟩, hS.F ht⟩
    refine W.widen (Nat.le_of_ble_eq_true hbl.1) (Nat.le_of_ble_eq_true hbl.2) (vx_ret ?_)
    unfold zrq at h
    split at h
    · -- int
      rename_i x
      cases hi
      exact W.iret (v := x) hx hb hr (fin (some (.int x)) h) hS.2.2 hd hlocks
    · rename_i x
      cases hi
      exact W.zret (v := x) hx hb hr (by rcases h.1 with rfl | rfl <;> rfl) (fin (some (.int x)) h.2) hS.2.2 hd hlocks
    · rename_i ty x _ _
      cases hi
      exact W.zret (v := x) hx hb hr h.1 (fin (some (.int x)) h.2) hS.2.2 hd hlocks
    · cases hi
      exact W.vret hx hb hr (fin none h) hS.2.2 hd hlocks
    · rename_i o x
      cases hi
      exact W.aret (v := .ref (ad' x)) hx hb hr (Or.inl ⟨_, rfl⟩) (Or.inr ⟨_, rfl⟩) (fin (some (.ref x)) h) hS.2.2 hd hlocks
    · exact h.elim
  · exact h.elim
theorem zexc_ok {T : zT} (hout : ∀ x ∈ c.exceptionTable.toList, False) (hlocks : meth.locks = false) (hT : T.exc = zexcP mc ms X) : zExcOK (zGam p l e R s m args below meth c cc nL G cA ad w0 al mc ms Q X) T := by
  intro pc E L S w cu su h ad' H locs ls ce q9 hP hD hS hl ha h1 h2 h3
  rw [hT] at h
  unfold zexcP at h
  split at h
  · rename_i hbl
    simp only [Bool.and_eq_true] at hbl
    exact vx_out (fun x hx => (hout x hx).elim) hlocks h1 h2 h3 (fun t ht hvm => ⟨⟨w, ad', h, ha, by rw [ht]; exact hP, hD⟩, hS.F ht⟩) hS.2.2 (Nat.le_of_ble_eq_true hbl.1) (Nat.le_of_ble_eq_true hbl.2)
  · exact h.elim
theorem zth_ok {T : zT} {own : String} {q : Nat × String} (hx : p.tables.exec = Jvm.exec) (hb : c.code = cc) (hl0 : l.stackTraces = false) (hml : c.maxLocals = nL) (hown : s.vm.findClass own = some m.cls) (hE : zEnv G cA ad s (va_A (zcw cA ad w0) s.heap.size) s.heap) (hout : ∀ x ∈ c.exceptionTable.toList, False) (hlocks : meth.locks = false) (hRf : 6 ≤ R.frames) (hRl : 100 ≤ R.locals) (hRc : mc ≤ R.cells) (hRs : ms ≤ R.slots) (hT : T.exc = zexcP mc ms X) (hq : zThrow cc own q) : zThOK (zGam p l e R s m args below meth c cc nL G cA ad w0 al mc ms Q X) T q := by
  intro L S w cu su h hcat ad' H locs ls hP hD hS hl ha
  obtain ⟨text, ik, is, ic, ps, q1, q2, q3, q4, d0, d3, dd⟩ := hq
  rw [hT] at h
  unfold zexcP at h
  split at h
  · rename_i hbl
    simp only [Bool.and_eq_true] at hbl
    have b1 := Nat.le_of_ble_eq_true hbl.1
    have b2 := Nat.le_of_ble_eq_true hbl.2
    have hts : ∀ w ∈ zTs, w.before args s = true := fun w hw => word_at (State.WarmedH.refl s) (good_of_word (zgood hw)) (hE.1 w hw)
    obtain ⟨sa, hstr⟩ := hE.2.2.1 _ q3
    have hall := List.all_eq_true.mp q4
    have hat : ∀ w ∈ vx_atS own ic q.2 ["java/lang/RuntimeException", "java/lang/Exception"], w.before args s = true := by
      intro w hw
      have h9 := hall w hw
      simp only [Bool.and_eq_true, Bool.or_eq_true, decide_eq_true_eq] at h9
      rcases h9.2 with ⟨g1, g2⟩ | g
      · exact hts w (List.mem_filter.mpr ⟨List.mem_cons_of_mem _ g1, g2⟩)
      · exact zOth_use g (hE.2.1.2.1 w g)
    have hgood : ∀ w ∈ Cond.classLink own ik q.2 :: Cond.initialized q.2 :: vx_atS own ic q.2 ["java/lang/RuntimeException", "java/lang/Exception"], vx_ot w = true := by
      intro w hw
      rcases List.mem_cons.mp hw with rfl | hw
      · rfl
      · rcases List.mem_cons.mp hw with rfl | hw
        · rfl
        · have h9 := hall w hw
          simp only [Bool.and_eq_true] at h9
          exact h9.1
    have hcs : ((S.map (zcv ad')).map fun v => v.category).sum ≤ 8 := by rw [zcat_map]; exact hcat
    rcases dd with ⟨d4, d6, d9⟩ | ⟨d4, d6, d9⟩
    · exact vx_throwS (names := ["java/lang/RuntimeException", "java/lang/Exception"]) (A := va_A (zcw cA ad w0) s.heap.size) hx hb hl0 hown q1 (by decide +kernel) (hts _ (zins_in q2 _ (by simp))) (hts _ (zins_in q2 _ (by simp))) hstr hat hgood hE.2.2.2.1 hE.2.2.2.2.1 hS (hl.1.trans hml.symm) d0 d3 d4 d6 d9 (fun x hx => (hout x hx).elim) (show 2 + 3 < R.frames by omega) (show _ + (13 * (2 + 1) + 43) ≤ R.locals by omega) (show cu + 1 ≤ R.cells by omega) (show su + 6 ≤ R.slots by omega) hlocks
        (fun t hvm hz hk => ⟨⟨w, ad', h, ha, hP.kept (fun k q hkq => hk q.1 ((hP k q hkq).lt)), hD⟩, ⟨Nat.le_trans hS.1 hz, fun a h1 h2 => (hk a (Nat.lt_of_lt_of_le h1 hS.1)).trans (hS.2.1 a h1 h2)⟩⟩)
        hS.2.2 (by omega) (by omega)
    · exact vx_throwSW (names := ["java/lang/RuntimeException", "java/lang/Exception"]) (A := va_A (zcw cA ad w0) s.heap.size) hx hb hl0 hown q1 (by decide +kernel) (hts _ (zins_in q2 _ (by simp))) (hts _ (zins_in q2 _ (by simp))) hstr hat hgood hE.2.2.2.1 hE.2.2.2.2.1 hS (hl.1.trans hml.symm) d0 d3 d4 d6 d9 (fun x hx => (hout x hx).elim) (show 2 + 3 < R.frames by omega) (show _ + (13 * (2 + 1) + 43) ≤ R.locals by omega) (show cu + 1 ≤ R.cells by omega) (show su + 6 ≤ R.slots by omega) hlocks
        (fun t hvm hz hk => ⟨⟨w, ad', h, ha, hP.kept (fun k q hkq => hk q.1 ((hP k q hkq).lt)), hD⟩, ⟨Nat.le_trans hS.1 hz, fun a h1 h2 => (hk a (Nat.lt_of_lt_of_le h1 hS.1)).trans (hS.2.1 a h1 h2)⟩⟩)
        hS.2.2 (by omega) (by omega)
  · exact h.elim
end ZM
set_option maxHeartbeats 4000000 in
/-- the contract of a method without handlers -/
theorem zCT_of {l : Launch} (hl0 : l.stackTraces = false) {y : MethodName} {cc : ByteArray} {maxL : Nat} {ret : Option FieldType} {d mc ms : Nat} {al : Bool} {Sp : zSpec} {own : String} (fl : List (Nat × Nat × Nat)) (cs : List (Nat × zCall)) (nw : List (Nat × Nat × Nat × List Value)) (th : List (Nat × String)) (kc : List (Nat × Int32)) (st : Value → List (Nat × Value)) (ini : Bool) (P : List zE) (hown : y.cls = own) (hy : plainName y.cls = true)
    (hP : ∀ q ∈ P, decode cc q.1 = .ok (q.2.1, q.2.2.1) ∧ ztg q.2.1 q.1 q.2.2.1 q.2.2.2 = true) (hP0 : ∃ q0 P', P = q0 :: P' ∧ q0.1 = 0) (hfl : ∀ q ∈ fl, zFld own q) (hini : ini = true → y.name = "<init>" ∧ ∀ q ∈ fl, ∀ C, zCl[q.2.1]? = some C → (C.2.1 q.2.2).1 = own)
    (hcs : ∀ q ∈ cs, zCallable l own d q) (hnw : ∀ q ∈ nw, zNew own q) (hth : ∀ q ∈ th, zThrow cc own q) (hst : ∀ v0 q, q ∈ st v0 → zStat own v0 q) (hkc : ∀ q ∈ kc, Cond.constant own q.1 q.2 ∈ zTs)
    (body : ∀ args w Q X v0, (v0 = .null ∨ v0 = .ref 1001) → Sp args w Q X → zBody (zTab fl cs nw th (st v0) kc ini ret mc ms al w.length Q X) maxL P args w) (hd2 : th = [] ∨ 2 ≤ d := by first | exact Or.inl rfl | exact Or.inr (by decide)) : CT l y (.code y cc maxL ret) d mc ms al Sp := by
  intro G cA ad w args sz Q X hSp
  refine vx_ofW (cc := cc) (maxL := maxL) (ret := ret) hy rfl ?_
  intro p e s m args' below meth c s₁ B hml hout hv
  obtain ⟨rfl, hsz, hP1, hD1, hE⟩ := hv
  subst hsz
  have hx := B.exec
  have hb := B.bytes
  have hr := B.returns
  have hownc : s.vm.findClass own = some m.cls := by rw [← hown]; exact findClass_of_methodNamed B.named
  have hlocks := B.notSynchronized
  obtain ⟨v0, hv0, hZ0⟩ := hE.2.2.2.2.2.2.1
  obtain ⟨hlen, hbody⟩ := body args w Q X v0 hv0 hSp
  obtain ⟨q0, P', hP0, h00⟩ := hP0
  have hexc := zexc_ok (p := p) (l := l) (e := e) (R := zRm d mc ms) (s := s) (m := m) (args := (args.map (zcv ad)).toArray) (below := below) (meth := meth) (c := c) (cc := cc) (nL := maxL) (G := G) (cA := cA) (ad := ad) (w0 := w) (al := al) (mc := mc) (ms := ms) (Q := Q) (X := X) (T := zTab fl cs nw th (st v0) kc ini ret mc ms al w.length Q X) hout hlocks rfl
  have hA : ∀ q, s.heap.size ≤ q → va_A (zcw cA ad w) s.heap.size q := fun q h => Or.inr h
  have base : zBase (zGam p l e (zRm d mc ms) s m (args.map (zcv ad)).toArray below meth c cc maxL G cA ad w al mc ms Q X) (zTab fl cs nw th (st v0) kc ini ret mc ms al w.length Q X) l own d :=
    ⟨rfl, hx, hb, hml, hownc, hE, Nat.le_refl _, Nat.le_refl _, hA, Nat.le_refl _, Nat.le_refl _, rfl, rfl, hexc⟩
  have hts : ∀ x ∈ zTs, x.before (args.map (zcv ad)).toArray s = true := zts base
  have ok : zOK (zGam p l e (zRm d mc ms) s m (args.map (zcv ad)).toArray below meth c cc maxL G cA ad w al mc ms Q X) (zTab fl cs nw th (st v0) kc ini ret mc ms al w.length Q X) own := by
    refine ⟨hx, hb, hownc, hts, hE.2.2.2.2.2.2.2.1, hA, rfl, rfl, Nat.le_refl _, Nat.le_refl _, hfl, fun h => ⟨?_, (hini h).2⟩, fun q hq => hcs q hq _ _ base, hnw, fun q hq => have hd9 : 2 ≤ d := hd2.resolve_left (fun e => by rw [e] at hq; exact absurd hq List.not_mem_nil); zth_ok hx hb hl0 hml hownc hE hout hlocks (by simp only [zRm]; omega) (by simp only [zRm]; omega) (Nat.le_refl _) (Nat.le_refl _) rfl (hth q hq), fun q hq => ?_, fun q hq => hts _ (hkc q hq), fun q hq => ?_, zret_ok hx hb hr hlocks rfl⟩
    · rw [← (hini h).1]
      exact (name_of_methodNamed B.named B.method).1
    · rcases hst v0 q hq with ⟨e1, e2⟩ | ⟨e1, e2⟩ | ⟨e1, e2⟩ | ⟨e1, e2⟩
      · refine ⟨by rw [e1]; rfl, "java/lang/String", "COMPACT_STRINGS", "Z", ?_, hts _ e2⟩
        rw [e1]
        exact hE.2.2.2.2.2.1
      · refine ⟨by rw [e1]; rcases hv0 with rfl | rfl <;> rfl, "jdk/internal/util/Preconditions", "SIOOBE_FORMATTER", "Ljava/util/function/BiFunction;", ?_, hts _ e2⟩
        rw [e1]
        exact hZ0
      · refine ⟨by rw [e1]; rfl, "java/lang/Integer", "DigitOnes", "[B", ?_, hts _ e2⟩
        rw [e1]
        exact hE.2.2.2.2.2.2.2.2.1.1
      · refine ⟨by rw [e1]; rfl, "java/lang/Integer", "DigitTens", "[B", ?_, hts _ e2⟩
        rw [e1]
        exact hE.2.2.2.2.2.2.2.2.2.1
    · rcases List.mem_cons.mp hq with rfl | hq
      · exact ⟨by decide, .byte, rfl, hE.2.2.2.2.2.2.2.2.1.2⟩
      · rcases List.mem_cons.mp hq with rfl | hq
        · exact ⟨by decide, .byte, rfl, hE.2.2.2.2.2.2.2.2.2.2⟩
        · exact absurd hq List.not_mem_nil
  have hbd := zbody_sound ok hP hP0 h00 ⟨hlen, hbody⟩
  have hlv := lv_entry (args.map (zcv ad)) (n := maxL) (by rw [zlg_len]; exact hlen)
  rw [lg_entry_eq]
  rw [zlv_args] at hlv
  exact hbd ad s.heap [] _ hP1 hD1.self va_S.rf hlv (fun _ _ => rfl)
set_option maxHeartbeats 4000000 in
/-- the contract of a method without handlers that reads the script -/
theorem zCT_ofS {l : Launch} (hl0 : l.stackTraces = false) {y : MethodName} {cc : ByteArray} {maxL : Nat} {ret : Option FieldType} {d mc ms : Nat} {al : Bool} {Sp : zSpec} {own : String} (fl : List (Nat × Nat × Nat)) (cs : List (Nat × zCall)) (nw : List (Nat × Nat × Nat × List Value)) (th : List (Nat × String)) (kc : List (Nat × Int32)) (st : Value → List (Nat × Value)) (ini : Bool) (P : List zE) (hown : y.cls = own) (hy : plainName y.cls = true)
    (hP : ∀ q ∈ P, decode cc q.1 = .ok (q.2.1, q.2.2.1) ∧ ztg q.2.1 q.1 q.2.2.1 q.2.2.2 = true) (hP0 : ∃ q0 P', P = q0 :: P' ∧ q0.1 = 0) (hfl : ∀ q ∈ fl, zFld own q) (hini : ini = true → y.name = "<init>" ∧ ∀ q ∈ fl, ∀ C, zCl[q.2.1]? = some C → (C.2.1 q.2.2).1 = own)
    (hcs : ∀ q ∈ cs, zCallable l own d q) (hnw : ∀ q ∈ nw, zNew own q) (hth : ∀ q ∈ th, zThrow cc own q) (hst : ∀ v0 q, q ∈ st v0 → zStat own v0 q) (hkc : ∀ q ∈ kc, Cond.constant own q.1 q.2 ∈ zTs)
    (body : ∀ args w Q X v0 L xs, (v0 = .null ∨ v0 = .ref 1001) → L < 2 ^ 31 → Sp args w Q X → zBody (zTabS L xs fl cs nw th (st v0) kc ini ret mc ms al w.length Q X) maxL P args w) (hd2 : th = [] ∨ 2 ≤ d := by first | exact Or.inl rfl | exact Or.inr (by decide)) : CT l y (.code y cc maxL ret) d mc ms al Sp := by
  intro G cA ad w args sz Q X hSp
  refine vx_ofW (cc := cc) (maxL := maxL) (ret := ret) hy rfl ?_
  intro p e s m args' below meth c s₁ B hml hout hv
  obtain ⟨rfl, hsz, hP1, hD1, hE⟩ := hv
  subst hsz
  have hx := B.exec
  have hb := B.bytes
  have hr := B.returns
  have hownc : s.vm.findClass own = some m.cls := by rw [← hown]; exact findClass_of_methodNamed B.named
  have hlocks := B.notSynchronized
  obtain ⟨v0, hv0, hZ0⟩ := hE.2.2.2.2.2.2.1
  obtain ⟨L, xs, hL, hTS⟩ := hE.2.1.2.2
  obtain ⟨hlen, hbody⟩ := body args w Q X v0 L xs hv0 hL hSp
  obtain ⟨q0, P', hP0, h00⟩ := hP0
  have hexc := zexc_ok (p := p) (l := l) (e := e) (R := zRm d mc ms) (s := s) (m := m) (args := (args.map (zcv ad)).toArray) (below := below) (meth := meth) (c := c) (cc := cc) (nL := maxL) (G := G) (cA := cA) (ad := ad) (w0 := w) (al := al) (mc := mc) (ms := ms) (Q := Q) (X := X) (T := zTabS L xs fl cs nw th (st v0) kc ini ret mc ms al w.length Q X) hout hlocks rfl
  have hA : ∀ q, s.heap.size ≤ q → va_A (zcw cA ad w) s.heap.size q := fun q h => Or.inr h
  have base : zBase (zGam p l e (zRm d mc ms) s m (args.map (zcv ad)).toArray below meth c cc maxL G cA ad w al mc ms Q X) (zTabS L xs fl cs nw th (st v0) kc ini ret mc ms al w.length Q X) l own d :=
    ⟨rfl, hx, hb, hml, hownc, hE, Nat.le_refl _, Nat.le_refl _, hA, Nat.le_refl _, Nat.le_refl _, rfl, rfl, hexc⟩
  have hts : ∀ x ∈ zTs, x.before (args.map (zcv ad)).toArray s = true := zts base
  have ok : zOK (zGam p l e (zRm d mc ms) s m (args.map (zcv ad)).toArray below meth c cc maxL G cA ad w al mc ms Q X) (zTabS L xs fl cs nw th (st v0) kc ini ret mc ms al w.length Q X) own := by
    refine ⟨hx, hb, hownc, hts, hE.2.2.2.2.2.2.2.1, hA, rfl, rfl, Nat.le_refl _, Nat.le_refl _, hfl, fun h => ⟨?_, (hini h).2⟩, fun q hq => hcs q hq _ _ base, hnw, fun q hq => have hd9 : 2 ≤ d := hd2.resolve_left (fun e => by rw [e] at hq; exact absurd hq List.not_mem_nil); zth_ok hx hb hl0 hml hownc hE hout hlocks (by simp only [zRm]; omega) (by simp only [zRm]; omega) (Nat.le_refl _) (Nat.le_refl _) rfl (hth q hq), fun q hq => ?_, fun q hq => hts _ (hkc q hq), fun q hq => ?_, zret_ok hx hb hr hlocks rfl⟩
    · rw [← (hini h).1]
      exact (name_of_methodNamed B.named B.method).1
    · rcases hst v0 q hq with ⟨e1, e2⟩ | ⟨e1, e2⟩ | ⟨e1, e2⟩ | ⟨e1, e2⟩
      · refine ⟨by rw [e1]; rfl, "java/lang/String", "COMPACT_STRINGS", "Z", ?_, hts _ e2⟩
        rw [e1]
        exact hE.2.2.2.2.2.1
      · refine ⟨by rw [e1]; rcases hv0 with rfl | rfl <;> rfl, "jdk/internal/util/Preconditions", "SIOOBE_FORMATTER", "Ljava/util/function/BiFunction;", ?_, hts _ e2⟩
        rw [e1]
        exact hZ0
      · refine ⟨by rw [e1]; rfl, "java/lang/Integer", "DigitOnes", "[B", ?_, hts _ e2⟩
        rw [e1]
        exact hE.2.2.2.2.2.2.2.2.1.1
      · refine ⟨by rw [e1]; rfl, "java/lang/Integer", "DigitTens", "[B", ?_, hts _ e2⟩
        rw [e1]
        exact hE.2.2.2.2.2.2.2.2.2.1
    · rcases List.mem_cons.mp hq with rfl | hq
      · exact ⟨by decide, .byte, rfl, hE.2.2.2.2.2.2.2.2.1.2⟩
      · rcases List.mem_cons.mp hq with rfl | hq
        · exact ⟨by decide, .byte, rfl, hE.2.2.2.2.2.2.2.2.2.2⟩
        · rcases List.mem_cons.mp hq with rfl | hq
          · exact ⟨Nat.le_refl 1000, .int, rfl, hTS⟩
          · exact absurd hq List.not_mem_nil
  have hbd := zbody_sound ok hP hP0 h00 ⟨hlen, hbody⟩
  have hlv := lv_entry (args.map (zcv ad)) (n := maxL) (by rw [zlg_len]; exact hlen)
  rw [lg_entry_eq]
  rw [zlv_args] at hlv
  exact hbd ad s.heap [] _ hP1 hD1.self va_S.rf hlv (fun _ _ => rfl)
end
section
/-! ===== helpers of the tables; the world of the class ===== -/
theorem zpg_of {cc : ByteArray} {P : List zE} (h : P.all (fun q => decide (decode cc q.1 = .ok (q.2.1, q.2.2.1)) && ztg q.2.1 q.1 q.2.2.1 q.2.2.2) = true) : ∀ q ∈ P, decode cc q.1 = .ok (q.2.1, q.2.2.1) ∧ ztg q.2.1 q.1 q.2.2.1 q.2.2.2 = true := by
  intro q hq
  have h1 := List.all_eq_true.mp h q hq
  simpa using h1
def zfldb (own : String) : List Nat → List (Nat × Nat × Nat) → Bool
  | [], [] => true
  | p :: ps, q :: fl => (match zCl[q.2.1]? with
    | some C => Nat.blt q.2.2 C.2.2 && decide (lw_tbl[p]? = some (Cond.fieldLink own q.1 (C.2.1 q.2.2).1 (C.2.1 q.2.2).2.1 (C.2.1 q.2.2).2.2.1))
    | none => false) && zfldb own ps fl
  | _, _ => false
theorem zfld_of {own : String} : ∀ {ps : List Nat} {fl : List (Nat × Nat × Nat)}, zfldb own ps fl = true → ∀ q ∈ fl, zFld own q
  | [], [], _, q, hq => absurd hq List.not_mem_nil
  | p :: ps, x :: fl, h, q, hq => by
    simp only [zfldb, Bool.and_eq_true] at h
    rcases List.mem_cons.mp hq with e | hq
    · subst e
      have h1 := h.1
      split at h1
      · rename_i C hC
        simp only [Bool.and_eq_true, decide_eq_true_eq] at h1
        exact ⟨C, hC, zblt h1.1, zmem h1.2 rfl⟩
      · cases h1
    · exact zfld_of h.2 q hq
  | [], _ :: _, h, _, _ => nomatch h
  | _ :: _, [], h, _, _ => nomatch h
theorem zini_of {own : String} {fl : List (Nat × Nat × Nat)} (h : fl.all (fun q => match zCl[q.2.1]? with
    | some C => decide ((C.2.1 q.2.2).1 = own)
    | none => true) = true) : ∀ q ∈ fl, ∀ C : vw_C, zCl[q.2.1]? = some C → (C.2.1 q.2.2).1 = own := by
  intro q hq C hC
  have h1 := List.all_eq_true.mp h q hq
  rw [hC] at h1
  simpa using h1
def zspO : zSpec := fun _ w Q _ => Q none w
/-- a store of numbered things -/
def zu {β : Type} (f : Nat → β) (k : Nat) (v : β) : Nat → β := fun j => match Nat.beq j k with
  | true => v
  | false => f j
/-- the cells of an EchoRegistry (from place 0 on), and others behind them -/
def WX (α : Nat → Nat → Int32) (ν : Nat → Int32) (r : zW) : zW :=
  .inr (5, [.ref 1, .ref 8, .ref 11, .ref 15, .ref 19, .int (ν 0)]) ::
  .inr (1, [.ref 2, .ref 3, .ref 4, .ref 5, .ref 6, .ref 7, .int (ν 1), .int (ν 2)]) ::
  .inl (0, 96, .inl (α 0)) :: .inl (0, 96, .inl (α 1)) :: .inl (0, 96, .inl (α 2)) :: .inl (0, 96, .inl (α 3)) :: .inl (0, 96, .inl (α 4)) :: .inl (0, 96, .inl (α 5)) ::
  .inr (3, [.ref 9, .ref 10]) :: .inl (0, 4, .inl (α 6)) :: .inl (0, 4, .inl (α 7)) ::
  .inr (2, [.ref 12, .ref 13, .ref 14, .int (ν 3)]) :: .inl (0, 40, .inl (α 8)) :: .inl (0, 40, .inl (α 9)) :: .inl (0, 40, .inl (α 10)) ::
  .inr (4, [.ref 16, .ref 17, .ref 18, .int (ν 4), .int (ν 5)]) :: .inl (0, 60, .inl (α 11)) :: .inl (0, 60, .inl (α 12)) :: .inl (0, 6, .inl (α 13)) ::
  .inr (0, [.ref 20, .int 0, .int (ν 7), .int (ν 6)]) :: .inl (2, 16, .inl (α 14)) :: r
/-- a truth, as a call answers it -/
def zB (Q : Option Value → zW → Prop) (b : Prop) (w : zW) : Prop := (b → Q (some (.int 1)) w) ∧ (¬ b → Q (some (.int 0)) w)
def sp_X4_isCell : zSpec := fun args w Q _ => ∃ x, args = [.int x] ∧ zB Q (vp_in x 96) w
theorem vp_in_lt {x : Int32} {n : Nat} (hn : n < 2 ^ 31) (h0 : ¬ x < 0) (h : x < nI n) : vp_in x n := by
  obtain ⟨j, hj, rfl⟩ := nI_of h0
  exact vp_in_nI ((nI_ltI hj hn).mp h) hn
theorem vp_in_nlt {x : Int32} {n : Nat} (hn : n < 2 ^ 31) (h : ¬ x < nI n) : ¬ vp_in x n := by
  intro hv
  obtain ⟨j, hj, rfl⟩ := vp_in_of hv hn
  exact h (nI_lt hj hn)
theorem vp_in_neg {x : Int32} {n : Nat} (h : x < 0) : ¬ vp_in x n := fun hv => hv (Or.inl h)
def fl_RX4 : List (Nat × Nat × Nat) := [(12, 5, 0), (19, 5, 1), (26, 5, 2), (33, 5, 3), (40, 5, 4), (44, 5, 5)]
theorem hfl_RX4 : ∀ q ∈ fl_RX4, zFld RX4 q := zfld_of (ps := [167, 168, 169, 170, 171, 172]) (by decide +kernel)
def pg_X4_isCell : List zE := [(0, .iload_n 0, 1, []), (1, .ifCond .lt 13, 3, [14]), (4, .iload_n 0, 1, []), (5, .bipush 96, 2, [96]), (7, .if_icmp .ge 7, 3, [14]), (10, .iconst 1, 1, [1]), (11, .goto 4, 3, [15]), (14, .iconst 0, 1, [0]), (15, .ireturn, 1, [])]
theorem hp_X4_isCell : ∀ q ∈ pg_X4_isCell, decode cX4_isCell q.1 = .ok (q.2.1, q.2.2.1) ∧ ztg q.2.1 q.1 q.2.2.1 q.2.2.2 = true := zpg_of (by decide +kernel)
def cs_X4_isCell : List (Nat × zCall) := []
theorem hcs_X4_isCell {l : Launch} (hl0 : l.stackTraces = false) : ∀ q ∈ cs_X4_isCell, zCallable l RX4 1 q := fun _ h => absurd h List.not_mem_nil
def th_X4_isCell : List (Nat × String) := []
theorem hth_X4_isCell : ∀ q ∈ th_X4_isCell, zThrow cX4_isCell RX4 q := fun _ h => absurd h List.not_mem_nil
def kc_X4_isCell : List (Nat × Int32) := []
theorem hkc_X4_isCell : ∀ q ∈ kc_X4_isCell, Cond.constant RX4 q.1 q.2 ∈ zTs := fun _ h => absurd h List.not_mem_nil
def nw_X4_isCell : List (Nat × Nat × Nat × List Value) := []
theorem hnw_X4_isCell : ∀ q ∈ nw_X4_isCell, zNew RX4 q := fun _ h => absurd h List.not_mem_nil
set_option maxHeartbeats 4000000 in
set_option maxRecDepth 20000 in
theorem c_X4_isCell {l : Launch} (hl0 : l.stackTraces = false) : CT l yX4_isCell (.code yX4_isCell cX4_isCell 1 (some .boolean)) 1 0 0 false sp_X4_isCell := by
  refine zCT_of hl0 (own := RX4) fl_RX4 cs_X4_isCell nw_X4_isCell th_X4_isCell kc_X4_isCell (fun _ => []) false pg_X4_isCell rfl (by decide +kernel) hp_X4_isCell ⟨_, _, rfl, rfl⟩ hfl_RX4 (fun h => nomatch h) (hcs_X4_isCell hl0) hnw_X4_isCell hth_X4_isCell (fun _ _ h => absurd h List.not_mem_nil) hkc_X4_isCell (fun args w Q X v0 hv0 h => ?_)
  obtain ⟨x, rfl, h1, h2⟩ := h
  refine ⟨Nat.le_of_ble_eq_true rfl, 20, [], ?_, fun q hq => absurd hq List.not_mem_nil⟩
  (conv => whnf)
  refine And.intro (fun c => ?_) (fun c => ?_) <;> dsimp only at c
  · (conv => whnf); exact ⟨Or.inl rfl, h2 (vp_in_neg c)⟩
  · (conv => whnf)
    refine And.intro (fun d => ?_) (fun d => ?_) <;> dsimp only at d
    · (conv => whnf); exact ⟨Or.inr rfl, h1 (vp_in_lt (by decide) c d)⟩
    · (conv => whnf); exact ⟨Or.inl rfl, h2 (vp_in_nlt (by decide) d)⟩
def sp_X4_columnOf : zSpec := fun args w Q _ => ∃ k, k < 96 ∧ args = [.int (nI k)] ∧ Q (some (.int (nI (k % 12)))) w
def pg_X4_columnOf : List zE := [(0, .iload_n 0, 1, []), (1, .bipush 12, 2, [12]), (3, .irem, 1, []), (4, .ireturn, 1, [])]
theorem hp_X4_columnOf : ∀ q ∈ pg_X4_columnOf, decode cX4_columnOf q.1 = .ok (q.2.1, q.2.2.1) ∧ ztg q.2.1 q.1 q.2.2.1 q.2.2.2 = true := zpg_of (by decide +kernel)
def cs_X4_columnOf : List (Nat × zCall) := []
theorem hcs_X4_columnOf {l : Launch} (hl0 : l.stackTraces = false) : ∀ q ∈ cs_X4_columnOf, zCallable l RX4 1 q := fun _ h => absurd h List.not_mem_nil
def th_X4_columnOf : List (Nat × String) := []
theorem hth_X4_columnOf : ∀ q ∈ th_X4_columnOf, zThrow cX4_columnOf RX4 q := fun _ h => absurd h List.not_mem_nil
def kc_X4_columnOf : List (Nat × Int32) := []
theorem hkc_X4_columnOf : ∀ q ∈ kc_X4_columnOf, Cond.constant RX4 q.1 q.2 ∈ zTs := fun _ h => absurd h List.not_mem_nil
def nw_X4_columnOf : List (Nat × Nat × Nat × List Value) := []
theorem hnw_X4_columnOf : ∀ q ∈ nw_X4_columnOf, zNew RX4 q := fun _ h => absurd h List.not_mem_nil
set_option maxHeartbeats 4000000 in
set_option maxRecDepth 20000 in
theorem c_X4_columnOf {l : Launch} (hl0 : l.stackTraces = false) : CT l yX4_columnOf (.code yX4_columnOf cX4_columnOf 1 (some .int)) 1 0 0 false sp_X4_columnOf := by
  refine zCT_of hl0 (own := RX4) fl_RX4 cs_X4_columnOf nw_X4_columnOf th_X4_columnOf kc_X4_columnOf (fun _ => []) false pg_X4_columnOf rfl (by decide +kernel) hp_X4_columnOf ⟨_, _, rfl, rfl⟩ hfl_RX4 (fun h => nomatch h) (hcs_X4_columnOf hl0) hnw_X4_columnOf hth_X4_columnOf (fun _ _ h => absurd h List.not_mem_nil) hkc_X4_columnOf (fun args w Q X v0 hv0 h => ?_)
  obtain ⟨k, hk, rfl, hQ⟩ := h
  refine ⟨Nat.le_of_ble_eq_true rfl, 20, [], ?_, fun q hq => absurd hq List.not_mem_nil⟩
  (conv => whnf)
  refine ⟨by decide, ?_⟩
  (conv => whnf)
  dsimp only [zkon]
  rw [pk_rem (by omega) (by omega) (by omega)]
  exact hQ
def sp_X4_depthAt : zSpec := fun args w Q _ => ∃ k, k < 96 ∧ args = [.int (nI k)] ∧ Q (some (.int (nI (10 * (k / 12 + 1))))) w
def pg_X4_depthAt : List zE := [(0, .bipush 10, 2, [10]), (2, .iload_n 0, 1, []), (3, .bipush 12, 2, [12]), (5, .idiv, 1, []), (6, .iconst 1, 1, [1]), (7, .iadd, 1, []), (8, .imul, 1, []), (9, .ireturn, 1, [])]
theorem hp_X4_depthAt : ∀ q ∈ pg_X4_depthAt, decode cX4_depthAt q.1 = .ok (q.2.1, q.2.2.1) ∧ ztg q.2.1 q.1 q.2.2.1 q.2.2.2 = true := zpg_of (by decide +kernel)
def cs_X4_depthAt : List (Nat × zCall) := []
theorem hcs_X4_depthAt {l : Launch} (hl0 : l.stackTraces = false) : ∀ q ∈ cs_X4_depthAt, zCallable l RX4 1 q := fun _ h => absurd h List.not_mem_nil
def th_X4_depthAt : List (Nat × String) := []
theorem hth_X4_depthAt : ∀ q ∈ th_X4_depthAt, zThrow cX4_depthAt RX4 q := fun _ h => absurd h List.not_mem_nil
def kc_X4_depthAt : List (Nat × Int32) := []
theorem hkc_X4_depthAt : ∀ q ∈ kc_X4_depthAt, Cond.constant RX4 q.1 q.2 ∈ zTs := fun _ h => absurd h List.not_mem_nil
def nw_X4_depthAt : List (Nat × Nat × Nat × List Value) := []
theorem hnw_X4_depthAt : ∀ q ∈ nw_X4_depthAt, zNew RX4 q := fun _ h => absurd h List.not_mem_nil
set_option maxHeartbeats 4000000 in
set_option maxRecDepth 20000 in
theorem c_X4_depthAt {l : Launch} (hl0 : l.stackTraces = false) : CT l yX4_depthAt (.code yX4_depthAt cX4_depthAt 1 (some .int)) 1 0 0 false sp_X4_depthAt := by
  refine zCT_of hl0 (own := RX4) fl_RX4 cs_X4_depthAt nw_X4_depthAt th_X4_depthAt kc_X4_depthAt (fun _ => []) false pg_X4_depthAt rfl (by decide +kernel) hp_X4_depthAt ⟨_, _, rfl, rfl⟩ hfl_RX4 (fun h => nomatch h) (hcs_X4_depthAt hl0) hnw_X4_depthAt hth_X4_depthAt (fun _ _ h => absurd h List.not_mem_nil) hkc_X4_depthAt (fun args w Q X v0 hv0 h => ?_)
  obtain ⟨k, hk, rfl, hQ⟩ := h
  refine ⟨Nat.le_of_ble_eq_true rfl, 20, [], ?_, fun q hq => absurd hq List.not_mem_nil⟩
  (conv => whnf)
  refine ⟨by decide, ?_⟩
  (conv => whnf)
  dsimp only [zkon]
  rw [pk_div (by omega) (by omega) (by omega), nI_add, pk_mul]
  exact hQ
def sp_X0_heightAt : zSpec := fun args w Q _ => ∃ α ν r k, k < 96 ∧ args = [.ref 1, .int (nI k)] ∧ w = WX α ν r ∧ Q (some (.int (α 0 k))) (WX α ν r)
def fl_RX0 : List (Nat × Nat × Nat) := [(9, 1, 0), (15, 1, 1), (18, 1, 2), (21, 1, 3), (30, 1, 4), (33, 1, 5), (36, 1, 6), (40, 1, 7)]
theorem hfl_RX0 : ∀ q ∈ fl_RX0, zFld RX0 q := zfld_of (ps := [54, 55, 56, 57, 58, 59, 60, 61]) (by decide +kernel)
def pg_X0_heightAt : List zE := [(0, .iload_n 1, 1, []), (1, .invokestatic 43, 3, []), (4, .ifCond .eq 12, 3, [16]), (7, .aload_n 0, 1, []), (8, .getfield 9, 3, []), (11, .iload_n 1, 1, []), (12, .iaload, 1, []), (13, .goto 4, 3, [17]), (16, .iconst 0, 1, [0]), (17, .ireturn, 1, [])]
theorem hp_X0_heightAt : ∀ q ∈ pg_X0_heightAt, decode cX0_heightAt q.1 = .ok (q.2.1, q.2.2.1) ∧ ztg q.2.1 q.1 q.2.2.1 q.2.2.2 = true := zpg_of (by decide +kernel)
def cs_X0_heightAt : List (Nat × zCall) := [(43, 1, 1, none, 0, 0, false, sp_X4_isCell)]
theorem hcs_X0_heightAt {l : Launch} (hl0 : l.stackTraces = false) : ∀ q ∈ cs_X0_heightAt, zCallable l RX0 2 q := List.forall_mem_cons.mpr ⟨zcN (ps := [194, 14, 195]) (host := RX4) (c_X4_isCell hl0) (by decide +kernel) (by decide +kernel) ⟨by decide +kernel, by decide +kernel, by decide +kernel⟩ (by decide) (by decide), fun _ h => absurd h List.not_mem_nil⟩
def th_X0_heightAt : List (Nat × String) := []
theorem hth_X0_heightAt : ∀ q ∈ th_X0_heightAt, zThrow cX0_heightAt RX0 q := fun _ h => absurd h List.not_mem_nil
def kc_X0_heightAt : List (Nat × Int32) := []
theorem hkc_X0_heightAt : ∀ q ∈ kc_X0_heightAt, Cond.constant RX0 q.1 q.2 ∈ zTs := fun _ h => absurd h List.not_mem_nil
def nw_X0_heightAt : List (Nat × Nat × Nat × List Value) := []
theorem hnw_X0_heightAt : ∀ q ∈ nw_X0_heightAt, zNew RX0 q := fun _ h => absurd h List.not_mem_nil
set_option maxHeartbeats 4000000 in
set_option maxRecDepth 20000 in
theorem c_X0_heightAt {l : Launch} (hl0 : l.stackTraces = false) : CT l yX0_heightAt (.code yX0_heightAt cX0_heightAt 2 (some .int)) 2 0 0 false sp_X0_heightAt := by
  refine zCT_of hl0 (own := RX0) fl_RX0 cs_X0_heightAt nw_X0_heightAt th_X0_heightAt kc_X0_heightAt (fun _ => []) false pg_X0_heightAt rfl (by decide +kernel) hp_X0_heightAt ⟨_, _, rfl, rfl⟩ hfl_RX0 (fun h => nomatch h) (hcs_X0_heightAt hl0) hnw_X0_heightAt hth_X0_heightAt (fun _ _ h => absurd h List.not_mem_nil) hkc_X0_heightAt (fun args w Q X v0 hv0 h => ?_)
  obtain ⟨α, ν, r, k, hk, rfl, rfl, hQ⟩ := h
  refine ⟨Nat.le_of_ble_eq_true rfl, 20, [], ?_, fun q hq => absurd hq List.not_mem_nil⟩
  (conv => whnf)
  refine ⟨_, rfl, fun _ => ?_, fun c => absurd (vp_in_nI hk (by decide)) c⟩
  (conv => whnf)
  refine And.intro (fun c => absurd c (show ¬ _ from (by decide))) (fun _ => ?_)
  (conv => whnf)
  refine ⟨vp_in_nI hk (by decide), ?_⟩
  (conv => whnf)
  rw [nI_clamp (by omega)]
  exact hQ
def sp_X0_setHeight : zSpec := fun args w Q _ => ∃ α ν r k x, k < 96 ∧ args = [.ref 1, .int (nI k), .int x] ∧ w = WX α ν r ∧ Q none (WX (zu α 0 (upd (α 0) k x)) ν r)
def pg_X0_setHeight : List zE := [(0, .iload_n 1, 1, []), (1, .invokestatic 43, 3, []), (4, .ifCond .eq 10, 3, [14]), (7, .aload_n 0, 1, []), (8, .getfield 9, 3, []), (11, .iload_n 1, 1, []), (12, .iload_n 2, 1, []), (13, .iastore, 1, []), (14, .return_, 1, [])]
theorem hp_X0_setHeight : ∀ q ∈ pg_X0_setHeight, decode cX0_setHeight q.1 = .ok (q.2.1, q.2.2.1) ∧ ztg q.2.1 q.1 q.2.2.1 q.2.2.2 = true := zpg_of (by decide +kernel)
def cs_X0_setHeight : List (Nat × zCall) := [(43, 1, 1, none, 0, 0, false, sp_X4_isCell)]
theorem hcs_X0_setHeight {l : Launch} (hl0 : l.stackTraces = false) : ∀ q ∈ cs_X0_setHeight, zCallable l RX0 2 q := List.forall_mem_cons.mpr ⟨zcN (ps := [194, 14, 195]) (host := RX4) (c_X4_isCell hl0) (by decide +kernel) (by decide +kernel) ⟨by decide +kernel, by decide +kernel, by decide +kernel⟩ (by decide) (by decide), fun _ h => absurd h List.not_mem_nil⟩
def th_X0_setHeight : List (Nat × String) := []
theorem hth_X0_setHeight : ∀ q ∈ th_X0_setHeight, zThrow cX0_setHeight RX0 q := fun _ h => absurd h List.not_mem_nil
def kc_X0_setHeight : List (Nat × Int32) := []
theorem hkc_X0_setHeight : ∀ q ∈ kc_X0_setHeight, Cond.constant RX0 q.1 q.2 ∈ zTs := fun _ h => absurd h List.not_mem_nil
def nw_X0_setHeight : List (Nat × Nat × Nat × List Value) := []
theorem hnw_X0_setHeight : ∀ q ∈ nw_X0_setHeight, zNew RX0 q := fun _ h => absurd h List.not_mem_nil
set_option maxHeartbeats 4000000 in
set_option maxRecDepth 20000 in
theorem c_X0_setHeight {l : Launch} (hl0 : l.stackTraces = false) : CT l yX0_setHeight (.code yX0_setHeight cX0_setHeight 3 none) 2 0 0 false sp_X0_setHeight := by
  refine zCT_of hl0 (own := RX0) fl_RX0 cs_X0_setHeight nw_X0_setHeight th_X0_setHeight kc_X0_setHeight (fun _ => []) false pg_X0_setHeight rfl (by decide +kernel) hp_X0_setHeight ⟨_, _, rfl, rfl⟩ hfl_RX0 (fun h => nomatch h) (hcs_X0_setHeight hl0) hnw_X0_setHeight hth_X0_setHeight (fun _ _ h => absurd h List.not_mem_nil) hkc_X0_setHeight (fun args w Q X v0 hv0 h => ?_)
  obtain ⟨α, ν, r, k, x, hk, rfl, rfl, hQ⟩ := h
  refine ⟨Nat.le_of_ble_eq_true rfl, 20, [], ?_, fun q hq => absurd hq List.not_mem_nil⟩
  (conv => whnf)
  refine ⟨_, rfl, fun _ => ?_, fun c => absurd (vp_in_nI hk (by decide)) c⟩
  (conv => whnf)
  refine And.intro (fun c => absurd c (show ¬ _ from (by decide))) (fun _ => ?_)
  (conv => whnf)
  refine ⟨vp_in_nI hk (by decide), ?_⟩
  (conv => whnf)
  rw [nI_clamp (by omega)]
  exact hQ
end
section
/-! ===== members of the JDK: Arrays.fill, Math.max ===== -/
/-- the first n places of f are v -/
def zfl (v : Int32) (f : Nat → Int32) (n : Nat) : Nat → Int32 := fun j => if j < n then v else f j
theorem zfl_0 (v : Int32) (f : Nat → Int32) : zfl v f 0 = f := by
  funext j
  simp [zfl]
theorem zfl_s (v : Int32) (f : Nat → Int32) (n : Nat) : upd (zfl v f n) n v = zfl v f (n + 1) := by
  funext j
  unfold upd zfl
  by_cases h1 : j = n
  · subst h1
    simp
  · by_cases h2 : j < n
    · have h3 : j < n + 1 := by omega
      simp [h1, h2, h3]
    · have h3 : ¬ j < n + 1 := by omega
      simp [h1, h2, h3]
theorem zset_self {w : zW} {a : Nat} {e : va_E} (h : w[a]? = some e) : w.set a e = w := by
  apply List.ext_getElem?
  intro i
  rw [List.getElem?_set]
  by_cases h1 : a = i
  · subst h1
    have hl := (List.getElem?_eq_some_iff.mp h).1
    rw [h]
    simp [hl]
  · simp [h1]
theorem zset_get {w : zW} {a : Nat} {e e' : va_E} (h : w[a]? = some e) : (w.set a e')[a]? = some e' := by
  rw [List.getElem?_set_self ((List.getElem?_eq_some_iff.mp h).1)]
def sp_J7_fill_53178 : zSpec := fun args w Q _ => ∃ a v n f, args = [.ref a, .int v] ∧ a < 1000 ∧ w[a]? = some (.inl (0, n, .inl f)) ∧ n < 2 ^ 31 ∧ Q none (w.set a (.inl (0, n, .inl (zfl v f n))))
def fl_RJ7 : List (Nat × Nat × Nat) := []
theorem hfl_RJ7 : ∀ q ∈ fl_RJ7, zFld RJ7 q := zfld_of (ps := []) (by decide +kernel)
def pg_J7_fill_53178 : List zE := [(0, .iconst 0, 1, [0]), (1, .istore_n 2, 1, []), (2, .aload_n 0, 1, []), (3, .arraylength, 1, []), (4, .istore_n 3, 1, []), (5, .iload_n 2, 1, []), (6, .iload_n 3, 1, []), (7, .if_icmp .ge 13, 3, [20]), (10, .aload_n 0, 1, []), (11, .iload_n 2, 1, []), (12, .iload_n 1, 1, []), (13, .iastore, 1, []), (14, .iinc 2 1, 3, [1]), (17, .goto (-12), 3, [5]), (20, .return_, 1, [])]
theorem hp_J7_fill_53178 : ∀ q ∈ pg_J7_fill_53178, decode cJ7_fill_53178 q.1 = .ok (q.2.1, q.2.2.1) ∧ ztg q.2.1 q.1 q.2.2.1 q.2.2.2 = true := zpg_of (by decide +kernel)
def cs_J7_fill_53178 : List (Nat × zCall) := []
theorem hcs_J7_fill_53178 {l : Launch} (hl0 : l.stackTraces = false) : ∀ q ∈ cs_J7_fill_53178, zCallable l RJ7 1 q := fun _ h => absurd h List.not_mem_nil
def th_J7_fill_53178 : List (Nat × String) := []
theorem hth_J7_fill_53178 : ∀ q ∈ th_J7_fill_53178, zThrow cJ7_fill_53178 RJ7 q := fun _ h => absurd h List.not_mem_nil
def kc_J7_fill_53178 : List (Nat × Int32) := []
theorem hkc_J7_fill_53178 : ∀ q ∈ kc_J7_fill_53178, Cond.constant RJ7 q.1 q.2 ∈ zTs := fun _ h => absurd h List.not_mem_nil
def nw_J7_fill_53178 : List (Nat × Nat × Nat × List Value) := []
theorem hnw_J7_fill_53178 : ∀ q ∈ nw_J7_fill_53178, zNew RJ7 q := fun _ h => absurd h List.not_mem_nil
set_option maxHeartbeats 4000000 in
set_option maxRecDepth 20000 in
theorem c_J7_fill_53178 {l : Launch} (hl0 : l.stackTraces = false) : CT l yJ7_fill_53178 (.code yJ7_fill_53178 cJ7_fill_53178 4 none) 1 0 0 false sp_J7_fill_53178 := by
  refine zCT_of hl0 (own := RJ7) fl_RJ7 cs_J7_fill_53178 nw_J7_fill_53178 th_J7_fill_53178 kc_J7_fill_53178 (fun _ => []) false pg_J7_fill_53178 rfl (by decide +kernel) hp_J7_fill_53178 ⟨_, _, rfl, rfl⟩ hfl_RJ7 (fun h => nomatch h) (hcs_J7_fill_53178 hl0) hnw_J7_fill_53178 hth_J7_fill_53178 (fun _ _ h => absurd h List.not_mem_nil) hkc_J7_fill_53178 (fun args w Q X v0 hv0 h => ?_)
  obtain ⟨a, v, n, f, rfl, ha, hw, hn, hQ⟩ := h
  have hb : Nat.ble 1000 a = false := by
    cases e : Nat.ble 1000 a
    · rfl
    · have h9 := Nat.le_of_ble_eq_true e
      exact absurd ha (Nat.not_lt.mpr h9)
  refine ⟨Nat.le_of_ble_eq_true rfl, 60, [(5, fun m L S w' cu su => ∃ i, zsub [(0, .ref a), (1, .int v), (2, .int (nI i)), (3, .int (nI n))] L ∧ S = [] ∧ w' = w.set a (.inl (0, n, .inl (zfl v f i))) ∧ i ≤ n ∧ m = n - i ∧ cu = 0 ∧ su = 0)], ?_, ?_⟩
  · (conv => whnf)
    rw [hb]
    (conv => whnf)
    rw [hw]
    (conv => whnf)
    refine ⟨n, 0, ⟨rfl, rfl, rfl, rfl, trivial⟩, rfl, ?_, by omega, by omega, rfl, rfl⟩
    rw [zfl_0, zset_self hw]
  · intro q hq
    rcases List.mem_cons.mp hq with rfl | hq
    · rintro m L S w' cu su ⟨i, hL, rfl, rfl, hi, rfl, rfl, rfl⟩
      refine ⟨_, hL, ?_⟩
      (conv => whnf)
      refine And.intro (fun c => ?_) (fun c => ?_)
      · (conv => whnf)
        rw [zset_get hw]
        (conv => whnf)
        have hlt : i < n := (nI_ltI (by omega) hn).mp c
        refine ⟨vp_in_nI hlt hn, ?_⟩
        (conv => whnf)
        refine ⟨n - (i + 1), by omega, i + 1, ⟨rfl, rfl, ?_, rfl, trivial⟩, rfl, ?_, by omega, rfl, rfl, rfl⟩
        · exact congrArg (fun x => some (Value.int x)) (nI_add i 1)
        · rw [nI_clamp (by omega), List.set_set, zfl_s]
      · have hge : i = n := by
          have : ¬ i < n := fun h => c (nI_lt h hn)
          omega
        subst hge
        (conv => whnf)
        exact hQ
    · exact absurd hq List.not_mem_nil
def zspMax : zSpec := fun args w Q _ => ∃ x y, args = [.int x, .int y] ∧ Q (some (.int (if x < y then y else x))) w
/-- Math.max is the machine's own -/
theorem zcMax {l : Launch} {own : String} {d idx : Nat} {ps : List Nat} (hz : zins ps [.methodLink own idx Lib.Math.max.name, .static Lib.Math.max.name, .initialized "java/lang/Math", .code Lib.Math.max.name Lib.Math.max.code 2 (some .int)] = true) (hd : 0 < d) : zCallable l own d (idx, 1, 2, none, 0, 0, false, zspMax) := by
  intro Γ T B pc L S as S' w cu su QN _ hd2 hp hrc hcat hcu hsu hal hN hSp ad H locs ls hP hD hS hl ha
  obtain ⟨hlen, rfl⟩ := zpop_top hp
  obtain ⟨x, y, rfl, hq⟩ := hSp
  obtain ⟨e1, hx, hb, hml, hown, hE, hRf, hRl, hA, hrC, hrS, hTa, hTn, hex⟩ := id B
  have hm9 : ∀ w ∈ [Cond.methodLink own idx Lib.Math.max.name, .static Lib.Math.max.name, .initialized "java/lang/Math", .code Lib.Math.max.name Lib.Math.max.code 2 (some .int)], w.before Γ.args Γ.s = true := fun w hw => zts B w (zins_in hz w hw)
  have h9 := hN _ w hq ad H locs ls hP hD hS hl ha
  have h8 : ((S'.map (zcv ad)).map fun v => v.category).sum ≤ 8 := by rw [zcat_map]; exact hcat
  exact va_mmax hx hb (hml.trans hl.1.symm) hown (hm9 _ (by simp)) (hm9 _ (by simp)) (hm9 _ (by simp)) (hm9 _ (by simp)) (by omega) (Nat.le_trans (Nat.add_le_add_right h8 13) (by omega)) (Nat.le_trans hcu hrC) (Nat.le_trans hsu hrS) hd2 h9
end
section
/-! ===== SHAPES: pure facts of the chart ===== -/
theorem zholes : ∀ (m n : Nat) (f : Nat → Nat), (∀ i, i < n → f i < m) → (∀ i j, i < j → j < n → f i ≠ f j) → n ≤ m := by
  intro m
  induction m with
  | zero =>
    intro n f h1 _
    rcases Nat.eq_zero_or_pos n with h | h
    · omega
    · exact absurd (h1 0 h) (Nat.not_lt_zero _)
  | succ m ih =>
    intro n f h1 h2
    by_cases hx : ∃ i, i < n ∧ f i = m
    · obtain ⟨a, ha, hfa⟩ := hx
      have hg := ih (n - 1) (fun i => if i < a then f i else f (i + 1)) (by
        intro i hi
        by_cases q : i < a
        · simp only [if_pos q]
          have b1 := h1 i (by omega)
          have b2 := h2 i a q ha
          omega
        · simp only [if_neg q]
          have b1 := h1 (i + 1) (by omega)
          have b2 := h2 a (i + 1) (by omega) (by omega)
          omega) (by
        intro i j hij hj
        by_cases q : i < a
        · by_cases r : j < a
          · simp only [if_pos q, if_pos r]
            exact h2 i j hij (by omega)
          · simp only [if_pos q, if_neg r]
            exact h2 i (j + 1) (by omega) (by omega)
        · have r : ¬ j < a := by omega
          simp only [if_neg q, if_neg r]
          exact h2 (i + 1) (j + 1) (by omega) (by omega))
      omega
    · have hg := ih n f (by
        intro i hi
        have b1 := h1 i hi
        have b2 : f i ≠ m := fun e => hx ⟨i, hi, e⟩
        omega) h2
      omega
/-- neighbours -/
def zadj (a b : Nat) : Prop := b + 12 = a ∨ a + 12 = b ∨ (a % 12 > 0 ∧ b + 1 = a) ∨ (a % 12 < 11 ∧ b = a + 1)
theorem zadj_symm {a b : Nat} (h : zadj a b) : zadj b a := by
  unfold zadj at h ⊢
  omega
/-- from a to b over n steps between neighbours with heights above 0 -/
def zrc (h : Nat → Int32) : Nat → Nat → Nat → Prop
  | 0, a, b => a = b ∧ a < 96 ∧ h a ≠ 0
  | n + 1, a, b => ∃ c, zrc h n a c ∧ zadj c b ∧ b < 96 ∧ h b ≠ 0
def zcon (h : Nat → Int32) (a b : Nat) : Prop := ∃ n, zrc h n a b
theorem zrc_end {h : Nat → Int32} : ∀ {n a b : Nat}, zrc h n a b → b < 96 ∧ h b ≠ 0
  | 0, a, b, q => by obtain ⟨rfl, q⟩ := q; exact q
  | n + 1, a, b, q => by obtain ⟨c, -, -, q⟩ := q; exact q
theorem zcon_end {h : Nat → Int32} {a b : Nat} (q : zcon h a b) : b < 96 ∧ h b ≠ 0 := zrc_end q.choose_spec
theorem zcon_refl {h : Nat → Int32} {a : Nat} (h1 : a < 96) (h2 : h a ≠ 0) : zcon h a a := ⟨0, rfl, h1, h2⟩
theorem zcon_step {h : Nat → Int32} {a b c : Nat} (q : zcon h a b) (hb : zadj b c) (h1 : c < 96) (h2 : h c ≠ 0) : zcon h a c := by
  obtain ⟨n, q⟩ := q
  exact ⟨n + 1, b, q, hb, h1, h2⟩
theorem zcon_trans {h : Nat → Int32} {a b c : Nat} (q : zcon h a b) (r : zcon h b c) : zcon h a c := by
  obtain ⟨n, r⟩ := r
  induction n generalizing c with
  | zero => obtain ⟨rfl, -, -⟩ := r; exact q
  | succ n ih =>
    obtain ⟨d, r1, r2, r3, r4⟩ := r
    exact zcon_step (ih r1) r2 r3 r4
theorem zcon_symm {h : Nat → Int32} {a b : Nat} (q : zcon h a b) : zcon h b a := by
  obtain ⟨n, q⟩ := q
  induction n generalizing b with
  | zero => obtain ⟨rfl, h1, h2⟩ := q; exact zcon_refl h1 h2
  | succ n ih =>
    obtain ⟨c, q1, q2, q3, q4⟩ := q
    have e := zrc_end q1
    exact zcon_trans (zcon_step (zcon_refl q3 q4) (zadj_symm q2) e.1 e.2) (ih q1)
theorem zcon_beg {h : Nat → Int32} {a b : Nat} (q : zcon h a b) : a < 96 ∧ h a ≠ 0 := zcon_end (zcon_symm q)
theorem zcon_closed {h : Nat → Int32} {a b : Nat} {S : Nat → Prop} (h0 : S a) (hs : ∀ c d, S c → zadj c d → d < 96 → h d ≠ 0 → S d) (q : zcon h a b) : S b := by
  obtain ⟨n, q⟩ := q
  induction n generalizing b with
  | zero => obtain ⟨rfl, -, -⟩ := q; exact h0
  | succ n ih =>
    obtain ⟨c, q1, q2, q3, q4⟩ := q
    exact hs c b (ih q1) q2 q3 q4
theorem zcon_congr {h g : Nat → Int32} (e : ∀ k, k < 96 → h k = g k) {a b : Nat} (q : zcon h a b) : zcon g a b := by
  obtain ⟨n, q⟩ := q
  induction n generalizing b with
  | zero => obtain ⟨rfl, h1, h2⟩ := q; exact zcon_refl h1 (by rw [← e a h1]; exact h2)
  | succ n ih =>
    obtain ⟨c, q1, q2, q3, q4⟩ := q
    exact zcon_step (ih q1) q2 q3 (by rw [← e b q3]; exact q4)
/-- cell k is told by the lowest of its shape, or by -1 -/
def zlowAt (h f : Nat → Int32) (k : Nat) : Prop := (h k = 0 ∧ f k = -1) ∨ (h k ≠ 0 ∧ ∃ j, f k = nI j ∧ zcon h j k ∧ ∀ i, zcon h i k → j ≤ i)
def zLow (h f : Nat → Int32) : Prop := ∀ k, k < 96 → zlowAt h f k
theorem nI_ne_m1 {j : Nat} (hj : j < 2 ^ 31) : nI j ≠ -1 := by
  intro e
  have h := congrArg Int32.toInt e
  rw [nI_toInt hj] at h
  have h2 : (-1 : Int32).toInt = -1 := by decide
  rw [h2] at h
  omega
theorem nI_inj {a b : Nat} (ha : a < 2 ^ 31) (hb : b < 2 ^ 31) (e : nI a = nI b) : a = b := (nI_eq ha hb).mp e
theorem zLow_one {h f g : Nat → Int32} {k : Nat} (hf : zlowAt h f k) (hg : zlowAt h g k) : f k = g k := by
  rcases hf with ⟨a1, a2⟩ | ⟨a1, i, a2, a3, a4⟩ <;> rcases hg with ⟨b1, b2⟩ | ⟨b1, j, b2, b3, b4⟩
  · rw [a2, b2]
  · exact absurd a1 b1
  · exact absurd b1 a1
  · have e : i = j := Nat.le_antisymm (a4 j b3) (b4 i a3)
    rw [a2, b2, e]
/-- the shapes whose lowest cells lie below c are told, all else is -1 -/
def zLowTo (h : Nat → Int32) (c : Nat) (f : Nat → Int32) : Prop := ∀ k, k < 96 → ((∃ i, i < c ∧ zcon h i k) → zlowAt h f k) ∧ ((¬ ∃ i, i < c ∧ zcon h i k) → f k = -1)
theorem zLowTo_all {h f : Nat → Int32} (q : zLowTo h 96 f) : zLow h f := by
  intro k hk
  by_cases e : h k = 0
  · refine Or.inl ⟨e, (q k hk).2 ?_⟩
    rintro ⟨i, -, hi⟩
    exact (zcon_end hi).2 e
  · exact (q k hk).1 ⟨k, hk, zcon_refl hk e⟩
theorem zLowTo_0 {h f : Nat → Int32} (q : ∀ k, k < 96 → f k = -1) : zLowTo h 0 f := fun k hk => ⟨fun ⟨_, hi, _⟩ => absurd hi (Nat.not_lt_zero _), fun _ => q k hk⟩
/-- where c is in a shape that is told, or in none, there is nothing to do -/
theorem zLowTo_skip {h f : Nat → Int32} {c : Nat} (hc : c < 96) (q : zLowTo h c f) (hn : f c ≠ -1 ∨ h c = 0) : zLowTo h (c + 1) f := by
  have key : ∀ k, (∃ i, i < c + 1 ∧ zcon h i k) → ∃ i, i < c ∧ zcon h i k := by
    rintro k ⟨i, hi, hik⟩
    by_cases e : i < c
    · exact ⟨i, e, hik⟩
    · have e2 : i = c := by omega
      subst e2
      rcases hn with hn | hn
      · by_cases x : ∃ j, j < i ∧ zcon h j i
        · obtain ⟨j, hj, hji⟩ := x
          exact ⟨j, hj, zcon_trans hji hik⟩
        · exact absurd ((q i hc).2 x) hn
      · exact absurd hn (zcon_beg hik).2
  intro k hk
  exact ⟨fun x => (q k hk).1 (key k x), fun x => (q k hk).2 (fun ⟨i, hi, hik⟩ => x ⟨i, by omega, hik⟩)⟩
/-- c is the lowest of a shape: its cells are told by c -/
theorem zLowTo_put {h f g : Nat → Int32} {c : Nat} (hc : c < 96) (q : zLowTo h c f) (hn : f c = -1) (h0 : h c ≠ 0) (h1 : ∀ k, k < 96 → zcon h c k → g k = nI c) (h2 : ∀ k, k < 96 → ¬ zcon h c k → g k = f k) : zLowTo h (c + 1) g := by
  have hno : ∀ i, i < c → ¬ zcon h i c := by
    intro i hi hic
    rcases (q c hc).1 ⟨i, hi, hic⟩ with ⟨e, -⟩ | ⟨-, j, e, hj, -⟩
    · exact h0 e
    · rw [hn] at e
      exact nI_ne_m1 (by have := (zcon_beg hj).1; omega) e.symm
  intro k hk
  by_cases e : zcon h c k
  · refine ⟨fun _ => Or.inr ⟨(zcon_end e).2, c, h1 k hk e, e, fun i hi => ?_⟩, fun x => absurd ⟨c, by omega, e⟩ x⟩
    apply Classical.byContradiction
    intro hlt
    exact hno i (by omega) (zcon_trans hi (zcon_symm e))
  · have hg := h2 k hk e
    constructor
    · rintro ⟨i, hi, hik⟩
      have hi2 : i < c := by
        apply Classical.byContradiction
        intro x
        have : i = c := by omega
        subst this
        exact e hik
      rcases (q k hk).1 ⟨i, hi2, hik⟩ with ⟨a, b⟩ | ⟨a, j, b, d⟩
      · exact Or.inl ⟨a, by rw [hg]; exact b⟩
      · exact Or.inr ⟨a, j, by rw [hg]; exact b, d⟩
    · intro x
      rw [hg]
      exact (q k hk).2 (fun ⟨i, hi, hik⟩ => x ⟨i, by omega, hik⟩)
/-- an outing from k: n cells ρ reached, of the first i of them all neighbours -/
def zBF (h : Nat → Int32) (k n i : Nat) (ρ : Nat → Nat) : Prop :=
  i ≤ n ∧ (∀ j, j < n → zcon h k (ρ j)) ∧ (∀ a b, a < b → b < n → ρ a ≠ ρ b) ∧ (h k ≠ 0 → ∃ j, j < n ∧ ρ j = k) ∧ (∀ j, j < i → ∀ b, b < 96 → zadj (ρ j) b → h b ≠ 0 → ∃ j', j' < n ∧ ρ j' = b)
theorem zBF_le {h : Nat → Int32} {k n i : Nat} {ρ : Nat → Nat} (q : zBF h k n i ρ) : n ≤ 96 := zholes 96 n ρ (fun j hj => (zcon_end (q.2.1 j hj)).1) q.2.2.1
theorem zBF_lt {h : Nat → Int32} {k n i : Nat} {ρ : Nat → Nat} (q : zBF h k n i ρ) {b : Nat} (hb : b < 96) (hv : ∀ j, j < n → ρ j ≠ b) : n < 96 := by
  have h1 := zholes 96 (n + 1) (fun j => if j < n then ρ j else b) (fun j hj => by
    by_cases e : j < n
    · simp only [if_pos e]
      exact (zcon_end (q.2.1 j e)).1
    · simp only [if_neg e]
      exact hb) (fun a c hac hc => by
    by_cases e : c < n
    · have e2 : a < n := by omega
      simp only [if_pos e, if_pos e2]
      exact q.2.2.1 a c hac e
    · have e2 : a < n := by omega
      simp only [if_neg e, if_pos e2]
      exact hv a e2)
  omega
theorem zBF_done {h : Nat → Int32} {k n : Nat} {ρ : Nat → Nat} (q : zBF h k n n ρ) (b : Nat) : zcon h k b ↔ ∃ j, j < n ∧ ρ j = b := by
  obtain ⟨-, q1, q2, q3, q4⟩ := q
  constructor
  · intro hb
    refine zcon_closed (S := fun b => ∃ j, j < n ∧ ρ j = b) (q3 (zcon_beg hb).2) ?_ hb
    rintro c d ⟨j, hj, rfl⟩ h1 h2 h3
    exact q4 j hj d h2 h1 h3
  · rintro ⟨j, hj, rfl⟩
    exact q1 j hj
theorem zBF_0 {h : Nat → Int32} {k : Nat} (ρ : Nat → Nat) (e : h k = 0) : zBF h k 0 0 ρ :=
  ⟨Nat.le_refl 0, fun j hj => absurd hj (Nat.not_lt_zero j), fun _ b _ hb => absurd hb (Nat.not_lt_zero b), fun x => absurd e x, fun j hj => absurd hj (Nat.not_lt_zero j)⟩
theorem zBF_1 {h : Nat → Int32} {k : Nat} {ρ : Nat → Nat} (hk : k < 96) (e : h k ≠ 0) (hr : ρ 0 = k) : zBF h k 1 0 ρ := by
  refine ⟨Nat.zero_le 1, fun j hj => ?_, fun a b hab hb => by omega, fun _ => ⟨0, Nat.zero_lt_one, hr⟩, fun j hj => absurd hj (Nat.not_lt_zero j)⟩
  have : j = 0 := by omega
  subst this
  rw [hr]
  exact zcon_refl hk e
/-- one more cell -/
theorem zBF_add {h : Nat → Int32} {k n i b : Nat} {ρ : Nat → Nat} (q : zBF h k n i ρ) (hb : zcon h k b) (hv : ∀ j, j < n → ρ j ≠ b) : zBF h k (n + 1) i (va_up ρ n b) := by
  obtain ⟨q0, q1, q2, q3, q4⟩ := q
  have hlo : ∀ j, j < n → va_up ρ n b j = ρ j := fun j hj => by
    have : j ≠ n := by omega
    simp [va_up, this]
  have hhi : va_up ρ n b n = b := by simp [va_up]
  refine ⟨by omega, fun j hj => ?_, fun a c hac hc => ?_, fun x => ?_, fun j hj d hd hjd h0 => ?_⟩
  · by_cases e : j < n
    · rw [hlo j e]; exact q1 j e
    · have : j = n := by omega
      subst this
      rw [hhi]; exact hb
  · by_cases e : c < n
    · rw [hlo c e, hlo a (by omega)]
      exact q2 a c hac e
    · have : c = n := by omega
      subst this
      rw [hhi, hlo a hac]
      exact hv a hac
  · obtain ⟨j, hj, e⟩ := q3 x
    exact ⟨j, by omega, by rw [hlo j hj]; exact e⟩
  · rw [hlo j (by omega)] at hjd
    obtain ⟨j', hj', e⟩ := q4 j hj d hd hjd h0
    exact ⟨j', by omega, by rw [hlo j' hj']; exact e⟩
/-- the next cell has been looked at all round -/
theorem zBF_next {h : Nat → Int32} {k n i : Nat} {ρ : Nat → Nat} (q : zBF h k n i ρ) (hi : i < n) (hall : ∀ b, b < 96 → zadj (ρ i) b → h b ≠ 0 → ∃ j', j' < n ∧ ρ j' = b) : zBF h k n (i + 1) ρ := by
  obtain ⟨q0, q1, q2, q3, q4⟩ := q
  refine ⟨by omega, q1, q2, q3, fun j hj b hb hjb h0 => ?_⟩
  by_cases e : j < i
  · exact q4 j e b hb hjb h0
  · have : j = i := by omega
    subst this
    exact hall b hb hjb h0
end
section
/-! ===== EchoRegistry$Chart ===== -/
def zcnt (f : Nat → Int32) (s : Int32) : Nat → Nat
  | 0 => 0
  | n + 1 => zcnt f s n + (if s ≠ -1 ∧ f n = s then 1 else 0)
def zcs (f : Nat → Int32) : Nat → Nat
  | 0 => 0
  | n + 1 => zcs f n + (if f n = nI n then 1 else 0)
def znm (f t m : Nat → Int32) (s : Int32) : Nat → Int32 × Int32
  | 0 => (0, 0)
  | n + 1 => if (s ≠ -1 ∧ f n = s) ∧ (znm f t m s n).1 < t n then (t n, m n) else znm f t m s n
def zmx (f h : Nat → Int32) (s : Int32) : Nat → Int32
  | 0 => 0
  | n + 1 => if s ≠ -1 ∧ f n = s then (if zmx f h s n < h n then h n else zmx f h s n) else zmx f h s n
def znr (ρ : Nat → Nat) (t m : Nat → Int32) : Nat → Int32 × Int32
  | 0 => (0, 0)
  | n + 1 => if (znr ρ t m n).1 < t (ρ n) then (t (ρ n), m (ρ n)) else znr ρ t m n
theorem zcnt_t {f : Nat → Int32} {s : Int32} {n : Nat} (h : s ≠ -1 ∧ f n = s) : zcnt f s (n + 1) = zcnt f s n + 1 := by
  show zcnt f s n + (if s ≠ -1 ∧ f n = s then 1 else 0) = _
  rw [if_pos h]
theorem zcnt_f {f : Nat → Int32} {s : Int32} {n : Nat} (h : ¬ (s ≠ -1 ∧ f n = s)) : zcnt f s (n + 1) = zcnt f s n := by
  show zcnt f s n + (if s ≠ -1 ∧ f n = s then 1 else 0) = _
  rw [if_neg h]; rfl
theorem zcs_t {f : Nat → Int32} {n : Nat} (h : f n = nI n) : zcs f (n + 1) = zcs f n + 1 := by
  show zcs f n + (if f n = nI n then 1 else 0) = _
  rw [if_pos h]
theorem zcs_f {f : Nat → Int32} {n : Nat} (h : ¬ f n = nI n) : zcs f (n + 1) = zcs f n := by
  show zcs f n + (if f n = nI n then 1 else 0) = _
  rw [if_neg h]; rfl
theorem znm_t {f t m : Nat → Int32} {s : Int32} {n : Nat} (h : s ≠ -1 ∧ f n = s) (h2 : (znm f t m s n).1 < t n) : znm f t m s (n + 1) = (t n, m n) := if_pos ⟨h, h2⟩
theorem znm_f {f t m : Nat → Int32} {s : Int32} {n : Nat} (h : ¬ (s ≠ -1 ∧ f n = s) ∨ ¬ (znm f t m s n).1 < t n) : znm f t m s (n + 1) = znm f t m s n := if_neg (fun q => h.elim (fun a => a q.1) (fun a => a q.2))
theorem zmx_t {f h : Nat → Int32} {s : Int32} {n : Nat} (q : s ≠ -1 ∧ f n = s) : zmx f h s (n + 1) = if zmx f h s n < h n then h n else zmx f h s n := if_pos q
theorem zmx_f {f h : Nat → Int32} {s : Int32} {n : Nat} (q : ¬ (s ≠ -1 ∧ f n = s)) : zmx f h s (n + 1) = zmx f h s n := if_neg q
theorem znr_t {ρ : Nat → Nat} {t m : Nat → Int32} {n : Nat} (h2 : (znr ρ t m n).1 < t (ρ n)) : znr ρ t m (n + 1) = (t (ρ n), m (ρ n)) := if_pos h2
theorem znr_f {ρ : Nat → Nat} {t m : Nat → Int32} {n : Nat} (h2 : ¬ (znr ρ t m n).1 < t (ρ n)) : znr ρ t m (n + 1) = znr ρ t m n := if_neg h2
/-- one head, one way out of the list of loops -/
theorem zone {P : Nat × (Nat → zK) → Prop} {q0 : Nat × (Nat → zK)} (h : P q0) : ∀ q ∈ [q0], P q := fun q hq => by
  rw [List.mem_singleton.mp hq]; exact h
theorem zi1 {a b : Nat} (e : b = a + 1) : (some (Value.int (nI a + nI 1))) = some (Value.int (nI b)) := by
  rw [nI_add, e]
def sp_X0_shapeAt : zSpec := fun args w Q _ => ∃ α ν r k, k < 96 ∧ args = [.ref 1, .int (nI k)] ∧ w = WX α ν r ∧ Q (some (.int (α 3 k))) (WX α ν r)
def pg_X0_shapeAt : List zE := [(0, .iload_n 1, 1, []), (1, .invokestatic 43, 3, []), (4, .ifCond .eq 12, 3, [16]), (7, .aload_n 0, 1, []), (8, .getfield 21, 3, []), (11, .iload_n 1, 1, []), (12, .iaload, 1, []), (13, .goto 4, 3, [17]), (16, .iconst (-1), 1, []), (17, .ireturn, 1, [])]
theorem hp_X0_shapeAt : ∀ q ∈ pg_X0_shapeAt, decode cX0_shapeAt q.1 = .ok (q.2.1, q.2.2.1) ∧ ztg q.2.1 q.1 q.2.2.1 q.2.2.2 = true := zpg_of (by decide +kernel)
def cs_X0_shapeAt : List (Nat × zCall) := [(43, 1, 1, none, 0, 0, false, sp_X4_isCell)]
theorem hcs_X0_shapeAt {l : Launch} (hl0 : l.stackTraces = false) : ∀ q ∈ cs_X0_shapeAt, zCallable l RX0 2 q := List.forall_mem_cons.mpr ⟨zcN (ps := [194, 14, 195]) (host := RX4) (c_X4_isCell hl0) (by decide +kernel) (by decide +kernel) ⟨by decide +kernel, by decide +kernel, by decide +kernel⟩ (by decide) (by decide), fun _ h => absurd h List.not_mem_nil⟩
def th_X0_shapeAt : List (Nat × String) := []
theorem hth_X0_shapeAt : ∀ q ∈ th_X0_shapeAt, zThrow cX0_shapeAt RX0 q := fun _ h => absurd h List.not_mem_nil
def kc_X0_shapeAt : List (Nat × Int32) := []
theorem hkc_X0_shapeAt : ∀ q ∈ kc_X0_shapeAt, Cond.constant RX0 q.1 q.2 ∈ zTs := fun _ h => absurd h List.not_mem_nil
def nw_X0_shapeAt : List (Nat × Nat × Nat × List Value) := []
theorem hnw_X0_shapeAt : ∀ q ∈ nw_X0_shapeAt, zNew RX0 q := fun _ h => absurd h List.not_mem_nil
set_option maxHeartbeats 4000000 in
set_option maxRecDepth 20000 in
theorem c_X0_shapeAt {l : Launch} (hl0 : l.stackTraces = false) : CT l yX0_shapeAt (.code yX0_shapeAt cX0_shapeAt 2 (some .int)) 2 0 0 false sp_X0_shapeAt := by
  refine zCT_of hl0 (own := RX0) fl_RX0 cs_X0_shapeAt nw_X0_shapeAt th_X0_shapeAt kc_X0_shapeAt (fun _ => []) false pg_X0_shapeAt rfl (by decide +kernel) hp_X0_shapeAt ⟨_, _, rfl, rfl⟩ hfl_RX0 (fun h => nomatch h) (hcs_X0_shapeAt hl0) hnw_X0_shapeAt hth_X0_shapeAt (fun _ _ h => absurd h List.not_mem_nil) hkc_X0_shapeAt (fun args w Q X v0 hv0 h => ?_)
  obtain ⟨α, ν, r, k, hk, rfl, rfl, hQ⟩ := h
  refine ⟨Nat.le_of_ble_eq_true rfl, 20, [], ?_, fun q hq => absurd hq List.not_mem_nil⟩
  (conv => whnf)
  refine ⟨_, rfl, fun _ => ?_, fun c => absurd (vp_in_nI hk (by decide)) c⟩
  (conv => whnf)
  refine And.intro (fun c => absurd c (show ¬ _ from (by decide))) (fun _ => ?_)
  (conv => whnf)
  refine ⟨vp_in_nI hk (by decide), ?_⟩
  (conv => whnf)
  rw [nI_clamp (by omega)]
  exact hQ
def sp_X0_isIn : zSpec := fun args w Q _ => ∃ α ν r k s, k < 96 ∧ args = [.ref 1, .int (nI k), .int s] ∧ w = WX α ν r ∧ zB Q (s ≠ -1 ∧ α 3 k = s) (WX α ν r)
def pg_X0_isIn : List zE := [(0, .iload_n 2, 1, []), (1, .iconst (-1), 1, []), (2, .if_icmp .eq 24, 3, [26]), (5, .iload_n 1, 1, []), (6, .invokestatic 43, 3, []), (9, .ifCond .eq 17, 3, [26]), (12, .aload_n 0, 1, []), (13, .getfield 21, 3, []), (16, .iload_n 1, 1, []), (17, .iaload, 1, []), (18, .iload_n 2, 1, []), (19, .if_icmp .ne 7, 3, [26]), (22, .iconst 1, 1, [1]), (23, .goto 4, 3, [27]), (26, .iconst 0, 1, [0]), (27, .ireturn, 1, [])]
theorem hp_X0_isIn : ∀ q ∈ pg_X0_isIn, decode cX0_isIn q.1 = .ok (q.2.1, q.2.2.1) ∧ ztg q.2.1 q.1 q.2.2.1 q.2.2.2 = true := zpg_of (by decide +kernel)
def cs_X0_isIn : List (Nat × zCall) := [(43, 1, 1, none, 0, 0, false, sp_X4_isCell)]
theorem hcs_X0_isIn {l : Launch} (hl0 : l.stackTraces = false) : ∀ q ∈ cs_X0_isIn, zCallable l RX0 2 q := List.forall_mem_cons.mpr ⟨zcN (ps := [194, 14, 195]) (host := RX4) (c_X4_isCell hl0) (by decide +kernel) (by decide +kernel) ⟨by decide +kernel, by decide +kernel, by decide +kernel⟩ (by decide) (by decide), fun _ h => absurd h List.not_mem_nil⟩
def th_X0_isIn : List (Nat × String) := []
theorem hth_X0_isIn : ∀ q ∈ th_X0_isIn, zThrow cX0_isIn RX0 q := fun _ h => absurd h List.not_mem_nil
def kc_X0_isIn : List (Nat × Int32) := []
theorem hkc_X0_isIn : ∀ q ∈ kc_X0_isIn, Cond.constant RX0 q.1 q.2 ∈ zTs := fun _ h => absurd h List.not_mem_nil
def nw_X0_isIn : List (Nat × Nat × Nat × List Value) := []
theorem hnw_X0_isIn : ∀ q ∈ nw_X0_isIn, zNew RX0 q := fun _ h => absurd h List.not_mem_nil
set_option maxHeartbeats 4000000 in
set_option maxRecDepth 20000 in
theorem c_X0_isIn {l : Launch} (hl0 : l.stackTraces = false) : CT l yX0_isIn (.code yX0_isIn cX0_isIn 3 (some .boolean)) 2 0 0 false sp_X0_isIn := by
  refine zCT_of hl0 (own := RX0) fl_RX0 cs_X0_isIn nw_X0_isIn th_X0_isIn kc_X0_isIn (fun _ => []) false pg_X0_isIn rfl (by decide +kernel) hp_X0_isIn ⟨_, _, rfl, rfl⟩ hfl_RX0 (fun h => nomatch h) (hcs_X0_isIn hl0) hnw_X0_isIn hth_X0_isIn (fun _ _ h => absurd h List.not_mem_nil) hkc_X0_isIn (fun args w Q X v0 hv0 h => ?_)
  obtain ⟨α, ν, r, k, s, hk, rfl, rfl, h1, h2⟩ := h
  refine ⟨Nat.le_of_ble_eq_true rfl, 20, [], ?_, fun q hq => absurd hq List.not_mem_nil⟩
  (conv => whnf)
  refine And.intro (fun c => ?_) (fun c => ?_)
  · (conv => whnf)
    exact ⟨Or.inl rfl, h2 (fun q => q.1 c)⟩
  · (conv => whnf)
    refine ⟨_, rfl, fun _ => ?_, fun c => absurd (vp_in_nI hk (by decide)) c⟩
    (conv => whnf)
    refine And.intro (fun c => absurd c (show ¬ _ from (by decide))) (fun _ => ?_)
    (conv => whnf)
    refine ⟨vp_in_nI hk (by decide), ?_⟩
    (conv => whnf)
    rw [nI_clamp (by omega)]
    refine And.intro (fun d => ?_) (fun d => ?_)
    · (conv => whnf)
      exact ⟨Or.inr rfl, h1 ⟨c, d⟩⟩
    · (conv => whnf)
      exact ⟨Or.inl rfl, h2 (fun q => d q.2)⟩
def sp_X0_countShapes : zSpec := fun args w Q _ => ∃ α ν r, args = [.ref 1] ∧ w = WX α ν r ∧ Q (some (.int (nI (zcs (α 3) 96)))) (WX α ν r)
def pg_X0_countShapes : List zE := [(0, .iconst 0, 1, [0]), (1, .istore_n 1, 1, []), (2, .iconst 0, 1, [0]), (3, .istore_n 2, 1, []), (4, .iload_n 2, 1, []), (5, .bipush 96, 2, [96]), (7, .if_icmp .ge 22, 3, [29]), (10, .aload_n 0, 1, []), (11, .getfield 21, 3, []), (14, .iload_n 2, 1, []), (15, .iaload, 1, []), (16, .iload_n 2, 1, []), (17, .if_icmp .ne 6, 3, [23]), (20, .iinc 1 1, 3, [1]), (23, .iinc 2 1, 3, [1]), (26, .goto (-22), 3, [4]), (29, .iload_n 1, 1, []), (30, .ireturn, 1, [])]
theorem hp_X0_countShapes : ∀ q ∈ pg_X0_countShapes, decode cX0_countShapes q.1 = .ok (q.2.1, q.2.2.1) ∧ ztg q.2.1 q.1 q.2.2.1 q.2.2.2 = true := zpg_of (by decide +kernel)
def cs_X0_countShapes : List (Nat × zCall) := []
theorem hcs_X0_countShapes {l : Launch} (hl0 : l.stackTraces = false) : ∀ q ∈ cs_X0_countShapes, zCallable l RX0 1 q := fun _ h => absurd h List.not_mem_nil
def th_X0_countShapes : List (Nat × String) := []
theorem hth_X0_countShapes : ∀ q ∈ th_X0_countShapes, zThrow cX0_countShapes RX0 q := fun _ h => absurd h List.not_mem_nil
def kc_X0_countShapes : List (Nat × Int32) := []
theorem hkc_X0_countShapes : ∀ q ∈ kc_X0_countShapes, Cond.constant RX0 q.1 q.2 ∈ zTs := fun _ h => absurd h List.not_mem_nil
def nw_X0_countShapes : List (Nat × Nat × Nat × List Value) := []
theorem hnw_X0_countShapes : ∀ q ∈ nw_X0_countShapes, zNew RX0 q := fun _ h => absurd h List.not_mem_nil
set_option maxHeartbeats 4000000 in
set_option maxRecDepth 20000 in
theorem c_X0_countShapes {l : Launch} (hl0 : l.stackTraces = false) : CT l yX0_countShapes (.code yX0_countShapes cX0_countShapes 3 (some .int)) 1 0 0 false sp_X0_countShapes := by
  refine zCT_of hl0 (own := RX0) fl_RX0 cs_X0_countShapes nw_X0_countShapes th_X0_countShapes kc_X0_countShapes (fun _ => []) false pg_X0_countShapes rfl (by decide +kernel) hp_X0_countShapes ⟨_, _, rfl, rfl⟩ hfl_RX0 (fun h => nomatch h) (hcs_X0_countShapes hl0) hnw_X0_countShapes hth_X0_countShapes (fun _ _ h => absurd h List.not_mem_nil) hkc_X0_countShapes (fun args w Q X v0 hv0 h => ?_)
  obtain ⟨α, ν, r, rfl, rfl, hQ⟩ := h
  refine ⟨Nat.le_of_ble_eq_true rfl, 60, [(4, fun m L S w' cu su => ∃ i, zsub [(0, .ref 1), (1, .int (nI (zcs (α 3) i))), (2, .int (nI i))] L ∧ S = [] ∧ w' = WX α ν r ∧ i ≤ 96 ∧ m = 96 - i ∧ cu = 0 ∧ su = 0)], ?_, zone ?_⟩
  · (conv => whnf)
    exact ⟨96, 0, ⟨rfl, rfl, rfl, trivial⟩, rfl, rfl, by decide, rfl, rfl, rfl⟩
  · rintro m L S w' cu su ⟨i, hL, rfl, rfl, hi, rfl, rfl, rfl⟩
    refine ⟨_, hL, ?_⟩
    (conv => whnf)
    refine And.intro (fun c => ?_) (fun c => ?_)
    · have hlt : i < 96 := (nI_ltI (by omega) (by omega)).mp c
      (conv => whnf)
      refine ⟨vp_in_nI hlt (by decide), ?_⟩
      (conv => whnf)
      rw [nI_clamp (by omega)]
      refine And.intro (fun d => ?_) (fun d => ?_)
      · (conv => whnf)
        exact ⟨96 - (i + 1), by omega, i + 1, ⟨rfl, zi1 (zcs_t d), zi1 rfl, trivial⟩, rfl, rfl, by omega, rfl, rfl, rfl⟩
      · (conv => whnf)
        exact ⟨96 - (i + 1), by omega, i + 1, ⟨rfl, by rw [zcs_f d]; rfl, zi1 rfl, trivial⟩, rfl, rfl, by omega, rfl, rfl, rfl⟩
    · have hge : i = 96 := by
        have : ¬ i < 96 := fun h => c (nI_lt h (by decide))
        omega
      subst hge
      (conv => whnf)
      exact hQ
def sp_X0_countCells : zSpec := fun args w Q _ => ∃ α ν r s, args = [.ref 1, .int s] ∧ w = WX α ν r ∧ Q (some (.int (nI (zcnt (α 3) s 96)))) (WX α ν r)
def pg_X0_countCells : List zE := [(0, .iconst 0, 1, [0]), (1, .istore_n 2, 1, []), (2, .iconst 0, 1, [0]), (3, .istore_n 3, 1, []), (4, .iload_n 3, 1, []), (5, .bipush 96, 2, [96]), (7, .if_icmp .ge 21, 3, [28]), (10, .aload_n 0, 1, []), (11, .iload_n 3, 1, []), (12, .iload_n 1, 1, []), (13, .invokevirtual 62, 3, []), (16, .ifCond .eq 6, 3, [22]), (19, .iinc 2 1, 3, [1]), (22, .iinc 3 1, 3, [1]), (25, .goto (-21), 3, [4]), (28, .iload_n 2, 1, []), (29, .ireturn, 1, [])]
theorem hp_X0_countCells : ∀ q ∈ pg_X0_countCells, decode cX0_countCells q.1 = .ok (q.2.1, q.2.2.1) ∧ ztg q.2.1 q.1 q.2.2.1 q.2.2.2 = true := zpg_of (by decide +kernel)
def cs_X0_countCells : List (Nat × zCall) := [(62, 0, 3, some 1, 0, 0, false, sp_X0_isIn)]
theorem hcs_X0_countCells {l : Launch} (hl0 : l.stackTraces = false) : ∀ q ∈ cs_X0_countCells, zCallable l RX0 3 q := List.forall_mem_cons.mpr ⟨zcV (C := (RX0, TX0, 8)) (ps := [342, 344, 3, 15, 345]) (c_X0_isIn hl0) (by decide +kernel) rfl ⟨rfl, by decide +kernel, by decide +kernel, by decide +kernel⟩ (by decide) (by decide), fun _ h => absurd h List.not_mem_nil⟩
def th_X0_countCells : List (Nat × String) := []
theorem hth_X0_countCells : ∀ q ∈ th_X0_countCells, zThrow cX0_countCells RX0 q := fun _ h => absurd h List.not_mem_nil
def kc_X0_countCells : List (Nat × Int32) := []
theorem hkc_X0_countCells : ∀ q ∈ kc_X0_countCells, Cond.constant RX0 q.1 q.2 ∈ zTs := fun _ h => absurd h List.not_mem_nil
def nw_X0_countCells : List (Nat × Nat × Nat × List Value) := []
theorem hnw_X0_countCells : ∀ q ∈ nw_X0_countCells, zNew RX0 q := fun _ h => absurd h List.not_mem_nil
set_option maxHeartbeats 4000000 in
set_option maxRecDepth 20000 in
theorem c_X0_countCells {l : Launch} (hl0 : l.stackTraces = false) : CT l yX0_countCells (.code yX0_countCells cX0_countCells 4 (some .int)) 3 0 0 false sp_X0_countCells := by
  refine zCT_of hl0 (own := RX0) fl_RX0 cs_X0_countCells nw_X0_countCells th_X0_countCells kc_X0_countCells (fun _ => []) false pg_X0_countCells rfl (by decide +kernel) hp_X0_countCells ⟨_, _, rfl, rfl⟩ hfl_RX0 (fun h => nomatch h) (hcs_X0_countCells hl0) hnw_X0_countCells hth_X0_countCells (fun _ _ h => absurd h List.not_mem_nil) hkc_X0_countCells (fun args w Q X v0 hv0 h => ?_)
  obtain ⟨α, ν, r, s, rfl, rfl, hQ⟩ := h
  refine ⟨Nat.le_of_ble_eq_true rfl, 60, [(4, fun m L S w' cu su => ∃ i, zsub [(0, .ref 1), (1, .int s), (2, .int (nI (zcnt (α 3) s i))), (3, .int (nI i))] L ∧ S = [] ∧ w' = WX α ν r ∧ i ≤ 96 ∧ m = 96 - i ∧ cu = 0 ∧ su = 0)], ?_, zone ?_⟩
  · (conv => whnf)
    exact ⟨96, 0, ⟨rfl, rfl, rfl, rfl, trivial⟩, rfl, rfl, by decide, rfl, rfl, rfl⟩
  · rintro m L S w' cu su ⟨i, hL, rfl, rfl, hi, rfl, rfl, rfl⟩
    refine ⟨_, hL, ?_⟩
    (conv => whnf)
    refine And.intro (fun c => ?_) (fun c => ?_)
    · have hlt : i < 96 := (nI_ltI (by omega) (by omega)).mp c
      (conv => whnf)
      refine ⟨α, ν, r, i, s, hlt, rfl, rfl, fun d => ?_, fun d => ?_⟩
      · (conv => whnf)
        refine And.intro (fun c => absurd c (show ¬ _ from (by decide))) (fun _ => ?_)
        (conv => whnf)
        exact ⟨96 - (i + 1), by omega, i + 1, ⟨rfl, rfl, zi1 (zcnt_t d), zi1 rfl, trivial⟩, rfl, rfl, by omega, rfl, rfl, rfl⟩
      · (conv => whnf)
        refine And.intro (fun _ => ?_) (fun c => absurd (show _ from rfl) c)
        (conv => whnf)
        exact ⟨96 - (i + 1), by omega, i + 1, ⟨rfl, rfl, by rw [zcnt_f d]; rfl, zi1 rfl, trivial⟩, rfl, rfl, by omega, rfl, rfl, rfl⟩
    · have hge : i = 96 := by
        have : ¬ i < 96 := fun h => c (nI_lt h (by decide))
        omega
      subst hge
      (conv => whnf)
      exact hQ
def sp_X0_nameOfShape : zSpec := fun args w Q _ => ∃ α ν r s, args = [.ref 1, .int s] ∧ w = WX α ν r ∧ Q (some (.int (znm (α 3) (α 2) (α 1) s 96).2)) (WX α ν r)
def pg_X0_nameOfShape : List zE := [(0, .iconst 0, 1, [0]), (1, .istore_n 2, 1, []), (2, .iconst 0, 1, [0]), (3, .istore_n 3, 1, []), (4, .iconst 0, 1, [0]), (5, .istore 4, 2, []), (7, .iload 4, 2, []), (9, .bipush 96, 2, [96]), (11, .if_icmp .ge 46, 3, [57]), (14, .aload_n 0, 1, []), (15, .iload 4, 2, []), (17, .iload_n 1, 1, []), (18, .invokevirtual 62, 3, []), (21, .ifCond .eq 30, 3, [51]), (24, .aload_n 0, 1, []), (25, .getfield 18, 3, []), (28, .iload 4, 2, []), (30, .iaload, 1, []), (31, .iload_n 2, 1, []), (32, .if_icmp .le 19, 3, [51]), (35, .aload_n 0, 1, []), (36, .getfield 18, 3, []), (39, .iload 4, 2, []), (41, .iaload, 1, []), (42, .istore_n 2, 1, []), (43, .aload_n 0, 1, []), (44, .getfield 15, 3, []), (47, .iload 4, 2, []), (49, .iaload, 1, []), (50, .istore_n 3, 1, []), (51, .iinc 4 1, 3, [1]), (54, .goto (-47), 3, [7]), (57, .iload_n 3, 1, []), (58, .ireturn, 1, [])]
theorem hp_X0_nameOfShape : ∀ q ∈ pg_X0_nameOfShape, decode cX0_nameOfShape q.1 = .ok (q.2.1, q.2.2.1) ∧ ztg q.2.1 q.1 q.2.2.1 q.2.2.2 = true := zpg_of (by decide +kernel)
def cs_X0_nameOfShape : List (Nat × zCall) := [(62, 0, 3, some 1, 0, 0, false, sp_X0_isIn)]
theorem hcs_X0_nameOfShape {l : Launch} (hl0 : l.stackTraces = false) : ∀ q ∈ cs_X0_nameOfShape, zCallable l RX0 3 q := List.forall_mem_cons.mpr ⟨zcV (C := (RX0, TX0, 8)) (ps := [342, 344, 3, 15, 345]) (c_X0_isIn hl0) (by decide +kernel) rfl ⟨rfl, by decide +kernel, by decide +kernel, by decide +kernel⟩ (by decide) (by decide), fun _ h => absurd h List.not_mem_nil⟩
def th_X0_nameOfShape : List (Nat × String) := []
theorem hth_X0_nameOfShape : ∀ q ∈ th_X0_nameOfShape, zThrow cX0_nameOfShape RX0 q := fun _ h => absurd h List.not_mem_nil
def kc_X0_nameOfShape : List (Nat × Int32) := []
theorem hkc_X0_nameOfShape : ∀ q ∈ kc_X0_nameOfShape, Cond.constant RX0 q.1 q.2 ∈ zTs := fun _ h => absurd h List.not_mem_nil
def nw_X0_nameOfShape : List (Nat × Nat × Nat × List Value) := []
theorem hnw_X0_nameOfShape : ∀ q ∈ nw_X0_nameOfShape, zNew RX0 q := fun _ h => absurd h List.not_mem_nil
set_option maxHeartbeats 4000000 in
set_option maxRecDepth 20000 in
theorem c_X0_nameOfShape {l : Launch} (hl0 : l.stackTraces = false) : CT l yX0_nameOfShape (.code yX0_nameOfShape cX0_nameOfShape 5 (some .int)) 3 0 0 false sp_X0_nameOfShape := by
  refine zCT_of hl0 (own := RX0) fl_RX0 cs_X0_nameOfShape nw_X0_nameOfShape th_X0_nameOfShape kc_X0_nameOfShape (fun _ => []) false pg_X0_nameOfShape rfl (by decide +kernel) hp_X0_nameOfShape ⟨_, _, rfl, rfl⟩ hfl_RX0 (fun h => nomatch h) (hcs_X0_nameOfShape hl0) hnw_X0_nameOfShape hth_X0_nameOfShape (fun _ _ h => absurd h List.not_mem_nil) hkc_X0_nameOfShape (fun args w Q X v0 hv0 h => ?_)
  obtain ⟨α, ν, r, s, rfl, rfl, hQ⟩ := h
  refine ⟨Nat.le_of_ble_eq_true rfl, 60, [(7, fun m L S w' cu su => ∃ i, zsub [(0, .ref 1), (1, .int s), (2, .int (znm (α 3) (α 2) (α 1) s i).1), (3, .int (znm (α 3) (α 2) (α 1) s i).2), (4, .int (nI i))] L ∧ S = [] ∧ w' = WX α ν r ∧ i ≤ 96 ∧ m = 96 - i ∧ cu = 0 ∧ su = 0)], ?_, zone ?_⟩
  · (conv => whnf)
    exact ⟨96, 0, ⟨rfl, rfl, rfl, rfl, rfl, trivial⟩, rfl, rfl, by decide, rfl, rfl, rfl⟩
  · rintro m L S w' cu su ⟨i, hL, rfl, rfl, hi, rfl, rfl, rfl⟩
    refine ⟨_, hL, ?_⟩
    (conv => whnf)
    refine And.intro (fun c => ?_) (fun c => ?_)
    · have hlt : i < 96 := (nI_ltI (by omega) (by omega)).mp c
      (conv => whnf)
      refine ⟨α, ν, r, i, s, hlt, rfl, rfl, fun d => ?_, fun d => ?_⟩
      · (conv => whnf)
        refine And.intro (fun c => absurd c (show ¬ _ from (by decide))) (fun _ => ?_)
        (conv => whnf)
        refine ⟨vp_in_nI hlt (by decide), ?_⟩
        (conv => whnf)
        rw [nI_clamp (by omega)]
        refine And.intro (fun e => ?_) (fun e => ?_)
        · (conv => whnf)
          refine ⟨vp_in_nI hlt (by decide), ?_⟩
          (conv => whnf)
          refine ⟨vp_in_nI hlt (by decide), ?_⟩
          (conv => whnf)
          rw [nI_clamp (by omega)]
          exact ⟨96 - (i + 1), by omega, i + 1, ⟨rfl, rfl, by rw [znm_t d e]; rfl, by rw [znm_t d e]; rfl, zi1 rfl, trivial⟩, rfl, rfl, by omega, rfl, rfl, rfl⟩
        · (conv => whnf)
          exact ⟨96 - (i + 1), by omega, i + 1, ⟨rfl, rfl, by rw [znm_f (Or.inr e)]; rfl, by rw [znm_f (Or.inr e)]; rfl, zi1 rfl, trivial⟩, rfl, rfl, by omega, rfl, rfl, rfl⟩
      · (conv => whnf)
        refine And.intro (fun _ => ?_) (fun c => absurd (show _ from rfl) c)
        (conv => whnf)
        exact ⟨96 - (i + 1), by omega, i + 1, ⟨rfl, rfl, by rw [znm_f (Or.inl d)]; rfl, by rw [znm_f (Or.inl d)]; rfl, zi1 rfl, trivial⟩, rfl, rfl, by omega, rfl, rfl, rfl⟩
    · have hge : i = 96 := by
        have : ¬ i < 96 := fun h => c (nI_lt h (by decide))
        omega
      subst hge
      (conv => whnf)
      exact hQ
def sp_X0_greatestHeight : zSpec := fun args w Q _ => ∃ α ν r s, args = [.ref 1, .int s] ∧ w = WX α ν r ∧ Q (some (.int (zmx (α 3) (α 0) s 96))) (WX α ν r)
def pg_X0_greatestHeight : List zE := [(0, .iconst 0, 1, [0]), (1, .istore_n 2, 1, []), (2, .iconst 0, 1, [0]), (3, .istore_n 3, 1, []), (4, .iload_n 3, 1, []), (5, .bipush 96, 2, [96]), (7, .if_icmp .ge 29, 3, [36]), (10, .aload_n 0, 1, []), (11, .iload_n 3, 1, []), (12, .iload_n 1, 1, []), (13, .invokevirtual 62, 3, []), (16, .ifCond .eq 14, 3, [30]), (19, .iload_n 2, 1, []), (20, .aload_n 0, 1, []), (21, .getfield 9, 3, []), (24, .iload_n 3, 1, []), (25, .iaload, 1, []), (26, .invokestatic 66, 3, []), (29, .istore_n 2, 1, []), (30, .iinc 3 1, 3, [1]), (33, .goto (-29), 3, [4]), (36, .iload_n 2, 1, []), (37, .ireturn, 1, [])]
theorem hp_X0_greatestHeight : ∀ q ∈ pg_X0_greatestHeight, decode cX0_greatestHeight q.1 = .ok (q.2.1, q.2.2.1) ∧ ztg q.2.1 q.1 q.2.2.1 q.2.2.2 = true := zpg_of (by decide +kernel)
def cs_X0_greatestHeight : List (Nat × zCall) := [(62, 0, 3, some 1, 0, 0, false, sp_X0_isIn), (66, 1, 2, none, 0, 0, false, zspMax)]
theorem hcs_X0_greatestHeight {l : Launch} (hl0 : l.stackTraces = false) : ∀ q ∈ cs_X0_greatestHeight, zCallable l RX0 3 q := List.forall_mem_cons.mpr ⟨zcV (C := (RX0, TX0, 8)) (ps := [342, 344, 3, 15, 345]) (c_X0_isIn hl0) (by decide +kernel) rfl ⟨rfl, by decide +kernel, by decide +kernel, by decide +kernel⟩ (by decide) (by decide), List.forall_mem_cons.mpr ⟨zcMax (ps := [634, 370, 29, 371]) (by decide +kernel) (by decide), fun _ h => absurd h List.not_mem_nil⟩⟩
def th_X0_greatestHeight : List (Nat × String) := []
theorem hth_X0_greatestHeight : ∀ q ∈ th_X0_greatestHeight, zThrow cX0_greatestHeight RX0 q := fun _ h => absurd h List.not_mem_nil
def kc_X0_greatestHeight : List (Nat × Int32) := []
theorem hkc_X0_greatestHeight : ∀ q ∈ kc_X0_greatestHeight, Cond.constant RX0 q.1 q.2 ∈ zTs := fun _ h => absurd h List.not_mem_nil
def nw_X0_greatestHeight : List (Nat × Nat × Nat × List Value) := []
theorem hnw_X0_greatestHeight : ∀ q ∈ nw_X0_greatestHeight, zNew RX0 q := fun _ h => absurd h List.not_mem_nil
set_option maxHeartbeats 4000000 in
set_option maxRecDepth 20000 in
theorem c_X0_greatestHeight {l : Launch} (hl0 : l.stackTraces = false) : CT l yX0_greatestHeight (.code yX0_greatestHeight cX0_greatestHeight 4 (some .int)) 3 0 0 false sp_X0_greatestHeight := by
  refine zCT_of hl0 (own := RX0) fl_RX0 cs_X0_greatestHeight nw_X0_greatestHeight th_X0_greatestHeight kc_X0_greatestHeight (fun _ => []) false pg_X0_greatestHeight rfl (by decide +kernel) hp_X0_greatestHeight ⟨_, _, rfl, rfl⟩ hfl_RX0 (fun h => nomatch h) (hcs_X0_greatestHeight hl0) hnw_X0_greatestHeight hth_X0_greatestHeight (fun _ _ h => absurd h List.not_mem_nil) hkc_X0_greatestHeight (fun args w Q X v0 hv0 h => ?_)
  obtain ⟨α, ν, r, s, rfl, rfl, hQ⟩ := h
  refine ⟨Nat.le_of_ble_eq_true rfl, 60, [(4, fun m L S w' cu su => ∃ i, zsub [(0, .ref 1), (1, .int s), (2, .int (zmx (α 3) (α 0) s i)), (3, .int (nI i))] L ∧ S = [] ∧ w' = WX α ν r ∧ i ≤ 96 ∧ m = 96 - i ∧ cu = 0 ∧ su = 0)], ?_, zone ?_⟩
  · (conv => whnf)
    exact ⟨96, 0, ⟨rfl, rfl, rfl, rfl, trivial⟩, rfl, rfl, by decide, rfl, rfl, rfl⟩
  · rintro m L S w' cu su ⟨i, hL, rfl, rfl, hi, rfl, rfl, rfl⟩
    refine ⟨_, hL, ?_⟩
    (conv => whnf)
    refine And.intro (fun c => ?_) (fun c => ?_)
    · have hlt : i < 96 := (nI_ltI (by omega) (by omega)).mp c
      (conv => whnf)
      refine ⟨α, ν, r, i, s, hlt, rfl, rfl, fun d => ?_, fun d => ?_⟩
      · (conv => whnf)
        refine And.intro (fun c => absurd c (show ¬ _ from (by decide))) (fun _ => ?_)
        (conv => whnf)
        refine ⟨vp_in_nI hlt (by decide), ?_⟩
        (conv => whnf)
        refine ⟨_, _, rfl, ?_⟩
        (conv => whnf)
        rw [nI_clamp (by omega)]
        exact ⟨96 - (i + 1), by omega, i + 1, ⟨rfl, rfl, by rw [zmx_t d]; rfl, zi1 rfl, trivial⟩, rfl, rfl, by omega, rfl, rfl, rfl⟩
      · (conv => whnf)
        refine And.intro (fun _ => ?_) (fun c => absurd (show _ from rfl) c)
        (conv => whnf)
        exact ⟨96 - (i + 1), by omega, i + 1, ⟨rfl, rfl, by rw [zmx_f d]; rfl, zi1 rfl, trivial⟩, rfl, rfl, by omega, rfl, rfl, rfl⟩
    · have hge : i = 96 := by
        have : ¬ i < 96 := fun h => c (nI_lt h (by decide))
        omega
      subst hge
      (conv => whnf)
      exact hQ
def sp_X0_isReached : zSpec := fun args w Q _ => ∃ α ν r x n, n ≤ 96 ∧ args = [.ref 1, .int x, .int (nI n)] ∧ w = WX α ν r ∧ zB Q (∃ j, j < n ∧ α 4 j = x) (WX α ν r)
def pg_X0_isReached : List zE := [(0, .iconst 0, 1, [0]), (1, .istore_n 3, 1, []), (2, .iload_n 3, 1, []), (3, .iload_n 2, 1, []), (4, .if_icmp .ge 27, 3, [31]), (7, .iload_n 3, 1, []), (8, .bipush 96, 2, [96]), (10, .if_icmp .ge 21, 3, [31]), (13, .aload_n 0, 1, []), (14, .getfield 30, 3, []), (17, .iload_n 3, 1, []), (18, .iaload, 1, []), (19, .iload_n 1, 1, []), (20, .if_icmp .ne 5, 3, [25]), (23, .iconst 1, 1, [1]), (24, .ireturn, 1, []), (25, .iinc 3 1, 3, [1]), (28, .goto (-26), 3, [2]), (31, .iconst 0, 1, [0]), (32, .ireturn, 1, [])]
theorem hp_X0_isReached : ∀ q ∈ pg_X0_isReached, decode cX0_isReached q.1 = .ok (q.2.1, q.2.2.1) ∧ ztg q.2.1 q.1 q.2.2.1 q.2.2.2 = true := zpg_of (by decide +kernel)
def cs_X0_isReached : List (Nat × zCall) := []
theorem hcs_X0_isReached {l : Launch} (hl0 : l.stackTraces = false) : ∀ q ∈ cs_X0_isReached, zCallable l RX0 1 q := fun _ h => absurd h List.not_mem_nil
def th_X0_isReached : List (Nat × String) := []
theorem hth_X0_isReached : ∀ q ∈ th_X0_isReached, zThrow cX0_isReached RX0 q := fun _ h => absurd h List.not_mem_nil
def kc_X0_isReached : List (Nat × Int32) := []
theorem hkc_X0_isReached : ∀ q ∈ kc_X0_isReached, Cond.constant RX0 q.1 q.2 ∈ zTs := fun _ h => absurd h List.not_mem_nil
def nw_X0_isReached : List (Nat × Nat × Nat × List Value) := []
theorem hnw_X0_isReached : ∀ q ∈ nw_X0_isReached, zNew RX0 q := fun _ h => absurd h List.not_mem_nil
set_option maxHeartbeats 4000000 in
set_option maxRecDepth 20000 in
theorem c_X0_isReached {l : Launch} (hl0 : l.stackTraces = false) : CT l yX0_isReached (.code yX0_isReached cX0_isReached 4 (some .boolean)) 1 0 0 false sp_X0_isReached := by
  refine zCT_of hl0 (own := RX0) fl_RX0 cs_X0_isReached nw_X0_isReached th_X0_isReached kc_X0_isReached (fun _ => []) false pg_X0_isReached rfl (by decide +kernel) hp_X0_isReached ⟨_, _, rfl, rfl⟩ hfl_RX0 (fun h => nomatch h) (hcs_X0_isReached hl0) hnw_X0_isReached hth_X0_isReached (fun _ _ h => absurd h List.not_mem_nil) hkc_X0_isReached (fun args w Q X v0 hv0 h => ?_)
  obtain ⟨α, ν, r, x, n, hn, rfl, rfl, h1, h2⟩ := h
  refine ⟨Nat.le_of_ble_eq_true rfl, 60, [(2, fun m L S w' cu su => ∃ i, zsub [(0, .ref 1), (1, .int x), (2, .int (nI n)), (3, .int (nI i))] L ∧ S = [] ∧ w' = WX α ν r ∧ i ≤ n ∧ (∀ j, j < i → ¬ α 4 j = x) ∧ m = 96 - i ∧ cu = 0 ∧ su = 0)], ?_, zone ?_⟩
  · (conv => whnf)
    exact ⟨96, 0, ⟨rfl, rfl, rfl, rfl, trivial⟩, rfl, rfl, Nat.zero_le _, fun j hj => absurd hj (Nat.not_lt_zero j), rfl, rfl, rfl⟩
  · rintro m L S w' cu su ⟨i, hL, rfl, rfl, hi, hno, rfl, rfl, rfl⟩
    refine ⟨_, hL, ?_⟩
    (conv => whnf)
    refine And.intro (fun c => ?_) (fun c => ?_)
    · have hlt : i < n := (nI_ltI (by omega) (by omega)).mp c
      (conv => whnf)
      refine And.intro (fun _ => ?_) (fun c => absurd (show _ from (nI_lt (show i < 96 by omega) (by decide))) c)
      (conv => whnf)
      refine ⟨vp_in_nI (show i < 96 by omega) (by decide), ?_⟩
      (conv => whnf)
      rw [nI_clamp (by omega)]
      refine And.intro (fun d => ?_) (fun d => ?_)
      · (conv => whnf)
        exact ⟨Or.inr rfl, h1 ⟨i, hlt, d⟩⟩
      · (conv => whnf)
        refine ⟨96 - (i + 1), by omega, i + 1, ⟨rfl, rfl, rfl, zi1 rfl, trivial⟩, rfl, rfl, by omega, fun j hj => ?_, rfl, rfl, rfl⟩
        by_cases e : j < i
        · exact hno j e
        · have : j = i := by omega
          rw [this]; exact d
    · have hge : i = n := by
        have : ¬ i < n := fun h => c (nI_lt h (by omega))
        omega
      subst hge
      (conv => whnf)
      exact ⟨Or.inl rfl, h2 (fun ⟨j, hj, e⟩ => hno j hj e)⟩
def sp_X0_nameOfReached : zSpec := fun args w Q _ => ∃ α ν r n ρ, n ≤ 96 ∧ (∀ j, j < n → ρ j < 96 ∧ α 4 j = nI (ρ j)) ∧ args = [.ref 1, .int (nI n)] ∧ w = WX α ν r ∧ Q (some (.int (znr ρ (α 2) (α 1) n).2)) (WX α ν r)
def pg_X0_nameOfReached : List zE := [(0, .iconst 0, 1, [0]), (1, .istore_n 2, 1, []), (2, .iconst 0, 1, [0]), (3, .istore_n 3, 1, []), (4, .iconst 0, 1, [0]), (5, .istore 4, 2, []), (7, .iload 4, 2, []), (9, .iload_n 1, 1, []), (10, .if_icmp .ge 60, 3, [70]), (13, .iload 4, 2, []), (15, .bipush 96, 2, [96]), (17, .if_icmp .ge 53, 3, [70]), (20, .aload_n 0, 1, []), (21, .getfield 30, 3, []), (24, .iload 4, 2, []), (26, .iaload, 1, []), (27, .istore 5, 2, []), (29, .iload 5, 2, []), (31, .invokestatic 43, 3, []), (34, .ifCond .eq 30, 3, [64]), (37, .aload_n 0, 1, []), (38, .getfield 18, 3, []), (41, .iload 5, 2, []), (43, .iaload, 1, []), (44, .iload_n 2, 1, []), (45, .if_icmp .le 19, 3, [64]), (48, .aload_n 0, 1, []), (49, .getfield 18, 3, []), (52, .iload 5, 2, []), (54, .iaload, 1, []), (55, .istore_n 2, 1, []), (56, .aload_n 0, 1, []), (57, .getfield 15, 3, []), (60, .iload 5, 2, []), (62, .iaload, 1, []), (63, .istore_n 3, 1, []), (64, .iinc 4 1, 3, [1]), (67, .goto (-60), 3, [7]), (70, .iload_n 3, 1, []), (71, .ireturn, 1, [])]
theorem hp_X0_nameOfReached : ∀ q ∈ pg_X0_nameOfReached, decode cX0_nameOfReached q.1 = .ok (q.2.1, q.2.2.1) ∧ ztg q.2.1 q.1 q.2.2.1 q.2.2.2 = true := zpg_of (by decide +kernel)
def cs_X0_nameOfReached : List (Nat × zCall) := [(43, 1, 1, none, 0, 0, false, sp_X4_isCell)]
theorem hcs_X0_nameOfReached {l : Launch} (hl0 : l.stackTraces = false) : ∀ q ∈ cs_X0_nameOfReached, zCallable l RX0 2 q := List.forall_mem_cons.mpr ⟨zcN (ps := [194, 14, 195]) (host := RX4) (c_X4_isCell hl0) (by decide +kernel) (by decide +kernel) ⟨by decide +kernel, by decide +kernel, by decide +kernel⟩ (by decide) (by decide), fun _ h => absurd h List.not_mem_nil⟩
def th_X0_nameOfReached : List (Nat × String) := []
theorem hth_X0_nameOfReached : ∀ q ∈ th_X0_nameOfReached, zThrow cX0_nameOfReached RX0 q := fun _ h => absurd h List.not_mem_nil
def kc_X0_nameOfReached : List (Nat × Int32) := []
theorem hkc_X0_nameOfReached : ∀ q ∈ kc_X0_nameOfReached, Cond.constant RX0 q.1 q.2 ∈ zTs := fun _ h => absurd h List.not_mem_nil
def nw_X0_nameOfReached : List (Nat × Nat × Nat × List Value) := []
theorem hnw_X0_nameOfReached : ∀ q ∈ nw_X0_nameOfReached, zNew RX0 q := fun _ h => absurd h List.not_mem_nil
set_option maxHeartbeats 4000000 in
set_option maxRecDepth 20000 in
theorem c_X0_nameOfReached {l : Launch} (hl0 : l.stackTraces = false) : CT l yX0_nameOfReached (.code yX0_nameOfReached cX0_nameOfReached 6 (some .int)) 2 0 0 false sp_X0_nameOfReached := by
  refine zCT_of hl0 (own := RX0) fl_RX0 cs_X0_nameOfReached nw_X0_nameOfReached th_X0_nameOfReached kc_X0_nameOfReached (fun _ => []) false pg_X0_nameOfReached rfl (by decide +kernel) hp_X0_nameOfReached ⟨_, _, rfl, rfl⟩ hfl_RX0 (fun h => nomatch h) (hcs_X0_nameOfReached hl0) hnw_X0_nameOfReached hth_X0_nameOfReached (fun _ _ h => absurd h List.not_mem_nil) hkc_X0_nameOfReached (fun args w Q X v0 hv0 h => ?_)
  obtain ⟨α, ν, r, n, ρ, hn, hρ, rfl, rfl, hQ⟩ := h
  refine ⟨Nat.le_of_ble_eq_true rfl, 60, [(7, fun m L S w' cu su => ∃ i, zsub [(0, .ref 1), (1, .int (nI n)), (2, .int (znr ρ (α 2) (α 1) i).1), (3, .int (znr ρ (α 2) (α 1) i).2), (4, .int (nI i))] L ∧ S = [] ∧ w' = WX α ν r ∧ i ≤ n ∧ m = 96 - i ∧ cu = 0 ∧ su = 0)], ?_, zone ?_⟩
  · (conv => whnf)
    exact ⟨96, 0, ⟨rfl, rfl, rfl, rfl, rfl, trivial⟩, rfl, rfl, Nat.zero_le _, rfl, rfl, rfl⟩
  · rintro m L S w' cu su ⟨i, hL, rfl, rfl, hi, rfl, rfl, rfl⟩
    refine ⟨_, hL, ?_⟩
    (conv => whnf)
    refine And.intro (fun c => ?_) (fun c => ?_)
    · have hlt : i < n := (nI_ltI (by omega) (by omega)).mp c
      obtain ⟨r1, r2⟩ := hρ i hlt
      (conv => whnf)
      refine And.intro (fun _ => ?_) (fun c => absurd (show _ from (nI_lt (show i < 96 by omega) (by decide))) c)
      (conv => whnf)
      refine ⟨vp_in_nI (show i < 96 by omega) (by decide), ?_⟩
      (conv => whnf)
      rw [nI_clamp (by omega), r2]
      refine ⟨_, rfl, fun _ => ?_, fun c => absurd (vp_in_nI r1 (by decide)) c⟩
      (conv => whnf)
      refine And.intro (fun c => absurd c (show ¬ _ from (by decide))) (fun _ => ?_)
      (conv => whnf)
      refine ⟨vp_in_nI r1 (by decide), ?_⟩
      (conv => whnf)
      rw [nI_clamp (by omega)]
      refine And.intro (fun e => ?_) (fun e => ?_)
      · (conv => whnf)
        refine ⟨vp_in_nI r1 (by decide), ?_⟩
        (conv => whnf)
        refine ⟨vp_in_nI r1 (by decide), ?_⟩
        (conv => whnf)
        rw [nI_clamp (by omega)]
        exact ⟨96 - (i + 1), by omega, i + 1, ⟨rfl, rfl, by rw [znr_t e]; rfl, by rw [znr_t e]; rfl, zi1 rfl, trivial⟩, rfl, rfl, by omega, rfl, rfl, rfl⟩
      · (conv => whnf)
        exact ⟨96 - (i + 1), by omega, i + 1, ⟨rfl, rfl, by rw [znr_f e]; rfl, by rw [znr_f e]; rfl, zi1 rfl, trivial⟩, rfl, rfl, by omega, rfl, rfl, rfl⟩
    · have hge : i = n := by
        have : ¬ i < n := fun h => c (nI_lt h (by omega))
        omega
      subst hge
      (conv => whnf)
      exact hQ
def sp_X0_layMark : zSpec := fun args w Q _ => ∃ α ν r k x, k < 96 ∧ args = [.ref 1, .int (nI k), .int x] ∧ w = WX α ν r ∧ Q none (WX (zu (zu α 1 (upd (α 1) k x)) 2 (upd (α 2) k (ν 1 + nI 1))) (zu ν 1 (ν 1 + nI 1)) r)
def pg_X0_layMark : List zE := [(0, .iload_n 1, 1, []), (1, .invokestatic 43, 3, []), (4, .ifCond .eq 30, 3, [34]), (7, .aload_n 0, 1, []), (8, .dup, 1, []), (9, .getfield 36, 3, []), (12, .iconst 1, 1, [1]), (13, .iadd, 1, []), (14, .putfield 36, 3, []), (17, .aload_n 0, 1, []), (18, .getfield 15, 3, []), (21, .iload_n 1, 1, []), (22, .iload_n 2, 1, []), (23, .iastore, 1, []), (24, .aload_n 0, 1, []), (25, .getfield 18, 3, []), (28, .iload_n 1, 1, []), (29, .aload_n 0, 1, []), (30, .getfield 36, 3, []), (33, .iastore, 1, []), (34, .return_, 1, [])]
theorem hp_X0_layMark : ∀ q ∈ pg_X0_layMark, decode cX0_layMark q.1 = .ok (q.2.1, q.2.2.1) ∧ ztg q.2.1 q.1 q.2.2.1 q.2.2.2 = true := zpg_of (by decide +kernel)
def cs_X0_layMark : List (Nat × zCall) := [(43, 1, 1, none, 0, 0, false, sp_X4_isCell)]
theorem hcs_X0_layMark {l : Launch} (hl0 : l.stackTraces = false) : ∀ q ∈ cs_X0_layMark, zCallable l RX0 2 q := List.forall_mem_cons.mpr ⟨zcN (ps := [194, 14, 195]) (host := RX4) (c_X4_isCell hl0) (by decide +kernel) (by decide +kernel) ⟨by decide +kernel, by decide +kernel, by decide +kernel⟩ (by decide) (by decide), fun _ h => absurd h List.not_mem_nil⟩
def th_X0_layMark : List (Nat × String) := []
theorem hth_X0_layMark : ∀ q ∈ th_X0_layMark, zThrow cX0_layMark RX0 q := fun _ h => absurd h List.not_mem_nil
def kc_X0_layMark : List (Nat × Int32) := []
theorem hkc_X0_layMark : ∀ q ∈ kc_X0_layMark, Cond.constant RX0 q.1 q.2 ∈ zTs := fun _ h => absurd h List.not_mem_nil
def nw_X0_layMark : List (Nat × Nat × Nat × List Value) := []
theorem hnw_X0_layMark : ∀ q ∈ nw_X0_layMark, zNew RX0 q := fun _ h => absurd h List.not_mem_nil
set_option maxHeartbeats 4000000 in
set_option maxRecDepth 20000 in
theorem c_X0_layMark {l : Launch} (hl0 : l.stackTraces = false) : CT l yX0_layMark (.code yX0_layMark cX0_layMark 3 none) 2 0 0 false sp_X0_layMark := by
  refine zCT_of hl0 (own := RX0) fl_RX0 cs_X0_layMark nw_X0_layMark th_X0_layMark kc_X0_layMark (fun _ => []) false pg_X0_layMark rfl (by decide +kernel) hp_X0_layMark ⟨_, _, rfl, rfl⟩ hfl_RX0 (fun h => nomatch h) (hcs_X0_layMark hl0) hnw_X0_layMark hth_X0_layMark (fun _ _ h => absurd h List.not_mem_nil) hkc_X0_layMark (fun args w Q X v0 hv0 h => ?_)
  obtain ⟨α, ν, r, k, x, hk, rfl, rfl, hQ⟩ := h
  refine ⟨Nat.le_of_ble_eq_true rfl, 60, [], ?_, fun q hq => absurd hq List.not_mem_nil⟩
  (conv => whnf)
  refine ⟨_, rfl, fun _ => ?_, fun c => absurd (vp_in_nI hk (by decide)) c⟩
  (conv => whnf)
  refine And.intro (fun c => absurd c (show ¬ _ from (by decide))) (fun _ => ?_)
  (conv => whnf)
  refine ⟨vp_in_nI hk (by decide), ?_⟩
  (conv => whnf)
  refine ⟨vp_in_nI hk (by decide), ?_⟩
  (conv => whnf)
  rw [nI_clamp (by omega)]
  exact hQ
end
section
/-! ===== EchoRegistry$Chart: the outing, the shapes found anew ===== -/
/-- what one reach does -/
def zRch (h : Nat → Int32) (o x : Int32) (n : Nat) (a4 a5 : Nat → Int32) (n' : Nat) (b4 b5 : Nat → Int32) : Prop :=
  (∃ c, c < 96 ∧ x = nI c ∧ n < 96 ∧ ¬ h c = 0 ∧ ¬ a5 c = o ∧ n' = n + 1 ∧ b4 = upd a4 n (nI c) ∧ b5 = upd a5 c o) ∨
  ((¬ ∃ c, c < 96 ∧ x = nI c ∧ n < 96 ∧ ¬ h c = 0 ∧ ¬ a5 c = o) ∧ n' = n ∧ b4 = a4 ∧ b5 = a5)
def sp_X0_reach : zSpec := fun args w Q _ => ∃ α ν r x n, n ≤ 96 ∧ args = [.ref 1, .int x, .int (nI n)] ∧ w = WX α ν r ∧ ∀ n' b4 b5, zRch (α 0) (ν 2) x n (α 4) (α 5) n' b4 b5 → Q (some (.int (nI n'))) (WX (zu (zu α 5 b5) 4 b4) ν r)
theorem zWX_45 (α : Nat → Nat → Int32) (ν : Nat → Int32) (r : zW) : WX (zu (zu α 5 (α 5)) 4 (α 4)) ν r = WX α ν r := rfl
def pg_X0_reach : List zE := [(0, .iload_n 1, 1, []), (1, .invokestatic 43, 3, []), (4, .ifCond .eq 31, 3, [35]), (7, .iload_n 2, 1, []), (8, .bipush 96, 2, [96]), (10, .if_icmp .ge 25, 3, [35]), (13, .aload_n 0, 1, []), (14, .getfield 9, 3, []), (17, .iload_n 1, 1, []), (18, .iaload, 1, []), (19, .ifCond .eq 16, 3, [35]), (22, .aload_n 0, 1, []), (23, .getfield 33, 3, []), (26, .iload_n 1, 1, []), (27, .iaload, 1, []), (28, .aload_n 0, 1, []), (29, .getfield 40, 3, []), (32, .if_icmp .ne 5, 3, [37]), (35, .iload_n 2, 1, []), (36, .ireturn, 1, []), (37, .aload_n 0, 1, []), (38, .getfield 33, 3, []), (41, .iload_n 1, 1, []), (42, .aload_n 0, 1, []), (43, .getfield 40, 3, []), (46, .iastore, 1, []), (47, .aload_n 0, 1, []), (48, .getfield 30, 3, []), (51, .iload_n 2, 1, []), (52, .iload_n 1, 1, []), (53, .iastore, 1, []), (54, .iload_n 2, 1, []), (55, .iconst 1, 1, [1]), (56, .iadd, 1, []), (57, .ireturn, 1, [])]
theorem hp_X0_reach : ∀ q ∈ pg_X0_reach, decode cX0_reach q.1 = .ok (q.2.1, q.2.2.1) ∧ ztg q.2.1 q.1 q.2.2.1 q.2.2.2 = true := zpg_of (by decide +kernel)
def cs_X0_reach : List (Nat × zCall) := [(43, 1, 1, none, 0, 0, false, sp_X4_isCell)]
theorem hcs_X0_reach {l : Launch} (hl0 : l.stackTraces = false) : ∀ q ∈ cs_X0_reach, zCallable l RX0 2 q := List.forall_mem_cons.mpr ⟨zcN (ps := [194, 14, 195]) (host := RX4) (c_X4_isCell hl0) (by decide +kernel) (by decide +kernel) ⟨by decide +kernel, by decide +kernel, by decide +kernel⟩ (by decide) (by decide), fun _ h => absurd h List.not_mem_nil⟩
def th_X0_reach : List (Nat × String) := []
theorem hth_X0_reach : ∀ q ∈ th_X0_reach, zThrow cX0_reach RX0 q := fun _ h => absurd h List.not_mem_nil
def kc_X0_reach : List (Nat × Int32) := []
theorem hkc_X0_reach : ∀ q ∈ kc_X0_reach, Cond.constant RX0 q.1 q.2 ∈ zTs := fun _ h => absurd h List.not_mem_nil
def nw_X0_reach : List (Nat × Nat × Nat × List Value) := []
theorem hnw_X0_reach : ∀ q ∈ nw_X0_reach, zNew RX0 q := fun _ h => absurd h List.not_mem_nil
set_option maxHeartbeats 4000000 in
set_option maxRecDepth 20000 in
theorem c_X0_reach {l : Launch} (hl0 : l.stackTraces = false) : CT l yX0_reach (.code yX0_reach cX0_reach 3 (some .int)) 2 0 0 false sp_X0_reach := by
  refine zCT_of hl0 (own := RX0) fl_RX0 cs_X0_reach nw_X0_reach th_X0_reach kc_X0_reach (fun _ => []) false pg_X0_reach rfl (by decide +kernel) hp_X0_reach ⟨_, _, rfl, rfl⟩ hfl_RX0 (fun h => nomatch h) (hcs_X0_reach hl0) hnw_X0_reach hth_X0_reach (fun _ _ h => absurd h List.not_mem_nil) hkc_X0_reach (fun args w Q X v0 hv0 h => ?_)
  obtain ⟨α, ν, r, x, n, hn, rfl, rfl, hQ⟩ := h
  refine ⟨Nat.le_of_ble_eq_true rfl, 60, [], ?_, fun q hq => absurd hq List.not_mem_nil⟩
  (conv => whnf)
  refine ⟨_, rfl, fun c => ?_, fun c => ?_⟩
  · obtain ⟨k, hk, rfl⟩ := vp_in_of c (by decide)
    (conv => whnf)
    refine And.intro (fun c => absurd c (show ¬ _ from (by decide))) (fun _ => ?_)
    (conv => whnf)
    refine And.intro (fun d => ?_) (fun d => ?_)
    · have hlt : n < 96 := (nI_ltI (by omega) (by omega)).mp d
      (conv => whnf)
      refine ⟨vp_in_nI hk (by decide), ?_⟩
      (conv => whnf)
      rw [nI_clamp (by omega)]
      refine And.intro (fun e => ?_) (fun e => ?_)
      · (conv => whnf)
        exact hQ n (α 4) (α 5) (Or.inr ⟨fun ⟨c', h1, h2, h3, h4, h5⟩ => h4 (by rw [← nI_inj (by omega) (by omega) h2]; exact e), rfl, rfl, rfl⟩)
      · (conv => whnf)
        refine ⟨vp_in_nI hk (by decide), ?_⟩
        (conv => whnf)
        rw [nI_clamp (by omega)]
        refine And.intro (fun f => ?_) (fun f => ?_)
        · (conv => whnf)
          exact hQ n (α 4) (α 5) (Or.inr ⟨fun ⟨c', h1, h2, h3, h4, h5⟩ => h5 (by rw [← nI_inj (by omega) (by omega) h2]; exact f), rfl, rfl, rfl⟩)
        · (conv => whnf)
          refine ⟨vp_in_nI hk (by decide), ?_⟩
          (conv => whnf)
          refine ⟨vp_in_nI hlt (by decide), ?_⟩
          (conv => whnf)
          rw [nI_clamp (by omega), nI_clamp (by omega)]
          dsimp only [zkon]
          rw [nI_add]
          exact hQ (n + 1) _ _ (Or.inl ⟨k, hk, rfl, hlt, e, f, rfl, rfl, rfl⟩)
    · (conv => whnf)
      exact hQ n (α 4) (α 5) (Or.inr ⟨fun ⟨c', h1, h2, h3, h4, h5⟩ => d (nI_lt h3 (by decide)), rfl, rfl, rfl⟩)
  · (conv => whnf)
    refine And.intro (fun _ => ?_) (fun c => absurd (show _ from rfl) c)
    (conv => whnf)
    exact hQ n (α 4) (α 5) (Or.inr ⟨fun ⟨c', h1, h2, h3, h4, h5⟩ => c (by rw [h2]; exact vp_in_nI h1 (by decide)), rfl, rfl, rfl⟩)
theorem pk_addsub (a b : Int32) : a + b - b = a := by
  rw [Int32.sub_eq_add_neg, Int32.add_assoc, Int32.add_right_neg, Int32.add_zero]
/-- the state of an outing from k, with o its number -/
def zGO (h : Nat → Int32) (k o n i : Nat) (a4 a5 : Nat → Int32) : Prop := ∃ ρ : Nat → Nat, zBF h k n i ρ ∧ (∀ j, j < n → a4 j = nI (ρ j)) ∧ (∀ c, c < 96 → (a5 c = nI o ↔ ∃ j, j < n ∧ ρ j = c)) ∧ ∀ c, c < 96 → ∃ t, a5 c = nI t ∧ t ≤ o
theorem zGO_vis {h : Nat → Int32} {k o n i : Nat} {a4 a5 : Nat → Int32} (q : zGO h k o n i a4 a5) : n ≤ 96 ∧ i ≤ n := by
  obtain ⟨ρ, q1, -⟩ := q
  exact ⟨zBF_le q1, q1.1⟩
/-- a reach keeps the outing, forgets no cell, and takes the cell that it is told -/
theorem zGO_reach {h : Nat → Int32} {k o n i n' : Nat} {a4 a5 b4 b5 : Nat → Int32} {x : Int32} (q : zGO h k o n i a4 a5) (hr : zRch h (nI o) x n a4 a5 n' b4 b5) (hx : ∀ c, c < 96 → x = nI c → h c ≠ 0 → zcon h k c) :
    zGO h k o n' i b4 b5 ∧ n ≤ n' ∧ (∀ j, j < n → b4 j = a4 j) ∧ (∀ c, c < 96 → a5 c = nI o → b5 c = nI o) ∧ (∀ c, c < 96 → x = nI c → h c ≠ 0 → b5 c = nI o) := by
  obtain ⟨ρ, q1, q2, q3, q4⟩ := q
  rcases hr with ⟨c, hc, rfl, hn, h0, h5, rfl, rfl, rfl⟩ | ⟨hno, rfl, rfl, rfl⟩
  · have hv : ∀ j, j < n → ρ j ≠ c := fun j hj e => h5 ((q3 c hc).mpr ⟨j, hj, e⟩)
    have hlo : ∀ j, j < n → va_up ρ n c j = ρ j := fun j hj => by
      have : j ≠ n := by omega
      simp [va_up, this]
    have hhi : va_up ρ n c n = c := by simp [va_up]
    refine ⟨⟨va_up ρ n c, zBF_add q1 (hx c hc rfl h0) hv, fun j hj => ?_, fun d hd => ?_, fun d hd => ?_⟩, by omega, fun j hj => ?_, fun d hd e => ?_, fun d hd e h0' => ?_⟩
    · by_cases e : j < n
      · rw [hlo j e, pk_un (by omega)]
        exact q2 j e
      · have : j = n := by omega
        subst this
        rw [hhi, pk_us]
    · by_cases e : d = c
      · subst e
        rw [pk_us]
        exact ⟨fun _ => ⟨n, by omega, hhi⟩, fun _ => rfl⟩
      · rw [pk_un e, q3 d hd]
        constructor
        · rintro ⟨j, hj, e2⟩
          exact ⟨j, by omega, by rw [hlo j hj]; exact e2⟩
        · rintro ⟨j, hj, e2⟩
          by_cases e3 : j < n
          · exact ⟨j, e3, by rw [← hlo j e3]; exact e2⟩
          · have : j = n := by omega
            subst this
            rw [hhi] at e2
            exact absurd e2.symm e
    · by_cases e : d = c
      · subst e
        rw [pk_us]
        exact ⟨o, rfl, Nat.le_refl o⟩
      · rw [pk_un e]
        exact q4 d hd
    · rw [pk_un (by omega)]
    · by_cases e2 : d = c
      · subst e2
        rw [pk_us]
      · rw [pk_un e2]
        exact e
    · have e2 : c = d := nI_inj (by omega) (by omega) e
      subst e2
      rw [pk_us]
  · refine ⟨⟨ρ, q1, q2, q3, q4⟩, Nat.le_refl _, fun _ _ => rfl, fun _ _ e => e, fun c hc e h0 => ?_⟩
    apply Classical.byContradiction
    intro h5
    refine hno ⟨c, hc, e, ?_, h0, h5⟩
    exact zBF_lt q1 hc (fun j hj e2 => h5 ((q3 c hc).mpr ⟨j, hj, e2⟩))
def sp_X0_goOut : zSpec := fun args w Q _ => ∃ α ν r k o, k < 96 ∧ o + 1 < 2 ^ 31 ∧ ν 2 = nI o ∧ (∀ c, c < 96 → ∃ t, α 5 c = nI t ∧ t ≤ o) ∧ args = [.ref 1, .int (nI k)] ∧ w = WX α ν r ∧
  ∀ n a4 a5, zGO (α 0) k (o + 1) n n a4 a5 → Q (some (.int (nI n))) (WX (zu (zu α 5 a5) 4 a4) (zu ν 2 (nI (o + 1))) r)
theorem zGO_start {h : Nat → Int32} {k o n' : Nat} {a4 a5 b4 b5 : Nat → Int32} (hk : k < 96) (ho : o + 1 < 2 ^ 31) (h5 : ∀ c, c < 96 → ∃ t, a5 c = nI t ∧ t ≤ o) (hr : zRch h (nI (o + 1)) (nI k) 0 a4 a5 n' b4 b5) : zGO h k (o + 1) n' 0 b4 b5 := by
  have hne : ∀ c, c < 96 → ¬ a5 c = nI (o + 1) := fun c hc e => by
    obtain ⟨t, e1, e2⟩ := h5 c hc
    have := nI_inj (by omega) (by omega) (e1.symm.trans e)
    omega
  rcases hr with ⟨c, hc, e, hn, h0, hv, rfl, rfl, rfl⟩ | ⟨hno, rfl, rfl, rfl⟩
  · have e2 : k = c := nI_inj (by omega) (by omega) e
    subst e2
    refine ⟨fun _ => k, zBF_1 hk h0 rfl, fun j hj => ?_, fun d hd => ?_, fun d hd => ?_⟩
    · have : j = 0 := by omega
      subst this
      rw [pk_us]
    · by_cases e3 : d = k
      · subst e3
        rw [pk_us]
        exact ⟨fun _ => ⟨0, by omega, rfl⟩, fun _ => rfl⟩
      · rw [pk_un e3]
        exact ⟨fun x => absurd x (hne d hd), fun ⟨_, _, x⟩ => absurd x.symm e3⟩
    · by_cases e3 : d = k
      · subst e3
        rw [pk_us]
        exact ⟨_, rfl, Nat.le_refl _⟩
      · rw [pk_un e3]
        obtain ⟨t, e1, e2⟩ := h5 d hd
        exact ⟨t, e1, by omega⟩
  · have h0 : h k = 0 := by
      apply Classical.byContradiction
      intro x
      exact hno ⟨k, hk, rfl, by decide, x, hne k hk⟩
    refine ⟨fun _ => 0, zBF_0 _ h0, fun j hj => absurd hj (Nat.not_lt_zero j), fun c hc => ⟨fun e => absurd e (hne c hc), fun ⟨j, hj, _⟩ => absurd hj (Nat.not_lt_zero j)⟩, fun c hc => ?_⟩
    obtain ⟨t, e1, e2⟩ := h5 c hc
    exact ⟨t, e1, by omega⟩
theorem nI_sub12 {f c : Nat} (hf : f < 96) (hc : c < 96) (e : nI f - nI 12 = nI c) : c + 12 = f := by
  have h := congrArg Int32.toInt e
  rw [pk_sub_toInt (by omega) (by decide), nI_toInt (by omega)] at h
  omega
theorem nI_sub1 {f c : Nat} (hf : f < 96) (hc : c < 96) (e : nI f - nI 1 = nI c) : c + 1 = f := by
  have h := congrArg Int32.toInt e
  rw [pk_sub_toInt (by omega) (by decide), nI_toInt (by omega)] at h
  omega
theorem nI_addc {f d c : Nat} (hf : f < 96) (hd : d < 96) (hc : c < 96) (e : nI f + nI d = nI c) : f + d = c := by
  rw [nI_add] at e
  exact nI_inj (by omega) (by omega) e
/-- within the outing: the cell f at place i has neighbours, seen so far those that P tells -/
def zGI (h : Nat → Int32) (k o n i f : Nat) (P : Nat → Prop) (a4 a5 : Nat → Int32) : Prop := zGO h k o n i a4 a5 ∧ i < n ∧ f < 96 ∧ zcon h k f ∧ a4 i = nI f ∧ ∀ c, c < 96 → P c → h c ≠ 0 → a5 c = nI o
theorem zGI_reach {h : Nat → Int32} {k o n i f n' : Nat} {P : Nat → Prop} {a4 a5 b4 b5 : Nat → Int32} {x : Int32} (q : zGI h k o n i f P a4 a5) (hr : zRch h (nI o) x n a4 a5 n' b4 b5) (hx : ∀ c, c < 96 → x = nI c → zadj f c) : zGI h k o n' i f (fun c => P c ∨ x = nI c) b4 b5 := by
  obtain ⟨q1, q2, q3, q4, q5, q6⟩ := q
  obtain ⟨r1, r2, r3, r4, r5⟩ := zGO_reach q1 hr (fun c hc e h0 => zcon_step q4 (hx c hc e) hc h0)
  refine ⟨r1, by omega, q3, q4, by rw [r3 i q2]; exact q5, fun c hc hp h0 => ?_⟩
  rcases hp with hp | hp
  · exact r4 c hc (q6 c hc hp h0)
  · exact r5 c hc hp h0
theorem zGI_mono {h : Nat → Int32} {k o n i f : Nat} {P P' : Nat → Prop} {a4 a5 : Nat → Int32} (q : zGI h k o n i f P a4 a5) (hp : ∀ c, c < 96 → P' c → P c) : zGI h k o n i f P' a4 a5 := by
  obtain ⟨q1, q2, q3, q4, q5, q6⟩ := q
  exact ⟨q1, q2, q3, q4, q5, fun c hc p h0 => q6 c hc (hp c hc p) h0⟩
theorem zGI_next {h : Nat → Int32} {k o n i f : Nat} {P : Nat → Prop} {a4 a5 : Nat → Int32} (q : zGI h k o n i f P a4 a5) (hp : ∀ c, zadj f c → c < 96 → P c) : zGO h k o n (i + 1) a4 a5 := by
  obtain ⟨⟨ρ, q1, q2, q3, q4⟩, q5, q6, q7, q8, q9⟩ := q
  have e : ρ i = f := nI_inj (by have := (zcon_end (q1.2.1 i q5)).1; omega) (by omega) ((q2 i q5).symm.trans q8)
  refine ⟨ρ, zBF_next q1 q5 (fun b hb hadj h0 => ?_), q2, q3, q4⟩
  rw [e] at hadj
  exact (q3 b hb).mp (q9 b hb (hp b hadj hb) h0)
def pg_X0_goOut : List zE := [(0, .aload_n 0, 1, []), (1, .dup, 1, []), (2, .getfield 40, 3, []), (5, .iconst 1, 1, [1]), (6, .iadd, 1, []), (7, .putfield 40, 3, []), (10, .aload_n 0, 1, []), (11, .iload_n 1, 1, []), (12, .iconst 0, 1, [0]), (13, .invokevirtual 55, 3, []), (16, .istore_n 2, 1, []), (17, .iconst 0, 1, [0]), (18, .istore_n 3, 1, []), (19, .iload_n 3, 1, []), (20, .iload_n 2, 1, []), (21, .if_icmp .ge 84, 3, [105]), (24, .iload_n 3, 1, []), (25, .bipush 96, 2, [96]), (27, .if_icmp .ge 78, 3, [105]), (30, .aload_n 0, 1, []), (31, .getfield 30, 3, []), (34, .iload_n 3, 1, []), (35, .iaload, 1, []), (36, .istore 4, 2, []), (38, .iload 4, 2, []), (40, .invokestatic 59, 3, []), (43, .istore 5, 2, []), (45, .aload_n 0, 1, []), (46, .iload 4, 2, []), (48, .bipush 12, 2, [12]), (50, .isub, 1, []), (51, .iload_n 2, 1, []), (52, .invokevirtual 55, 3, []), (55, .istore_n 2, 1, []), (56, .aload_n 0, 1, []), (57, .iload 4, 2, []), (59, .bipush 12, 2, [12]), (61, .iadd, 1, []), (62, .iload_n 2, 1, []), (63, .invokevirtual 55, 3, []), (66, .istore_n 2, 1, []), (67, .iload 5, 2, []), (69, .ifCond .le 13, 3, [82]), (72, .aload_n 0, 1, []), (73, .iload 4, 2, []), (75, .iconst 1, 1, [1]), (76, .isub, 1, []), (77, .iload_n 2, 1, []), (78, .invokevirtual 55, 3, []), (81, .istore_n 2, 1, []), (82, .iload 5, 2, []), (84, .bipush 11, 2, [11]), (86, .if_icmp .ge 13, 3, [99]), (89, .aload_n 0, 1, []), (90, .iload 4, 2, []), (92, .iconst 1, 1, [1]), (93, .iadd, 1, []), (94, .iload_n 2, 1, []), (95, .invokevirtual 55, 3, []), (98, .istore_n 2, 1, []), (99, .iinc 3 1, 3, [1]), (102, .goto (-83), 3, [19]), (105, .iload_n 2, 1, []), (106, .ireturn, 1, [])]
theorem hp_X0_goOut : ∀ q ∈ pg_X0_goOut, decode cX0_goOut q.1 = .ok (q.2.1, q.2.2.1) ∧ ztg q.2.1 q.1 q.2.2.1 q.2.2.2 = true := zpg_of (by decide +kernel)
def cs_X0_goOut : List (Nat × zCall) := [(55, 0, 3, some 1, 0, 0, false, sp_X0_reach), (59, 1, 1, none, 0, 0, false, sp_X4_columnOf)]
theorem hcs_X0_goOut {l : Launch} (hl0 : l.stackTraces = false) : ∀ q ∈ cs_X0_goOut, zCallable l RX0 3 q := List.forall_mem_cons.mpr ⟨zcV (C := (RX0, TX0, 8)) (ps := [302, 304, 1, 15, 305]) (c_X0_reach hl0) (by decide +kernel) rfl ⟨rfl, by decide +kernel, by decide +kernel, by decide +kernel⟩ (by decide) (by decide), List.forall_mem_cons.mpr ⟨zcN (ps := [307, 14, 308]) (host := RX4) (c_X4_columnOf hl0) (by decide +kernel) (by decide +kernel) ⟨by decide +kernel, by decide +kernel, by decide +kernel⟩ (by decide) (by decide), fun _ h => absurd h List.not_mem_nil⟩⟩
def th_X0_goOut : List (Nat × String) := []
theorem hth_X0_goOut : ∀ q ∈ th_X0_goOut, zThrow cX0_goOut RX0 q := fun _ h => absurd h List.not_mem_nil
def kc_X0_goOut : List (Nat × Int32) := []
theorem hkc_X0_goOut : ∀ q ∈ kc_X0_goOut, Cond.constant RX0 q.1 q.2 ∈ zTs := fun _ h => absurd h List.not_mem_nil
def nw_X0_goOut : List (Nat × Nat × Nat × List Value) := []
theorem hnw_X0_goOut : ∀ q ∈ nw_X0_goOut, zNew RX0 q := fun _ h => absurd h List.not_mem_nil
set_option maxHeartbeats 4000000 in
set_option maxRecDepth 20000 in
theorem c_X0_goOut {l : Launch} (hl0 : l.stackTraces = false) : CT l yX0_goOut (.code yX0_goOut cX0_goOut 6 (some .int)) 3 0 0 false sp_X0_goOut := by
  refine zCT_of hl0 (own := RX0) fl_RX0 cs_X0_goOut nw_X0_goOut th_X0_goOut kc_X0_goOut (fun _ => []) false pg_X0_goOut rfl (by decide +kernel) hp_X0_goOut ⟨_, _, rfl, rfl⟩ hfl_RX0 (fun h => nomatch h) (hcs_X0_goOut hl0) hnw_X0_goOut hth_X0_goOut (fun _ _ h => absurd h List.not_mem_nil) hkc_X0_goOut (fun args w Q X v0 hv0 h => ?_)
  obtain ⟨α, ν, r, k, o, hk, ho, hν, h5, rfl, rfl, hQ⟩ := h
  refine ⟨Nat.le_of_ble_eq_true rfl, 80, [
    (19, fun m L S w' cu su => ∃ n i a4 a5, zsub [(0, .ref 1), (2, .int (nI n)), (3, .int (nI i))] L ∧ S = [] ∧ w' = WX (zu (zu α 5 a5) 4 a4) (zu ν 2 (nI (o + 1))) r ∧ zGO (α 0) k (o + 1) n i a4 a5 ∧ m = 3 * (97 - i) + 2 ∧ cu = 0 ∧ su = 0),
    (82, fun m L S w' cu su => ∃ n i f a4 a5, zsub [(0, .ref 1), (2, .int (nI n)), (3, .int (nI i)), (4, .int (nI f)), (5, .int (nI (f % 12)))] L ∧ S = [] ∧ w' = WX (zu (zu α 5 a5) 4 a4) (zu ν 2 (nI (o + 1))) r ∧ zGI (α 0) k (o + 1) n i f (fun c => c + 12 = f ∨ f + 12 = c ∨ (f % 12 > 0 ∧ c + 1 = f)) a4 a5 ∧ m = 3 * (97 - i) + 1 ∧ cu = 0 ∧ su = 0),
    (99, fun m L S w' cu su => ∃ n i f a4 a5, zsub [(0, .ref 1), (2, .int (nI n)), (3, .int (nI i))] L ∧ S = [] ∧ w' = WX (zu (zu α 5 a5) 4 a4) (zu ν 2 (nI (o + 1))) r ∧ zGI (α 0) k (o + 1) n i f (zadj f) a4 a5 ∧ m = 3 * (97 - i) ∧ cu = 0 ∧ su = 0)], ?_, ?_⟩
  · (conv => whnf)
    refine ⟨α, zu ν 2 (nI (o + 1)), r, nI k, 0, by decide, rfl, ?_, fun n' b4 b5 hr => ?_⟩
    · dsimp only [zkon]
      rw [hν, nI_add]
      rfl
    · (conv => whnf)
      exact ⟨_, n', 0, b4, b5, ⟨rfl, rfl, rfl, trivial⟩, rfl, rfl, zGO_start hk ho h5 hr, rfl, rfl, rfl⟩
  · intro q hq
    rcases List.mem_cons.mp hq with rfl | hq
    · rintro m L S w' cu su ⟨n, i, a4, a5, hL, rfl, rfl, hg, rfl, rfl, rfl⟩
      refine ⟨_, hL, ?_⟩
      obtain ⟨hn, hi⟩ := zGO_vis hg
      (conv => whnf)
      refine And.intro (fun c => ?_) (fun c => ?_)
      · have hlt : i < n := (nI_ltI (by omega) (by omega)).mp c
        obtain ⟨ρ, g1, g2, g3, g4⟩ := id hg
        have hf := zcon_end (g1.2.1 i hlt)
        (conv => whnf)
        refine And.intro (fun _ => ?_) (fun c => absurd (show _ from (nI_lt (show i < 96 by omega) (by decide))) c)
        (conv => whnf)
        refine ⟨vp_in_nI (show i < 96 by omega) (by decide), ?_⟩
        (conv => whnf)
        rw [nI_clamp (by omega)]
        refine ⟨ρ i, hf.1, by rw [← g2 i hlt]; rfl, ?_⟩
        have hgi : zGI (α 0) k (o + 1) n i (ρ i) (fun _ => False) a4 a5 := ⟨hg, hlt, hf.1, g1.2.1 i hlt, g2 i hlt, fun _ _ x _ => x.elim⟩
        have e4 : (zu (zu α 5 a5) 4 a4) 4 i = nI (ρ i) := g2 i hlt
        rw [e4]
        generalize ρ i = f at hgi hf ⊢
        (conv => whnf)
        refine ⟨zu (zu α 5 a5) 4 a4, zu ν 2 (nI (o + 1)), r, nI f - nI 12, n, hn, rfl, rfl, fun n1 b4 b5 hr => ?_⟩
        have h1 := zGI_reach hgi hr (fun c hc e => Or.inl (nI_sub12 hf.1 hc e))
        obtain ⟨hn1, -⟩ := zGO_vis h1.1
        (conv => whnf)
        refine ⟨zu (zu α 5 b5) 4 b4, zu ν 2 (nI (o + 1)), r, nI f + nI 12, n1, hn1, rfl, rfl, fun n2 c4 c5 hr2 => ?_⟩
        have h2 := zGI_reach h1 hr2 (fun c hc e => Or.inr (Or.inl (nI_addc hf.1 (by decide) hc e)))
        obtain ⟨hn2, -⟩ := zGO_vis h2.1
        (conv => whnf)
        refine And.intro (fun d => ?_) (fun d => ?_)
        · have hm : f % 12 > 0 := by
            have : (0 : Nat) < f % 12 := (nI_ltI (a := 0) (by decide) (by omega)).mp d
            exact this
          (conv => whnf)
          refine ⟨zu (zu α 5 c5) 4 c4, zu ν 2 (nI (o + 1)), r, nI f - nI 1, n2, hn2, rfl, rfl, fun n3 d4 d5 hr3 => ?_⟩
          have h3 := zGI_reach h2 hr3 (fun c hc e => Or.inr (Or.inr (Or.inl ⟨hm, nI_sub1 hf.1 hc e⟩)))
          (conv => whnf)
          refine ⟨_, by omega, n3, i, f, d4, d5, ⟨rfl, rfl, rfl, rfl, rfl, trivial⟩, rfl, rfl, zGI_mono h3 (fun c hc hp => ?_), rfl, rfl, rfl⟩
          rcases hp with hp | hp | hp
          · exact Or.inl (Or.inl (Or.inr (by rw [← hp, ← nI_add]; exact (pk_addsub _ _))))
          · exact Or.inl (Or.inr (by rw [nI_add, hp]))
          · exact Or.inr (by rw [← hp.2, ← nI_add]; exact (pk_addsub _ _))
        · have hm : ¬ f % 12 > 0 := fun x => d (nI_lt (a := 0) x (by omega))
          (conv => whnf)
          refine ⟨_, by omega, n2, i, f, c4, c5, ⟨rfl, rfl, rfl, rfl, rfl, trivial⟩, rfl, rfl, zGI_mono h2 (fun c hc hp => ?_), rfl, rfl, rfl⟩
          rcases hp with hp | hp | hp
          · exact Or.inl (Or.inr (by rw [← hp, ← nI_add]; exact (pk_addsub _ _)))
          · exact Or.inr (by rw [nI_add, hp])
          · exact absurd hp.1 hm
      · have hge : i = n := by
          have : ¬ i < n := fun h => c (nI_lt h (by omega))
          omega
        subst hge
        (conv => whnf)
        exact hQ i a4 a5 hg
    · rcases List.mem_cons.mp hq with rfl | hq
      · rintro m L S w' cu su ⟨n, i, f, a4, a5, hL, rfl, rfl, hg, rfl, rfl, rfl⟩
        refine ⟨_, hL, ?_⟩
        obtain ⟨hn, hi⟩ := zGO_vis hg.1
        have hf : f < 96 := hg.2.2.1
        (conv => whnf)
        refine And.intro (fun c => ?_) (fun c => ?_)
        · have hm : f % 12 < 11 := (nI_ltI (by omega) (by decide)).mp c
          (conv => whnf)
          refine ⟨zu (zu α 5 a5) 4 a4, zu ν 2 (nI (o + 1)), r, nI f + nI 1, n, hn, rfl, rfl, fun n1 b4 b5 hr => ?_⟩
          have h1 := zGI_reach hg hr (fun c hc e => Or.inr (Or.inr (Or.inr ⟨hm, (nI_addc hf (by decide) hc e).symm⟩)))
          (conv => whnf)
          refine ⟨_, by omega, n1, i, f, b4, b5, ⟨rfl, rfl, rfl, trivial⟩, rfl, rfl, zGI_mono h1 (fun c hc hp => ?_), rfl, rfl, rfl⟩
          rcases hp with hp | hp | hp | hp
          · exact Or.inl (Or.inl hp)
          · exact Or.inl (Or.inr (Or.inl hp))
          · exact Or.inl (Or.inr (Or.inr hp))
          · exact Or.inr (by rw [nI_add, hp.2])
        · have hm : ¬ f % 12 < 11 := fun x => c (nI_lt x (by decide))
          (conv => whnf)
          refine ⟨_, by omega, n, i, f, a4, a5, ⟨rfl, rfl, rfl, trivial⟩, rfl, rfl, zGI_mono hg (fun c hc hp => ?_), rfl, rfl, rfl⟩
          rcases hp with hp | hp | hp | hp
          · exact Or.inl hp
          · exact Or.inr (Or.inl hp)
          · exact Or.inr (Or.inr hp)
          · exact absurd hp.1 hm
      · rw [List.mem_singleton.mp hq]
        rintro m L S w' cu su ⟨n, i, f, a4, a5, hL, rfl, rfl, hg, rfl, rfl, rfl⟩
        refine ⟨_, hL, ?_⟩
        obtain ⟨hn, hi⟩ := zGO_vis hg.1
        have hi2 : i < n := hg.2.1
        (conv => whnf)
        exact ⟨_, by omega, n, i + 1, a4, a5, ⟨rfl, rfl, zi1 rfl, trivial⟩, rfl, rfl, zGI_next hg (fun c h _ => h), rfl, rfl, rfl⟩
def sp_X0_tellShape : zSpec := fun args w Q _ => ∃ α ν r s n, ∃ ρ : Nat → Nat, n ≤ 96 ∧ (∀ j, j < n → ρ j < 96 ∧ α 4 j = nI (ρ j)) ∧ args = [.ref 1, .int s, .int (nI n)] ∧ w = WX α ν r ∧ ∀ b, (∀ k, k < 96 → (∃ j, j < n ∧ ρ j = k) → b k = s) → (∀ k, k < 96 → (¬ ∃ j, j < n ∧ ρ j = k) → b k = α 3 k) → Q none (WX (zu α 3 b) ν r)
def pg_X0_tellShape : List zE := [(0, .iconst 0, 1, [0]), (1, .istore_n 3, 1, []), (2, .iload_n 3, 1, []), (3, .iload_n 2, 1, []), (4, .if_icmp .ge 39, 3, [43]), (7, .iload_n 3, 1, []), (8, .bipush 96, 2, [96]), (10, .if_icmp .ge 33, 3, [43]), (13, .aload_n 0, 1, []), (14, .getfield 30, 3, []), (17, .iload_n 3, 1, []), (18, .iaload, 1, []), (19, .istore 4, 2, []), (21, .iload 4, 2, []), (23, .invokestatic 43, 3, []), (26, .ifCond .eq 11, 3, [37]), (29, .aload_n 0, 1, []), (30, .getfield 21, 3, []), (33, .iload 4, 2, []), (35, .iload_n 1, 1, []), (36, .iastore, 1, []), (37, .iinc 3 1, 3, [1]), (40, .goto (-38), 3, [2]), (43, .return_, 1, [])]
theorem hp_X0_tellShape : ∀ q ∈ pg_X0_tellShape, decode cX0_tellShape q.1 = .ok (q.2.1, q.2.2.1) ∧ ztg q.2.1 q.1 q.2.2.1 q.2.2.2 = true := zpg_of (by decide +kernel)
def cs_X0_tellShape : List (Nat × zCall) := [(43, 1, 1, none, 0, 0, false, sp_X4_isCell)]
theorem hcs_X0_tellShape {l : Launch} (hl0 : l.stackTraces = false) : ∀ q ∈ cs_X0_tellShape, zCallable l RX0 2 q := List.forall_mem_cons.mpr ⟨zcN (ps := [194, 14, 195]) (host := RX4) (c_X4_isCell hl0) (by decide +kernel) (by decide +kernel) ⟨by decide +kernel, by decide +kernel, by decide +kernel⟩ (by decide) (by decide), fun _ h => absurd h List.not_mem_nil⟩
def th_X0_tellShape : List (Nat × String) := []
theorem hth_X0_tellShape : ∀ q ∈ th_X0_tellShape, zThrow cX0_tellShape RX0 q := fun _ h => absurd h List.not_mem_nil
def kc_X0_tellShape : List (Nat × Int32) := []
theorem hkc_X0_tellShape : ∀ q ∈ kc_X0_tellShape, Cond.constant RX0 q.1 q.2 ∈ zTs := fun _ h => absurd h List.not_mem_nil
def nw_X0_tellShape : List (Nat × Nat × Nat × List Value) := []
theorem hnw_X0_tellShape : ∀ q ∈ nw_X0_tellShape, zNew RX0 q := fun _ h => absurd h List.not_mem_nil
set_option maxHeartbeats 4000000 in
set_option maxRecDepth 20000 in
theorem c_X0_tellShape {l : Launch} (hl0 : l.stackTraces = false) : CT l yX0_tellShape (.code yX0_tellShape cX0_tellShape 5 none) 2 0 0 false sp_X0_tellShape := by
  refine zCT_of hl0 (own := RX0) fl_RX0 cs_X0_tellShape nw_X0_tellShape th_X0_tellShape kc_X0_tellShape (fun _ => []) false pg_X0_tellShape rfl (by decide +kernel) hp_X0_tellShape ⟨_, _, rfl, rfl⟩ hfl_RX0 (fun h => nomatch h) (hcs_X0_tellShape hl0) hnw_X0_tellShape hth_X0_tellShape (fun _ _ h => absurd h List.not_mem_nil) hkc_X0_tellShape (fun args w Q X v0 hv0 h => ?_)
  obtain ⟨α, ν, r, s, n, ρ, hn, hρ, rfl, rfl, hQ⟩ := h
  refine ⟨Nat.le_of_ble_eq_true rfl, 60, [(2, fun m L S w' cu su => ∃ i b, zsub [(0, .ref 1), (1, .int s), (2, .int (nI n)), (3, .int (nI i))] L ∧ S = [] ∧ w' = WX (zu α 3 b) ν r ∧ i ≤ n ∧ (∀ k, k < 96 → (∃ j, j < i ∧ ρ j = k) → b k = s) ∧ (∀ k, k < 96 → (¬ ∃ j, j < i ∧ ρ j = k) → b k = α 3 k) ∧ m = 96 - i ∧ cu = 0 ∧ su = 0)], ?_, zone ?_⟩
  · (conv => whnf)
    exact ⟨96, 0, α 3, ⟨rfl, rfl, rfl, rfl, trivial⟩, rfl, rfl, Nat.zero_le _, fun k _ ⟨j, hj, _⟩ => absurd hj (Nat.not_lt_zero j), fun _ _ _ => rfl, rfl, rfl, rfl⟩
  · rintro m L S w' cu su ⟨i, b, hL, rfl, rfl, hi, hb1, hb2, rfl, rfl, rfl⟩
    refine ⟨_, hL, ?_⟩
    (conv => whnf)
    refine And.intro (fun c => ?_) (fun c => ?_)
    · have hlt : i < n := (nI_ltI (by omega) (by omega)).mp c
      obtain ⟨r1, r2⟩ := hρ i hlt
      (conv => whnf)
      refine And.intro (fun _ => ?_) (fun c => absurd (show _ from (nI_lt (show i < 96 by omega) (by decide))) c)
      (conv => whnf)
      refine ⟨vp_in_nI (show i < 96 by omega) (by decide), ?_⟩
      (conv => whnf)
      have e4 : (zu α 3 b) 4 i = nI (ρ i) := r2
      rw [nI_clamp (by omega), e4]
      refine ⟨_, rfl, fun _ => ?_, fun c => absurd (vp_in_nI r1 (by decide)) c⟩
      (conv => whnf)
      refine And.intro (fun c => absurd c (show ¬ _ from (by decide))) (fun _ => ?_)
      (conv => whnf)
      refine ⟨vp_in_nI r1 (by decide), ?_⟩
      (conv => whnf)
      rw [nI_clamp (by omega)]
      refine ⟨96 - (i + 1), by omega, i + 1, upd b (ρ i) s, ⟨rfl, rfl, rfl, zi1 rfl, trivial⟩, rfl, rfl, by omega, fun k hk hx => ?_, fun k hk hx => ?_, rfl, rfl, rfl⟩
      · obtain ⟨j, hj, e⟩ := hx
        by_cases e2 : k = ρ i
        · rw [e2, pk_us]
        · rw [pk_un e2]
          refine hb1 k hk ⟨j, ?_, e⟩
          apply Classical.byContradiction
          intro x
          have : j = i := by omega
          subst this
          exact e2 e.symm
      · have e2 : k ≠ ρ i := fun e => hx ⟨i, by omega, e.symm⟩
        rw [pk_un e2]
        exact hb2 k hk (fun ⟨j, hj, e⟩ => hx ⟨j, by omega, e⟩)
    · have hge : i = n := by
        have : ¬ i < n := fun h => c (nI_lt h (by omega))
        omega
      subst hge
      (conv => whnf)
      exact hQ b hb1 hb2
def sp_X0_joinShapes : zSpec := fun args w Q _ => ∃ α ν r o, o + 97 < 2 ^ 31 ∧ ν 2 = nI o ∧ (∀ c, c < 96 → ∃ t, α 5 c = nI t ∧ t ≤ o) ∧ args = [.ref 1] ∧ w = WX α ν r ∧
  ∀ f a4 a5 o', zLow (α 0) f → o' ≤ o + 96 → (∀ c, c < 96 → ∃ t, a5 c = nI t ∧ t ≤ o') → Q none (WX (zu (zu (zu α 5 a5) 4 a4) 3 f) (zu ν 2 (nI o')) r)
theorem zLowTo_go {h f b : Nat → Int32} {c o n : Nat} {a4 a5 : Nat → Int32} {ρ : Nat → Nat} (hc : c < 96) (q : zLowTo h c f) (hf : f c = -1) (g1 : zBF h c n n ρ) (h1 : ∀ k, k < 96 → (∃ j, j < n ∧ ρ j = k) → b k = nI c) (h2 : ∀ k, k < 96 → (¬ ∃ j, j < n ∧ ρ j = k) → b k = f k) : zLowTo h (c + 1) b := by
  by_cases h0 : h c = 0
  · have hb : ∀ k, k < 96 → b k = f k := fun k hk => h2 k hk (fun ⟨j, hj, _⟩ => (zcon_beg (g1.2.1 j hj)).2 h0)
    have hs := zLowTo_skip hc q (Or.inr h0)
    intro k hk
    obtain ⟨s1, s2⟩ := hs k hk
    refine ⟨fun x => ?_, fun x => by rw [hb k hk]; exact s2 x⟩
    have s3 := s1 x
    unfold zlowAt at s3 ⊢
    rw [hb k hk]
    exact s3
  · exact zLowTo_put hc q hf h0 (fun k hk e => h1 k hk ((zBF_done g1 k).mp e)) (fun k hk e => h2 k hk (fun x => e ((zBF_done g1 k).mpr x)))
def pg_X0_joinShapes : List zE := [(0, .aload_n 0, 1, []), (1, .getfield 21, 3, []), (4, .iconst (-1), 1, []), (5, .invokestatic 24, 3, []), (8, .iconst 0, 1, [0]), (9, .istore_n 1, 1, []), (10, .iload_n 1, 1, []), (11, .bipush 96, 2, [96]), (13, .if_icmp .ge 29, 3, [42]), (16, .aload_n 0, 1, []), (17, .getfield 21, 3, []), (20, .iload_n 1, 1, []), (21, .iaload, 1, []), (22, .iconst (-1), 1, []), (23, .if_icmp .ne 13, 3, [36]), (26, .aload_n 0, 1, []), (27, .iload_n 1, 1, []), (28, .aload_n 0, 1, []), (29, .iload_n 1, 1, []), (30, .invokevirtual 47, 3, []), (33, .invokevirtual 51, 3, []), (36, .iinc 1 1, 3, [1]), (39, .goto (-29), 3, [10]), (42, .return_, 1, [])]
theorem hp_X0_joinShapes : ∀ q ∈ pg_X0_joinShapes, decode cX0_joinShapes q.1 = .ok (q.2.1, q.2.2.1) ∧ ztg q.2.1 q.1 q.2.2.1 q.2.2.2 = true := zpg_of (by decide +kernel)
def cs_X0_joinShapes : List (Nat × zCall) := [(24, 1, 2, none, 0, 0, false, sp_J7_fill_53178), (47, 0, 2, some 1, 0, 0, false, sp_X0_goOut), (51, 0, 3, some 1, 0, 0, false, sp_X0_tellShape)]
theorem hcs_X0_joinShapes {l : Launch} (hl0 : l.stackTraces = false) : ∀ q ∈ cs_X0_joinShapes, zCallable l RX0 4 q := List.forall_mem_cons.mpr ⟨zcS (ps := [51, 52, 16, 53]) (c_J7_fill_53178 hl0) (by decide +kernel) ⟨by decide +kernel, by decide +kernel, by decide +kernel⟩ (by decide) (by decide), List.forall_mem_cons.mpr ⟨zcV (C := (RX0, TX0, 8)) (ps := [298, 299, 300, 15, 301]) (c_X0_goOut hl0) (by decide +kernel) rfl ⟨rfl, by decide +kernel, by decide +kernel, by decide +kernel⟩ (by decide) (by decide), List.forall_mem_cons.mpr ⟨zcV (C := (RX0, TX0, 8)) (ps := [309, 311, 2, 15, 312]) (c_X0_tellShape hl0) (by decide +kernel) rfl ⟨rfl, by decide +kernel, by decide +kernel, by decide +kernel⟩ (by decide) (by decide), fun _ h => absurd h List.not_mem_nil⟩⟩⟩
def th_X0_joinShapes : List (Nat × String) := []
theorem hth_X0_joinShapes : ∀ q ∈ th_X0_joinShapes, zThrow cX0_joinShapes RX0 q := fun _ h => absurd h List.not_mem_nil
def kc_X0_joinShapes : List (Nat × Int32) := []
theorem hkc_X0_joinShapes : ∀ q ∈ kc_X0_joinShapes, Cond.constant RX0 q.1 q.2 ∈ zTs := fun _ h => absurd h List.not_mem_nil
def nw_X0_joinShapes : List (Nat × Nat × Nat × List Value) := []
theorem hnw_X0_joinShapes : ∀ q ∈ nw_X0_joinShapes, zNew RX0 q := fun _ h => absurd h List.not_mem_nil
set_option maxHeartbeats 4000000 in
set_option maxRecDepth 20000 in
theorem c_X0_joinShapes {l : Launch} (hl0 : l.stackTraces = false) : CT l yX0_joinShapes (.code yX0_joinShapes cX0_joinShapes 2 none) 4 0 0 false sp_X0_joinShapes := by
  refine zCT_of hl0 (own := RX0) fl_RX0 cs_X0_joinShapes nw_X0_joinShapes th_X0_joinShapes kc_X0_joinShapes (fun _ => []) false pg_X0_joinShapes rfl (by decide +kernel) hp_X0_joinShapes ⟨_, _, rfl, rfl⟩ hfl_RX0 (fun h => nomatch h) (hcs_X0_joinShapes hl0) hnw_X0_joinShapes hth_X0_joinShapes (fun _ _ h => absurd h List.not_mem_nil) hkc_X0_joinShapes (fun args w Q X v0 hv0 h => ?_)
  obtain ⟨α, ν, r, o, ho, hν, h5, rfl, rfl, hQ⟩ := h
  refine ⟨Nat.le_of_ble_eq_true rfl, 60, [(10, fun m L S w' cu su => ∃ i f a4 a5 o', zsub [(0, .ref 1), (1, .int (nI i))] L ∧ S = [] ∧ w' = WX (zu (zu (zu α 5 a5) 4 a4) 3 f) (zu ν 2 (nI o')) r ∧ i ≤ 96 ∧ o' ≤ o + i ∧ zLowTo (α 0) i f ∧ (∀ c, c < 96 → ∃ t, a5 c = nI t ∧ t ≤ o') ∧ m = 96 - i ∧ cu = 0 ∧ su = 0)], ?_, zone ?_⟩
  · (conv => whnf)
    refine ⟨5, -1, 96, α 3, rfl, by decide, rfl, by decide, ?_⟩
    (conv => whnf)
    refine ⟨96, 0, zfl (-1) (α 3) 96, α 4, α 5, o, ⟨rfl, rfl, trivial⟩, rfl, ?_, Nat.zero_le _, Nat.le_refl _, zLowTo_0 (fun k hk => if_pos hk), h5, rfl, rfl, rfl⟩
    rw [← hν]
    rfl
  · rintro m L S w' cu su ⟨i, f, a4, a5, o', hL, rfl, rfl, hi, ho', hlow, h5', rfl, rfl, rfl⟩
    refine ⟨_, hL, ?_⟩
    (conv => whnf)
    refine And.intro (fun c => ?_) (fun c => ?_)
    · have hlt : i < 96 := (nI_ltI (by omega) (by omega)).mp c
      (conv => whnf)
      refine ⟨vp_in_nI hlt (by decide), ?_⟩
      (conv => whnf)
      rw [nI_clamp (by omega)]
      refine And.intro (fun d => ?_) (fun d => ?_)
      · have hd : f i = -1 := d
        (conv => whnf)
        refine ⟨zu (zu (zu α 5 a5) 4 a4) 3 f, zu ν 2 (nI o'), r, i, o', hlt, by omega, rfl, h5', rfl, rfl, fun n b4 b5 hg => ?_⟩
        obtain ⟨ρ, g1, g2, g3, g4⟩ := hg
        (conv => whnf)
        refine ⟨zu (zu (zu (zu (zu α 5 a5) 4 a4) 3 f) 5 b5) 4 b4, zu (zu ν 2 (nI o')) 2 (nI (o' + 1)), r, nI i, n, ρ, zBF_le g1, fun j hj => ⟨(zcon_end (g1.2.1 j hj)).1, g2 j hj⟩, rfl, rfl, fun b hb1 hb2 => ?_⟩
        (conv => whnf)
        refine ⟨96 - (i + 1), by omega, i + 1, b, b4, b5, o' + 1, ⟨rfl, zi1 rfl, trivial⟩, rfl, rfl, by omega, by omega, zLowTo_go (a4 := a4) (a5 := a5) (o := o) hlt hlow hd g1 hb1 hb2, g4, rfl, rfl, rfl⟩
      · (conv => whnf)
        exact ⟨96 - (i + 1), by omega, i + 1, f, a4, a5, o', ⟨rfl, zi1 rfl, trivial⟩, rfl, rfl, by omega, by omega, zLowTo_skip hlt hlow (Or.inl d), h5', rfl, rfl, rfl⟩
    · have hge : i = 96 := by
        have : ¬ i < 96 := fun h => c (nI_lt h (by decide))
        omega
      subst hge
      (conv => whnf)
      exact hQ f a4 a5 o' (zLowTo_all hlow) ho' h5'
end
section
/-! ===== EchoRegistry$Crew ===== -/
def sp_X2_isDiver : zSpec := fun args w Q _ => ∃ x, args = [.int x] ∧ zB Q (vp_in x 4) w
def fl_RX2 : List (Nat × Nat × Nat) := [(9, 3, 0), (21, 3, 1)]
theorem hfl_RX2 : ∀ q ∈ fl_RX2, zFld RX2 q := zfld_of (ps := [87, 88]) (by decide +kernel)
def pg_X2_isDiver : List zE := [(0, .iload_n 0, 1, []), (1, .ifCond .lt 12, 3, [13]), (4, .iload_n 0, 1, []), (5, .iconst 4, 1, [4]), (6, .if_icmp .ge 7, 3, [13]), (9, .iconst 1, 1, [1]), (10, .goto 4, 3, [14]), (13, .iconst 0, 1, [0]), (14, .ireturn, 1, [])]
theorem hp_X2_isDiver : ∀ q ∈ pg_X2_isDiver, decode cX2_isDiver q.1 = .ok (q.2.1, q.2.2.1) ∧ ztg q.2.1 q.1 q.2.2.1 q.2.2.2 = true := zpg_of (by decide +kernel)
def cs_X2_isDiver : List (Nat × zCall) := []
theorem hcs_X2_isDiver {l : Launch} (hl0 : l.stackTraces = false) : ∀ q ∈ cs_X2_isDiver, zCallable l RX2 1 q := fun _ h => absurd h List.not_mem_nil
def th_X2_isDiver : List (Nat × String) := []
theorem hth_X2_isDiver : ∀ q ∈ th_X2_isDiver, zThrow cX2_isDiver RX2 q := fun _ h => absurd h List.not_mem_nil
def kc_X2_isDiver : List (Nat × Int32) := []
theorem hkc_X2_isDiver : ∀ q ∈ kc_X2_isDiver, Cond.constant RX2 q.1 q.2 ∈ zTs := fun _ h => absurd h List.not_mem_nil
def nw_X2_isDiver : List (Nat × Nat × Nat × List Value) := []
theorem hnw_X2_isDiver : ∀ q ∈ nw_X2_isDiver, zNew RX2 q := fun _ h => absurd h List.not_mem_nil
set_option maxHeartbeats 4000000 in
set_option maxRecDepth 20000 in
theorem c_X2_isDiver {l : Launch} (hl0 : l.stackTraces = false) : CT l yX2_isDiver (.code yX2_isDiver cX2_isDiver 1 (some .boolean)) 1 0 0 false sp_X2_isDiver := by
  refine zCT_of hl0 (own := RX2) fl_RX2 cs_X2_isDiver nw_X2_isDiver th_X2_isDiver kc_X2_isDiver (fun _ => []) false pg_X2_isDiver rfl (by decide +kernel) hp_X2_isDiver ⟨_, _, rfl, rfl⟩ hfl_RX2 (fun h => nomatch h) (hcs_X2_isDiver hl0) hnw_X2_isDiver hth_X2_isDiver (fun _ _ h => absurd h List.not_mem_nil) hkc_X2_isDiver (fun args w Q X v0 hv0 h => ?_)
  obtain ⟨x, rfl, h1, h2⟩ := h
  refine ⟨Nat.le_of_ble_eq_true rfl, 20, [], ?_, fun q hq => absurd hq List.not_mem_nil⟩
  (conv => whnf)
  refine And.intro (fun c => ?_) (fun c => ?_) <;> dsimp only at c
  · (conv => whnf); exact ⟨Or.inl rfl, h2 (vp_in_neg c)⟩
  · (conv => whnf)
    refine And.intro (fun d => ?_) (fun d => ?_) <;> dsimp only at d
    · (conv => whnf); exact ⟨Or.inr rfl, h1 (vp_in_lt (by decide) c d)⟩
    · (conv => whnf); exact ⟨Or.inl rfl, h2 (vp_in_nlt (by decide) d)⟩
/-- the air of a minute in a cell -/
def zau (k : Nat) : Nat := k / 12 + 2
def sp_X2_airForDive : zSpec := fun args w Q _ => ∃ k m, k < 96 ∧ m ≤ 60 ∧ args = [.int (nI k), .int (nI m)] ∧ Q (some (.int (nI (m * zau k)))) w
def pg_X2_airForDive : List zE := [(0, .iload_n 1, 1, []), (1, .iconst 1, 1, [1]), (2, .iload_n 0, 1, []), (3, .invokestatic 24, 3, []), (6, .bipush 10, 2, [10]), (8, .idiv, 1, []), (9, .iadd, 1, []), (10, .imul, 1, []), (11, .ireturn, 1, [])]
theorem hp_X2_airForDive : ∀ q ∈ pg_X2_airForDive, decode cX2_airForDive q.1 = .ok (q.2.1, q.2.2.1) ∧ ztg q.2.1 q.1 q.2.2.1 q.2.2.2 = true := zpg_of (by decide +kernel)
def cs_X2_airForDive : List (Nat × zCall) := [(24, 1, 1, none, 0, 0, false, sp_X4_depthAt)]
theorem hcs_X2_airForDive {l : Launch} (hl0 : l.stackTraces = false) : ∀ q ∈ cs_X2_airForDive, zCallable l RX2 2 q := List.forall_mem_cons.mpr ⟨zcN (ps := [384, 14, 385]) (host := RX4) (c_X4_depthAt hl0) (by decide +kernel) (by decide +kernel) ⟨by decide +kernel, by decide +kernel, by decide +kernel⟩ (by decide) (by decide), fun _ h => absurd h List.not_mem_nil⟩
def th_X2_airForDive : List (Nat × String) := []
theorem hth_X2_airForDive : ∀ q ∈ th_X2_airForDive, zThrow cX2_airForDive RX2 q := fun _ h => absurd h List.not_mem_nil
def kc_X2_airForDive : List (Nat × Int32) := []
theorem hkc_X2_airForDive : ∀ q ∈ kc_X2_airForDive, Cond.constant RX2 q.1 q.2 ∈ zTs := fun _ h => absurd h List.not_mem_nil
def nw_X2_airForDive : List (Nat × Nat × Nat × List Value) := []
theorem hnw_X2_airForDive : ∀ q ∈ nw_X2_airForDive, zNew RX2 q := fun _ h => absurd h List.not_mem_nil
set_option maxHeartbeats 4000000 in
set_option maxRecDepth 20000 in
theorem c_X2_airForDive {l : Launch} (hl0 : l.stackTraces = false) : CT l yX2_airForDive (.code yX2_airForDive cX2_airForDive 2 (some .int)) 2 0 0 false sp_X2_airForDive := by
  refine zCT_of hl0 (own := RX2) fl_RX2 cs_X2_airForDive nw_X2_airForDive th_X2_airForDive kc_X2_airForDive (fun _ => []) false pg_X2_airForDive rfl (by decide +kernel) hp_X2_airForDive ⟨_, _, rfl, rfl⟩ hfl_RX2 (fun h => nomatch h) (hcs_X2_airForDive hl0) hnw_X2_airForDive hth_X2_airForDive (fun _ _ h => absurd h List.not_mem_nil) hkc_X2_airForDive (fun args w Q X v0 hv0 h => ?_)
  obtain ⟨k, m, hk, hm, rfl, hQ⟩ := h
  refine ⟨Nat.le_of_ble_eq_true rfl, 20, [], ?_, fun q hq => absurd hq List.not_mem_nil⟩
  (conv => whnf)
  refine ⟨k, hk, rfl, ?_⟩
  (conv => whnf)
  refine ⟨by decide, ?_⟩
  (conv => whnf)
  dsimp only [zkon]
  rw [pk_div (by omega) (by omega) (by omega), nI_add, pk_mul, show m * (1 + 10 * (k / 12 + 1) / 10) = m * zau k by rw [Nat.mul_div_cancel_left _ (by decide)]; unfold zau; congr 1; omega]
  exact hQ
def sp_X2_airOf : zSpec := fun args w Q _ => ∃ α ν r d, d < 4 ∧ args = [.ref 8, .int (nI d)] ∧ w = WX α ν r ∧ Q (some (.int (α 6 d))) (WX α ν r)
def pg_X2_airOf : List zE := [(0, .iload_n 1, 1, []), (1, .invokestatic 28, 3, []), (4, .ifCond .eq 12, 3, [16]), (7, .aload_n 0, 1, []), (8, .getfield 9, 3, []), (11, .iload_n 1, 1, []), (12, .iaload, 1, []), (13, .goto 4, 3, [17]), (16, .iconst 0, 1, [0]), (17, .ireturn, 1, [])]
theorem hp_X2_airOf : ∀ q ∈ pg_X2_airOf, decode cX2_airOf q.1 = .ok (q.2.1, q.2.2.1) ∧ ztg q.2.1 q.1 q.2.2.1 q.2.2.2 = true := zpg_of (by decide +kernel)
def cs_X2_airOf : List (Nat × zCall) := [(28, 1, 1, none, 0, 0, false, sp_X2_isDiver)]
theorem hcs_X2_airOf {l : Launch} (hl0 : l.stackTraces = false) : ∀ q ∈ cs_X2_airOf, zCallable l RX2 2 q := List.forall_mem_cons.mpr ⟨zcS (ps := [358, 359, 17, 360]) (c_X2_isDiver hl0) (by decide +kernel) ⟨by decide +kernel, by decide +kernel, by decide +kernel⟩ (by decide) (by decide), fun _ h => absurd h List.not_mem_nil⟩
def th_X2_airOf : List (Nat × String) := []
theorem hth_X2_airOf : ∀ q ∈ th_X2_airOf, zThrow cX2_airOf RX2 q := fun _ h => absurd h List.not_mem_nil
def kc_X2_airOf : List (Nat × Int32) := []
theorem hkc_X2_airOf : ∀ q ∈ kc_X2_airOf, Cond.constant RX2 q.1 q.2 ∈ zTs := fun _ h => absurd h List.not_mem_nil
def nw_X2_airOf : List (Nat × Nat × Nat × List Value) := []
theorem hnw_X2_airOf : ∀ q ∈ nw_X2_airOf, zNew RX2 q := fun _ h => absurd h List.not_mem_nil
set_option maxHeartbeats 4000000 in
set_option maxRecDepth 20000 in
theorem c_X2_airOf {l : Launch} (hl0 : l.stackTraces = false) : CT l yX2_airOf (.code yX2_airOf cX2_airOf 2 (some .int)) 2 0 0 false sp_X2_airOf := by
  refine zCT_of hl0 (own := RX2) fl_RX2 cs_X2_airOf nw_X2_airOf th_X2_airOf kc_X2_airOf (fun _ => []) false pg_X2_airOf rfl (by decide +kernel) hp_X2_airOf ⟨_, _, rfl, rfl⟩ hfl_RX2 (fun h => nomatch h) (hcs_X2_airOf hl0) hnw_X2_airOf hth_X2_airOf (fun _ _ h => absurd h List.not_mem_nil) hkc_X2_airOf (fun args w Q X v0 hv0 h => ?_)
  obtain ⟨α, ν, r, k, hk, rfl, rfl, hQ⟩ := h
  refine ⟨Nat.le_of_ble_eq_true rfl, 20, [], ?_, fun q hq => absurd hq List.not_mem_nil⟩
  (conv => whnf)
  refine ⟨_, rfl, fun _ => ?_, fun c => absurd (vp_in_nI hk (by decide)) c⟩
  (conv => whnf)
  refine And.intro (fun c => absurd c (show ¬ _ from (by decide))) (fun _ => ?_)
  (conv => whnf)
  refine ⟨vp_in_nI hk (by decide), ?_⟩
  (conv => whnf)
  rw [nI_clamp (by omega)]
  exact hQ
def zrst (f y : Int32) : Int32 := if 0 < f - y then f - y else 0
def sp_X2_minutesUntilFree : zSpec := fun args w Q _ => ∃ α ν r d y, d < 4 ∧ args = [.ref 8, .int (nI d), .int y] ∧ w = WX α ν r ∧ Q (some (.int (zrst (α 7 d) y))) (WX α ν r)
def pg_X2_minutesUntilFree : List zE := [(0, .iload_n 1, 1, []), (1, .invokestatic 28, 3, []), (4, .ifCond .eq 18, 3, [22]), (7, .iconst 0, 1, [0]), (8, .aload_n 0, 1, []), (9, .getfield 21, 3, []), (12, .iload_n 1, 1, []), (13, .iaload, 1, []), (14, .iload_n 2, 1, []), (15, .isub, 1, []), (16, .invokestatic 32, 3, []), (19, .goto 4, 3, [23]), (22, .iconst 0, 1, [0]), (23, .ireturn, 1, [])]
theorem hp_X2_minutesUntilFree : ∀ q ∈ pg_X2_minutesUntilFree, decode cX2_minutesUntilFree q.1 = .ok (q.2.1, q.2.2.1) ∧ ztg q.2.1 q.1 q.2.2.1 q.2.2.2 = true := zpg_of (by decide +kernel)
def cs_X2_minutesUntilFree : List (Nat × zCall) := [(28, 1, 1, none, 0, 0, false, sp_X2_isDiver), (32, 1, 2, none, 0, 0, false, zspMax)]
theorem hcs_X2_minutesUntilFree {l : Launch} (hl0 : l.stackTraces = false) : ∀ q ∈ cs_X2_minutesUntilFree, zCallable l RX2 2 q := List.forall_mem_cons.mpr ⟨zcS (ps := [358, 359, 17, 360]) (c_X2_isDiver hl0) (by decide +kernel) ⟨by decide +kernel, by decide +kernel, by decide +kernel⟩ (by decide) (by decide), List.forall_mem_cons.mpr ⟨zcMax (ps := [369, 370, 29, 371]) (by decide +kernel) (by decide), fun _ h => absurd h List.not_mem_nil⟩⟩
def th_X2_minutesUntilFree : List (Nat × String) := []
theorem hth_X2_minutesUntilFree : ∀ q ∈ th_X2_minutesUntilFree, zThrow cX2_minutesUntilFree RX2 q := fun _ h => absurd h List.not_mem_nil
def kc_X2_minutesUntilFree : List (Nat × Int32) := []
theorem hkc_X2_minutesUntilFree : ∀ q ∈ kc_X2_minutesUntilFree, Cond.constant RX2 q.1 q.2 ∈ zTs := fun _ h => absurd h List.not_mem_nil
def nw_X2_minutesUntilFree : List (Nat × Nat × Nat × List Value) := []
theorem hnw_X2_minutesUntilFree : ∀ q ∈ nw_X2_minutesUntilFree, zNew RX2 q := fun _ h => absurd h List.not_mem_nil
set_option maxHeartbeats 4000000 in
set_option maxRecDepth 20000 in
theorem c_X2_minutesUntilFree {l : Launch} (hl0 : l.stackTraces = false) : CT l yX2_minutesUntilFree (.code yX2_minutesUntilFree cX2_minutesUntilFree 3 (some .int)) 2 0 0 false sp_X2_minutesUntilFree := by
  refine zCT_of hl0 (own := RX2) fl_RX2 cs_X2_minutesUntilFree nw_X2_minutesUntilFree th_X2_minutesUntilFree kc_X2_minutesUntilFree (fun _ => []) false pg_X2_minutesUntilFree rfl (by decide +kernel) hp_X2_minutesUntilFree ⟨_, _, rfl, rfl⟩ hfl_RX2 (fun h => nomatch h) (hcs_X2_minutesUntilFree hl0) hnw_X2_minutesUntilFree hth_X2_minutesUntilFree (fun _ _ h => absurd h List.not_mem_nil) hkc_X2_minutesUntilFree (fun args w Q X v0 hv0 h => ?_)
  obtain ⟨α, ν, r, k, y, hk, rfl, rfl, hQ⟩ := h
  refine ⟨Nat.le_of_ble_eq_true rfl, 20, [], ?_, fun q hq => absurd hq List.not_mem_nil⟩
  (conv => whnf)
  refine ⟨_, rfl, fun _ => ?_, fun c => absurd (vp_in_nI hk (by decide)) c⟩
  (conv => whnf)
  refine And.intro (fun c => absurd c (show ¬ _ from (by decide))) (fun _ => ?_)
  (conv => whnf)
  refine ⟨vp_in_nI hk (by decide), ?_⟩
  (conv => whnf)
  rw [nI_clamp (by omega)]
  refine ⟨_, _, rfl, ?_⟩
  (conv => whnf)
  exact hQ
def sp_X2_isFree : zSpec := fun args w Q _ => ∃ α ν r d y, d < 4 ∧ args = [.ref 8, .int (nI d), .int y] ∧ w = WX α ν r ∧ zB Q (zrst (α 7 d) y = 0) (WX α ν r)
def pg_X2_isFree : List zE := [(0, .aload_n 0, 1, []), (1, .iload_n 1, 1, []), (2, .iload_n 2, 1, []), (3, .invokevirtual 38, 3, []), (6, .ifCond .ne 7, 3, [13]), (9, .iconst 1, 1, [1]), (10, .goto 4, 3, [14]), (13, .iconst 0, 1, [0]), (14, .ireturn, 1, [])]
theorem hp_X2_isFree : ∀ q ∈ pg_X2_isFree, decode cX2_isFree q.1 = .ok (q.2.1, q.2.2.1) ∧ ztg q.2.1 q.1 q.2.2.1 q.2.2.2 = true := zpg_of (by decide +kernel)
def cs_X2_isFree : List (Nat × zCall) := [(38, 0, 3, some 3, 0, 0, false, sp_X2_minutesUntilFree)]
theorem hcs_X2_isFree {l : Launch} (hl0 : l.stackTraces = false) : ∀ q ∈ cs_X2_isFree, zCallable l RX2 3 q := List.forall_mem_cons.mpr ⟨zcV (C := (RX2, TX2, 2)) (ps := [524, 366, 367, 17, 368]) (c_X2_minutesUntilFree hl0) (by decide +kernel) rfl ⟨rfl, by decide +kernel, by decide +kernel, by decide +kernel⟩ (by decide) (by decide), fun _ h => absurd h List.not_mem_nil⟩
def th_X2_isFree : List (Nat × String) := []
theorem hth_X2_isFree : ∀ q ∈ th_X2_isFree, zThrow cX2_isFree RX2 q := fun _ h => absurd h List.not_mem_nil
def kc_X2_isFree : List (Nat × Int32) := []
theorem hkc_X2_isFree : ∀ q ∈ kc_X2_isFree, Cond.constant RX2 q.1 q.2 ∈ zTs := fun _ h => absurd h List.not_mem_nil
def nw_X2_isFree : List (Nat × Nat × Nat × List Value) := []
theorem hnw_X2_isFree : ∀ q ∈ nw_X2_isFree, zNew RX2 q := fun _ h => absurd h List.not_mem_nil
set_option maxHeartbeats 4000000 in
set_option maxRecDepth 20000 in
theorem c_X2_isFree {l : Launch} (hl0 : l.stackTraces = false) : CT l yX2_isFree (.code yX2_isFree cX2_isFree 3 (some .boolean)) 3 0 0 false sp_X2_isFree := by
  refine zCT_of hl0 (own := RX2) fl_RX2 cs_X2_isFree nw_X2_isFree th_X2_isFree kc_X2_isFree (fun _ => []) false pg_X2_isFree rfl (by decide +kernel) hp_X2_isFree ⟨_, _, rfl, rfl⟩ hfl_RX2 (fun h => nomatch h) (hcs_X2_isFree hl0) hnw_X2_isFree hth_X2_isFree (fun _ _ h => absurd h List.not_mem_nil) hkc_X2_isFree (fun args w Q X v0 hv0 h => ?_)
  obtain ⟨α, ν, r, k, y, hk, rfl, rfl, h1, h2⟩ := h
  refine ⟨Nat.le_of_ble_eq_true rfl, 20, [], ?_, fun q hq => absurd hq List.not_mem_nil⟩
  (conv => whnf)
  refine ⟨α, ν, r, k, y, hk, rfl, rfl, ?_⟩
  (conv => whnf)
  refine And.intro (fun c => ?_) (fun c => ?_)
  · (conv => whnf)
    exact ⟨Or.inr rfl, h1 c⟩
  · (conv => whnf)
    exact ⟨Or.inl rfl, h2 c⟩
def sp_X2_dive : zSpec := fun args w Q _ => ∃ α ν r d k m y, d < 4 ∧ k < 96 ∧ m ≤ 60 ∧ args = [.ref 8, .int (nI d), .int (nI k), .int (nI m), .int y] ∧ w = WX α ν r ∧
  Q none (WX (zu (zu α 6 (upd (α 6) d (α 6 d - nI (m * zau k)))) 7 (upd (α 7) d (y + nI m + nI (m * (10 * (k / 12 + 1)) / 20)))) ν r)
def pg_X2_dive : List zE := [(0, .iload_n 1, 1, []), (1, .invokestatic 28, 3, []), (4, .ifCond .eq 37, 3, [41]), (7, .aload_n 0, 1, []), (8, .getfield 9, 3, []), (11, .iload_n 1, 1, []), (12, .dup2, 1, []), (13, .iaload, 1, []), (14, .iload_n 2, 1, []), (15, .iload_n 3, 1, []), (16, .invokestatic 41, 3, []), (19, .isub, 1, []), (20, .iastore, 1, []), (21, .aload_n 0, 1, []), (22, .getfield 21, 3, []), (25, .iload_n 1, 1, []), (26, .iload 4, 2, []), (28, .iload_n 3, 1, []), (29, .iadd, 1, []), (30, .iload_n 3, 1, []), (31, .iload_n 2, 1, []), (32, .invokestatic 24, 3, []), (35, .imul, 1, []), (36, .bipush 20, 2, [20]), (38, .idiv, 1, []), (39, .iadd, 1, []), (40, .iastore, 1, []), (41, .return_, 1, [])]
theorem hp_X2_dive : ∀ q ∈ pg_X2_dive, decode cX2_dive q.1 = .ok (q.2.1, q.2.2.1) ∧ ztg q.2.1 q.1 q.2.2.1 q.2.2.2 = true := zpg_of (by decide +kernel)
def cs_X2_dive : List (Nat × zCall) := [(28, 1, 1, none, 0, 0, false, sp_X2_isDiver), (41, 1, 2, none, 0, 0, false, sp_X2_airForDive), (24, 1, 1, none, 0, 0, false, sp_X4_depthAt)]
theorem hcs_X2_dive {l : Launch} (hl0 : l.stackTraces = false) : ∀ q ∈ cs_X2_dive, zCallable l RX2 3 q := List.forall_mem_cons.mpr ⟨zcS (ps := [358, 359, 17, 360]) (c_X2_isDiver hl0) (by decide +kernel) ⟨by decide +kernel, by decide +kernel, by decide +kernel⟩ (by decide) (by decide), List.forall_mem_cons.mpr ⟨zcS (ps := [380, 381, 17, 382]) (c_X2_airForDive hl0) (by decide +kernel) ⟨by decide +kernel, by decide +kernel, by decide +kernel⟩ (by decide) (by decide), List.forall_mem_cons.mpr ⟨zcN (ps := [384, 14, 385]) (host := RX4) (c_X4_depthAt hl0) (by decide +kernel) (by decide +kernel) ⟨by decide +kernel, by decide +kernel, by decide +kernel⟩ (by decide) (by decide), fun _ h => absurd h List.not_mem_nil⟩⟩⟩
def th_X2_dive : List (Nat × String) := []
theorem hth_X2_dive : ∀ q ∈ th_X2_dive, zThrow cX2_dive RX2 q := fun _ h => absurd h List.not_mem_nil
def kc_X2_dive : List (Nat × Int32) := []
theorem hkc_X2_dive : ∀ q ∈ kc_X2_dive, Cond.constant RX2 q.1 q.2 ∈ zTs := fun _ h => absurd h List.not_mem_nil
def nw_X2_dive : List (Nat × Nat × Nat × List Value) := []
theorem hnw_X2_dive : ∀ q ∈ nw_X2_dive, zNew RX2 q := fun _ h => absurd h List.not_mem_nil
set_option maxHeartbeats 4000000 in
set_option maxRecDepth 20000 in
theorem c_X2_dive {l : Launch} (hl0 : l.stackTraces = false) : CT l yX2_dive (.code yX2_dive cX2_dive 5 none) 3 0 0 false sp_X2_dive := by
  refine zCT_of hl0 (own := RX2) fl_RX2 cs_X2_dive nw_X2_dive th_X2_dive kc_X2_dive (fun _ => []) false pg_X2_dive rfl (by decide +kernel) hp_X2_dive ⟨_, _, rfl, rfl⟩ hfl_RX2 (fun h => nomatch h) (hcs_X2_dive hl0) hnw_X2_dive hth_X2_dive (fun _ _ h => absurd h List.not_mem_nil) hkc_X2_dive (fun args w Q X v0 hv0 h => ?_)
  obtain ⟨α, ν, r, d, k, m, y, hd, hk, hm, rfl, rfl, hQ⟩ := h
  refine ⟨Nat.le_of_ble_eq_true rfl, 60, [], ?_, fun q hq => absurd hq List.not_mem_nil⟩
  (conv => whnf)
  refine ⟨_, rfl, fun _ => ?_, fun c => absurd (vp_in_nI hd (by decide)) c⟩
  (conv => whnf)
  refine And.intro (fun c => absurd c (show ¬ _ from (by decide))) (fun _ => ?_)
  (conv => whnf)
  refine ⟨vp_in_nI hd (by decide), ?_⟩
  (conv => whnf)
  refine ⟨k, m, hk, hm, rfl, ?_⟩
  (conv => whnf)
  refine ⟨vp_in_nI hd (by decide), ?_⟩
  (conv => whnf)
  refine ⟨k, hk, rfl, ?_⟩
  (conv => whnf)
  refine ⟨by decide, ?_⟩
  (conv => whnf)
  refine ⟨vp_in_nI hd (by decide), ?_⟩
  (conv => whnf)
  have hb : m * (10 * (k / 12 + 1)) ≤ 60 * (10 * (k / 12 + 1)) := Nat.mul_le_mul_right _ hm
  dsimp only [zkon]
  rw [nI_clamp (by omega), pk_mul, pk_div (by omega) (by omega) (by omega)]
  exact hQ
def sp_X2_fillBottle : zSpec := fun args w Q _ => ∃ α ν r d, d < 4 ∧ args = [.ref 8, .int (nI d)] ∧ w = WX α ν r ∧ Q (some (.int (nI 200 - α 6 d))) (WX (zu α 6 (upd (α 6) d (nI 200))) ν r)
def pg_X2_fillBottle : List zE := [(0, .iload_n 1, 1, []), (1, .invokestatic 28, 3, []), (4, .ifCond .ne 5, 3, [9]), (7, .iconst 0, 1, [0]), (8, .ireturn, 1, []), (9, .sipush 200, 3, [200]), (12, .aload_n 0, 1, []), (13, .getfield 9, 3, []), (16, .iload_n 1, 1, []), (17, .iaload, 1, []), (18, .isub, 1, []), (19, .istore_n 2, 1, []), (20, .aload_n 0, 1, []), (21, .getfield 9, 3, []), (24, .iload_n 1, 1, []), (25, .sipush 200, 3, [200]), (28, .iastore, 1, []), (29, .iload_n 2, 1, []), (30, .ireturn, 1, [])]
theorem hp_X2_fillBottle : ∀ q ∈ pg_X2_fillBottle, decode cX2_fillBottle q.1 = .ok (q.2.1, q.2.2.1) ∧ ztg q.2.1 q.1 q.2.2.1 q.2.2.2 = true := zpg_of (by decide +kernel)
def cs_X2_fillBottle : List (Nat × zCall) := [(28, 1, 1, none, 0, 0, false, sp_X2_isDiver)]
theorem hcs_X2_fillBottle {l : Launch} (hl0 : l.stackTraces = false) : ∀ q ∈ cs_X2_fillBottle, zCallable l RX2 2 q := List.forall_mem_cons.mpr ⟨zcS (ps := [358, 359, 17, 360]) (c_X2_isDiver hl0) (by decide +kernel) ⟨by decide +kernel, by decide +kernel, by decide +kernel⟩ (by decide) (by decide), fun _ h => absurd h List.not_mem_nil⟩
def th_X2_fillBottle : List (Nat × String) := []
theorem hth_X2_fillBottle : ∀ q ∈ th_X2_fillBottle, zThrow cX2_fillBottle RX2 q := fun _ h => absurd h List.not_mem_nil
def kc_X2_fillBottle : List (Nat × Int32) := []
theorem hkc_X2_fillBottle : ∀ q ∈ kc_X2_fillBottle, Cond.constant RX2 q.1 q.2 ∈ zTs := fun _ h => absurd h List.not_mem_nil
def nw_X2_fillBottle : List (Nat × Nat × Nat × List Value) := []
theorem hnw_X2_fillBottle : ∀ q ∈ nw_X2_fillBottle, zNew RX2 q := fun _ h => absurd h List.not_mem_nil
set_option maxHeartbeats 4000000 in
set_option maxRecDepth 20000 in
theorem c_X2_fillBottle {l : Launch} (hl0 : l.stackTraces = false) : CT l yX2_fillBottle (.code yX2_fillBottle cX2_fillBottle 3 (some .int)) 2 0 0 false sp_X2_fillBottle := by
  refine zCT_of hl0 (own := RX2) fl_RX2 cs_X2_fillBottle nw_X2_fillBottle th_X2_fillBottle kc_X2_fillBottle (fun _ => []) false pg_X2_fillBottle rfl (by decide +kernel) hp_X2_fillBottle ⟨_, _, rfl, rfl⟩ hfl_RX2 (fun h => nomatch h) (hcs_X2_fillBottle hl0) hnw_X2_fillBottle hth_X2_fillBottle (fun _ _ h => absurd h List.not_mem_nil) hkc_X2_fillBottle (fun args w Q X v0 hv0 h => ?_)
  obtain ⟨α, ν, r, k, hk, rfl, rfl, hQ⟩ := h
  refine ⟨Nat.le_of_ble_eq_true rfl, 20, [], ?_, fun q hq => absurd hq List.not_mem_nil⟩
  (conv => whnf)
  refine ⟨_, rfl, fun _ => ?_, fun c => absurd (vp_in_nI hk (by decide)) c⟩
  (conv => whnf)
  refine And.intro (fun c => absurd c (show ¬ _ from (by decide))) (fun _ => ?_)
  (conv => whnf)
  refine ⟨vp_in_nI hk (by decide), ?_⟩
  (conv => whnf)
  refine ⟨vp_in_nI hk (by decide), ?_⟩
  (conv => whnf)
  rw [nI_clamp (by omega)]
  exact hQ
def sp_X2_longestDive : zSpec := fun args w Q _ => ∃ α ν r d k a, d < 4 ∧ k < 96 ∧ a ≤ 200 ∧ α 6 d = nI a ∧ args = [.ref 8, .int (nI d), .int (nI k)] ∧ w = WX α ν r ∧ Q (some (.int (nI (min (a / zau k) 60)))) (WX α ν r)
def pg_X2_longestDive : List zE := [(0, .bipush 60, 2, [60]), (2, .istore_n 3, 1, []), (3, .iload_n 3, 1, []), (4, .ifCond .le 22, 3, [26]), (7, .iload_n 2, 1, []), (8, .iload_n 3, 1, []), (9, .invokestatic 41, 3, []), (12, .aload_n 0, 1, []), (13, .iload_n 1, 1, []), (14, .invokevirtual 44, 3, []), (17, .if_icmp .le 9, 3, [26]), (20, .iinc 3 (-1), 3, []), (23, .goto (-20), 3, [3]), (26, .iload_n 3, 1, []), (27, .ireturn, 1, [])]
theorem hp_X2_longestDive : ∀ q ∈ pg_X2_longestDive, decode cX2_longestDive q.1 = .ok (q.2.1, q.2.2.1) ∧ ztg q.2.1 q.1 q.2.2.1 q.2.2.2 = true := zpg_of (by decide +kernel)
def cs_X2_longestDive : List (Nat × zCall) := [(41, 1, 2, none, 0, 0, false, sp_X2_airForDive), (44, 0, 2, some 3, 0, 0, false, sp_X2_airOf)]
theorem hcs_X2_longestDive {l : Launch} (hl0 : l.stackTraces = false) : ∀ q ∈ cs_X2_longestDive, zCallable l RX2 3 q := List.forall_mem_cons.mpr ⟨zcS (ps := [380, 381, 17, 382]) (c_X2_airForDive hl0) (by decide +kernel) ⟨by decide +kernel, by decide +kernel, by decide +kernel⟩ (by decide) (by decide), List.forall_mem_cons.mpr ⟨zcV (C := (RX2, TX2, 2)) (ps := [386, 355, 356, 17, 357]) (c_X2_airOf hl0) (by decide +kernel) rfl ⟨rfl, by decide +kernel, by decide +kernel, by decide +kernel⟩ (by decide) (by decide), fun _ h => absurd h List.not_mem_nil⟩⟩
def th_X2_longestDive : List (Nat × String) := []
theorem hth_X2_longestDive : ∀ q ∈ th_X2_longestDive, zThrow cX2_longestDive RX2 q := fun _ h => absurd h List.not_mem_nil
def kc_X2_longestDive : List (Nat × Int32) := []
theorem hkc_X2_longestDive : ∀ q ∈ kc_X2_longestDive, Cond.constant RX2 q.1 q.2 ∈ zTs := fun _ h => absurd h List.not_mem_nil
def nw_X2_longestDive : List (Nat × Nat × Nat × List Value) := []
theorem hnw_X2_longestDive : ∀ q ∈ nw_X2_longestDive, zNew RX2 q := fun _ h => absurd h List.not_mem_nil
set_option maxHeartbeats 4000000 in
set_option maxRecDepth 20000 in
theorem c_X2_longestDive {l : Launch} (hl0 : l.stackTraces = false) : CT l yX2_longestDive (.code yX2_longestDive cX2_longestDive 4 (some .int)) 3 0 0 false sp_X2_longestDive := by
  refine zCT_of hl0 (own := RX2) fl_RX2 cs_X2_longestDive nw_X2_longestDive th_X2_longestDive kc_X2_longestDive (fun _ => []) false pg_X2_longestDive rfl (by decide +kernel) hp_X2_longestDive ⟨_, _, rfl, rfl⟩ hfl_RX2 (fun h => nomatch h) (hcs_X2_longestDive hl0) hnw_X2_longestDive hth_X2_longestDive (fun _ _ h => absurd h List.not_mem_nil) hkc_X2_longestDive (fun args w Q X v0 hv0 h => ?_)
  obtain ⟨α, ν, r, d, k, a, hd, hk, ha, ha6, rfl, rfl, hQ⟩ := h
  have hu : 2 ≤ zau k ∧ zau k ≤ 9 := by unfold zau; omega
  refine ⟨Nat.le_of_ble_eq_true rfl, 60, [(3, fun m L S w' cu su => ∃ i, zsub [(0, .ref 8), (1, .int (nI d)), (2, .int (nI k)), (3, .int (nI i))] L ∧ S = [] ∧ w' = WX α ν r ∧ i ≤ 60 ∧ min (a / zau k) 60 ≤ i ∧ m = i ∧ cu = 0 ∧ su = 0)], ?_, zone ?_⟩
  · (conv => whnf)
    exact ⟨60, 60, ⟨rfl, rfl, rfl, rfl, trivial⟩, rfl, rfl, by decide, Nat.min_le_right _ _, rfl, rfl, rfl⟩
  · rintro m L S w' cu su ⟨i, hL, rfl, rfl, hi, hm, rfl, rfl, rfl⟩
    refine ⟨_, hL, ?_⟩
    (conv => whnf)
    refine And.intro (fun c => ?_) (fun c => ?_)
    · have h0 : 0 < m := by
        apply Classical.byContradiction
        intro h
        have : m = 0 := by omega
        subst this
        exact absurd c (by decide)
      have hmu : m * zau k ≤ 60 * 9 := Nat.mul_le_mul hi hu.2
      (conv => whnf)
      refine ⟨k, m, hk, hi, rfl, ?_⟩
      (conv => whnf)
      refine ⟨α, ν, r, d, hd, rfl, rfl, ?_⟩
      (conv => whnf)
      rw [ha6]
      refine And.intro (fun e => ?_) (fun e => ?_)
      · have e1 : ¬ m * zau k ≤ a := fun h => absurd e (nI_nlt h (by omega))
        have e2 : ¬ m ≤ a / zau k := fun h => e1 ((Nat.le_div_iff_mul_le (by omega)).mp h)
        (conv => whnf)
        refine ⟨m - 1, by omega, m - 1, ⟨rfl, rfl, rfl, ?_, trivial⟩, rfl, rfl, by omega, by omega, rfl, rfl, rfl⟩
        obtain ⟨j, rfl⟩ : ∃ j, m = j + 1 := ⟨m - 1, by omega⟩
        exact congrArg (fun x => some (Value.int x)) (pk_m1 j)
      · (conv => whnf)
        have e1 : m * zau k ≤ a := by
          apply Classical.byContradiction
          intro h
          exact e (nI_lt (show a < m * zau k by omega) (by omega))
        have e2 : m ≤ a / zau k := (Nat.le_div_iff_mul_le (by omega)).mpr e1
        rw [show min (a / zau k) 60 = m by omega] at hQ
        exact hQ
    · have h0 : m = 0 := by
        have : ¬ 0 < m := fun h => c (nI_lt (a := 0) h (by omega))
        omega
      subst h0
      (conv => whnf)
      rw [show min (a / zau k) 60 = 0 from Nat.le_zero.mp hm] at hQ
      exact hQ
end
section
/-! ===== EchoRegistry$ClaimBook, EchoRegistry$Ledger ===== -/
def sp_X1_count : zSpec := fun args w Q _ => ∃ α ν r, args = [.ref 11] ∧ w = WX α ν r ∧ Q (some (.int (ν 3))) (WX α ν r)
def fl_RX1 : List (Nat × Nat × Nat) := [(9, 2, 0), (15, 2, 1), (18, 2, 2), (21, 2, 3)]
theorem hfl_RX1 : ∀ q ∈ fl_RX1, zFld RX1 q := zfld_of (ps := [100, 101, 102, 103]) (by decide +kernel)
def pg_X1_count : List zE := [(0, .aload_n 0, 1, []), (1, .getfield 21, 3, []), (4, .ireturn, 1, [])]
theorem hp_X1_count : ∀ q ∈ pg_X1_count, decode cX1_count q.1 = .ok (q.2.1, q.2.2.1) ∧ ztg q.2.1 q.1 q.2.2.1 q.2.2.2 = true := zpg_of (by decide +kernel)
def cs_X1_count : List (Nat × zCall) := []
theorem hcs_X1_count {l : Launch} (hl0 : l.stackTraces = false) : ∀ q ∈ cs_X1_count, zCallable l RX1 1 q := fun _ h => absurd h List.not_mem_nil
def th_X1_count : List (Nat × String) := []
theorem hth_X1_count : ∀ q ∈ th_X1_count, zThrow cX1_count RX1 q := fun _ h => absurd h List.not_mem_nil
def kc_X1_count : List (Nat × Int32) := []
theorem hkc_X1_count : ∀ q ∈ kc_X1_count, Cond.constant RX1 q.1 q.2 ∈ zTs := fun _ h => absurd h List.not_mem_nil
def nw_X1_count : List (Nat × Nat × Nat × List Value) := []
theorem hnw_X1_count : ∀ q ∈ nw_X1_count, zNew RX1 q := fun _ h => absurd h List.not_mem_nil
set_option maxHeartbeats 4000000 in
set_option maxRecDepth 20000 in
theorem c_X1_count {l : Launch} (hl0 : l.stackTraces = false) : CT l yX1_count (.code yX1_count cX1_count 1 (some .int)) 1 0 0 false sp_X1_count := by
  refine zCT_of hl0 (own := RX1) fl_RX1 cs_X1_count nw_X1_count th_X1_count kc_X1_count (fun _ => []) false pg_X1_count rfl (by decide +kernel) hp_X1_count ⟨_, _, rfl, rfl⟩ hfl_RX1 (fun h => nomatch h) (hcs_X1_count hl0) hnw_X1_count hth_X1_count (fun _ _ h => absurd h List.not_mem_nil) hkc_X1_count (fun args w Q X v0 hv0 h => ?_)
  obtain ⟨α, ν, r, rfl, rfl, hQ⟩ := h
  refine ⟨Nat.le_of_ble_eq_true rfl, 20, [], ?_, fun q hq => absurd hq List.not_mem_nil⟩
  (conv => whnf)
  exact hQ
def sp_X1_isFull : zSpec := fun args w Q _ => ∃ α ν r n, n ≤ 40 ∧ ν 3 = nI n ∧ args = [.ref 11] ∧ w = WX α ν r ∧ zB Q (n = 40) (WX α ν r)
def pg_X1_isFull : List zE := [(0, .aload_n 0, 1, []), (1, .getfield 21, 3, []), (4, .bipush 40, 2, [40]), (6, .if_icmp .lt 7, 3, [13]), (9, .iconst 1, 1, [1]), (10, .goto 4, 3, [14]), (13, .iconst 0, 1, [0]), (14, .ireturn, 1, [])]
theorem hp_X1_isFull : ∀ q ∈ pg_X1_isFull, decode cX1_isFull q.1 = .ok (q.2.1, q.2.2.1) ∧ ztg q.2.1 q.1 q.2.2.1 q.2.2.2 = true := zpg_of (by decide +kernel)
def cs_X1_isFull : List (Nat × zCall) := []
theorem hcs_X1_isFull {l : Launch} (hl0 : l.stackTraces = false) : ∀ q ∈ cs_X1_isFull, zCallable l RX1 1 q := fun _ h => absurd h List.not_mem_nil
def th_X1_isFull : List (Nat × String) := []
theorem hth_X1_isFull : ∀ q ∈ th_X1_isFull, zThrow cX1_isFull RX1 q := fun _ h => absurd h List.not_mem_nil
def kc_X1_isFull : List (Nat × Int32) := []
theorem hkc_X1_isFull : ∀ q ∈ kc_X1_isFull, Cond.constant RX1 q.1 q.2 ∈ zTs := fun _ h => absurd h List.not_mem_nil
def nw_X1_isFull : List (Nat × Nat × Nat × List Value) := []
theorem hnw_X1_isFull : ∀ q ∈ nw_X1_isFull, zNew RX1 q := fun _ h => absurd h List.not_mem_nil
set_option maxHeartbeats 4000000 in
set_option maxRecDepth 20000 in
theorem c_X1_isFull {l : Launch} (hl0 : l.stackTraces = false) : CT l yX1_isFull (.code yX1_isFull cX1_isFull 1 (some .boolean)) 1 0 0 false sp_X1_isFull := by
  refine zCT_of hl0 (own := RX1) fl_RX1 cs_X1_isFull nw_X1_isFull th_X1_isFull kc_X1_isFull (fun _ => []) false pg_X1_isFull rfl (by decide +kernel) hp_X1_isFull ⟨_, _, rfl, rfl⟩ hfl_RX1 (fun h => nomatch h) (hcs_X1_isFull hl0) hnw_X1_isFull hth_X1_isFull (fun _ _ h => absurd h List.not_mem_nil) hkc_X1_isFull (fun args w Q X v0 hv0 h => ?_)
  obtain ⟨α, ν, r, n, hn, hν, rfl, rfl, h1, h2⟩ := h
  refine ⟨Nat.le_of_ble_eq_true rfl, 20, [], ?_, fun q hq => absurd hq List.not_mem_nil⟩
  (conv => whnf)
  rw [hν]
  refine And.intro (fun c => ?_) (fun c => ?_)
  · (conv => whnf)
    exact ⟨Or.inl rfl, h2 (fun e => by subst e; exact absurd c (by decide))⟩
  · (conv => whnf)
    refine ⟨Or.inr rfl, h1 ?_⟩
    apply Classical.byContradiction
    intro e
    exact c (nI_lt (show n < 40 by omega) (by decide))
def sp_X1_has : zSpec := fun args w Q _ => ∃ α ν r n x, n ≤ 40 ∧ ν 3 = nI n ∧ args = [.ref 11, .int x] ∧ w = WX α ν r ∧ zB Q (vp_in x n) (WX α ν r)
def pg_X1_has : List zE := [(0, .iload_n 1, 1, []), (1, .ifCond .lt 21, 3, [22]), (4, .iload_n 1, 1, []), (5, .aload_n 0, 1, []), (6, .getfield 21, 3, []), (9, .if_icmp .ge 13, 3, [22]), (12, .iload_n 1, 1, []), (13, .bipush 40, 2, [40]), (15, .if_icmp .ge 7, 3, [22]), (18, .iconst 1, 1, [1]), (19, .goto 4, 3, [23]), (22, .iconst 0, 1, [0]), (23, .ireturn, 1, [])]
theorem hp_X1_has : ∀ q ∈ pg_X1_has, decode cX1_has q.1 = .ok (q.2.1, q.2.2.1) ∧ ztg q.2.1 q.1 q.2.2.1 q.2.2.2 = true := zpg_of (by decide +kernel)
def cs_X1_has : List (Nat × zCall) := []
theorem hcs_X1_has {l : Launch} (hl0 : l.stackTraces = false) : ∀ q ∈ cs_X1_has, zCallable l RX1 1 q := fun _ h => absurd h List.not_mem_nil
def th_X1_has : List (Nat × String) := []
theorem hth_X1_has : ∀ q ∈ th_X1_has, zThrow cX1_has RX1 q := fun _ h => absurd h List.not_mem_nil
def kc_X1_has : List (Nat × Int32) := []
theorem hkc_X1_has : ∀ q ∈ kc_X1_has, Cond.constant RX1 q.1 q.2 ∈ zTs := fun _ h => absurd h List.not_mem_nil
def nw_X1_has : List (Nat × Nat × Nat × List Value) := []
theorem hnw_X1_has : ∀ q ∈ nw_X1_has, zNew RX1 q := fun _ h => absurd h List.not_mem_nil
set_option maxHeartbeats 4000000 in
set_option maxRecDepth 20000 in
theorem c_X1_has {l : Launch} (hl0 : l.stackTraces = false) : CT l yX1_has (.code yX1_has cX1_has 2 (some .boolean)) 1 0 0 false sp_X1_has := by
  refine zCT_of hl0 (own := RX1) fl_RX1 cs_X1_has nw_X1_has th_X1_has kc_X1_has (fun _ => []) false pg_X1_has rfl (by decide +kernel) hp_X1_has ⟨_, _, rfl, rfl⟩ hfl_RX1 (fun h => nomatch h) (hcs_X1_has hl0) hnw_X1_has hth_X1_has (fun _ _ h => absurd h List.not_mem_nil) hkc_X1_has (fun args w Q X v0 hv0 h => ?_)
  obtain ⟨α, ν, r, n, x, hn, hν, rfl, rfl, h1, h2⟩ := h
  refine ⟨Nat.le_of_ble_eq_true rfl, 20, [], ?_, fun q hq => absurd hq List.not_mem_nil⟩
  (conv => whnf)
  refine And.intro (fun c => ?_) (fun c => ?_) <;> dsimp only at c
  · (conv => whnf); exact ⟨Or.inl rfl, h2 (vp_in_neg c)⟩
  · obtain ⟨j, hj, rfl⟩ := nI_of c
    (conv => whnf)
    rw [hν]
    refine And.intro (fun d => ?_) (fun d => ?_)
    · have hlt : j < n := (nI_ltI (by omega) (by omega)).mp d
      (conv => whnf)
      refine And.intro (fun _ => ?_) (fun c => absurd (show _ from (nI_lt (show j < 40 by omega) (by decide))) c)
      (conv => whnf)
      exact ⟨Or.inr rfl, h1 (vp_in_nI hlt (by omega))⟩
    · (conv => whnf); exact ⟨Or.inl rfl, h2 (vp_in_nlt (by omega) d)⟩
def sp_X1_enter : zSpec := fun args w Q _ => ∃ α ν r n x y z, n < 40 ∧ ν 3 = nI n ∧ args = [.ref 11, .int x, .int y, .int z] ∧ w = WX α ν r ∧
  Q (some (.int (nI n))) (WX (zu (zu (zu α 8 (upd (α 8) n x)) 9 (upd (α 9) n y)) 10 (upd (α 10) n (z + nI 28800))) (zu ν 3 (nI (n + 1))) r)
def pg_X1_enter : List zE := [(0, .aload_n 0, 1, []), (1, .invokevirtual 25, 3, []), (4, .ifCond .eq 5, 3, [9]), (7, .iconst (-1), 1, []), (8, .ireturn, 1, []), (9, .aload_n 0, 1, []), (10, .getfield 21, 3, []), (13, .istore 4, 2, []), (15, .aload_n 0, 1, []), (16, .getfield 9, 3, []), (19, .iload 4, 2, []), (21, .iload_n 1, 1, []), (22, .iastore, 1, []), (23, .aload_n 0, 1, []), (24, .getfield 15, 3, []), (27, .iload 4, 2, []), (29, .iload_n 2, 1, []), (30, .iastore, 1, []), (31, .aload_n 0, 1, []), (32, .getfield 18, 3, []), (35, .iload 4, 2, []), (37, .iload_n 3, 1, []), (38, .sipush 28800, 3, [28800]), (41, .iadd, 1, []), (42, .iastore, 1, []), (43, .aload_n 0, 1, []), (44, .dup, 1, []), (45, .getfield 21, 3, []), (48, .iconst 1, 1, [1]), (49, .iadd, 1, []), (50, .putfield 21, 3, []), (53, .iload 4, 2, []), (55, .ireturn, 1, [])]
theorem hp_X1_enter : ∀ q ∈ pg_X1_enter, decode cX1_enter q.1 = .ok (q.2.1, q.2.2.1) ∧ ztg q.2.1 q.1 q.2.2.1 q.2.2.2 = true := zpg_of (by decide +kernel)
def cs_X1_enter : List (Nat × zCall) := [(25, 0, 1, some 2, 0, 0, false, sp_X1_isFull)]
theorem hcs_X1_enter {l : Launch} (hl0 : l.stackTraces = false) : ∀ q ∈ cs_X1_enter, zCallable l RX1 2 q := List.forall_mem_cons.mpr ⟨zcV (C := (RX1, TX1, 4)) (ps := [602, 594, 595, 18, 596]) (c_X1_isFull hl0) (by decide +kernel) rfl ⟨rfl, by decide +kernel, by decide +kernel, by decide +kernel⟩ (by decide) (by decide), fun _ h => absurd h List.not_mem_nil⟩
def th_X1_enter : List (Nat × String) := []
theorem hth_X1_enter : ∀ q ∈ th_X1_enter, zThrow cX1_enter RX1 q := fun _ h => absurd h List.not_mem_nil
def kc_X1_enter : List (Nat × Int32) := []
theorem hkc_X1_enter : ∀ q ∈ kc_X1_enter, Cond.constant RX1 q.1 q.2 ∈ zTs := fun _ h => absurd h List.not_mem_nil
def nw_X1_enter : List (Nat × Nat × Nat × List Value) := []
theorem hnw_X1_enter : ∀ q ∈ nw_X1_enter, zNew RX1 q := fun _ h => absurd h List.not_mem_nil
set_option maxHeartbeats 4000000 in
set_option maxRecDepth 20000 in
theorem c_X1_enter {l : Launch} (hl0 : l.stackTraces = false) : CT l yX1_enter (.code yX1_enter cX1_enter 5 (some .int)) 2 0 0 false sp_X1_enter := by
  refine zCT_of hl0 (own := RX1) fl_RX1 cs_X1_enter nw_X1_enter th_X1_enter kc_X1_enter (fun _ => []) false pg_X1_enter rfl (by decide +kernel) hp_X1_enter ⟨_, _, rfl, rfl⟩ hfl_RX1 (fun h => nomatch h) (hcs_X1_enter hl0) hnw_X1_enter hth_X1_enter (fun _ _ h => absurd h List.not_mem_nil) hkc_X1_enter (fun args w Q X v0 hv0 h => ?_)
  obtain ⟨α, ν, r, n, x, y, z, hn, hν, rfl, rfl, hQ⟩ := h
  refine ⟨Nat.le_of_ble_eq_true rfl, 60, [], ?_, fun q hq => absurd hq List.not_mem_nil⟩
  (conv => whnf)
  refine ⟨α, ν, r, n, by omega, hν, rfl, rfl, fun c => absurd c (by omega), fun _ => ?_⟩
  (conv => whnf)
  refine And.intro (fun _ => ?_) (fun c => absurd (show _ from rfl) c)
  (conv => whnf)
  rw [hν]
  refine ⟨vp_in_nI hn (by decide), ?_⟩
  (conv => whnf)
  refine ⟨vp_in_nI hn (by decide), ?_⟩
  (conv => whnf)
  refine ⟨vp_in_nI hn (by decide), ?_⟩
  (conv => whnf)
  rw [nI_clamp (by omega)]
  dsimp only [zkon]
  rw [hν, nI_add]
  exact hQ
def sp_X1_finderOf : zSpec := fun args w Q _ => ∃ α ν r n j, n ≤ 40 ∧ ν 3 = nI n ∧ j < n ∧ args = [.ref 11, .int (nI j)] ∧ w = WX α ν r ∧ Q (some (.int (α 8 j))) (WX α ν r)
def pg_X1_finderOf : List zE := [(0, .aload_n 0, 1, []), (1, .iload_n 1, 1, []), (2, .invokevirtual 29, 3, []), (5, .ifCond .eq 12, 3, [17]), (8, .aload_n 0, 1, []), (9, .getfield 9, 3, []), (12, .iload_n 1, 1, []), (13, .iaload, 1, []), (14, .goto 4, 3, [18]), (17, .iconst (-1), 1, []), (18, .ireturn, 1, [])]
theorem hp_X1_finderOf : ∀ q ∈ pg_X1_finderOf, decode cX1_finderOf q.1 = .ok (q.2.1, q.2.2.1) ∧ ztg q.2.1 q.1 q.2.2.1 q.2.2.2 = true := zpg_of (by decide +kernel)
def cs_X1_finderOf : List (Nat × zCall) := [(29, 0, 2, some 2, 0, 0, false, sp_X1_has)]
theorem hcs_X1_finderOf {l : Launch} (hl0 : l.stackTraces = false) : ∀ q ∈ cs_X1_finderOf, zCallable l RX1 2 q := List.forall_mem_cons.mpr ⟨zcV (C := (RX1, TX1, 4)) (ps := [432, 433, 434, 18, 435]) (c_X1_has hl0) (by decide +kernel) rfl ⟨rfl, by decide +kernel, by decide +kernel, by decide +kernel⟩ (by decide) (by decide), fun _ h => absurd h List.not_mem_nil⟩
def th_X1_finderOf : List (Nat × String) := []
theorem hth_X1_finderOf : ∀ q ∈ th_X1_finderOf, zThrow cX1_finderOf RX1 q := fun _ h => absurd h List.not_mem_nil
def kc_X1_finderOf : List (Nat × Int32) := []
theorem hkc_X1_finderOf : ∀ q ∈ kc_X1_finderOf, Cond.constant RX1 q.1 q.2 ∈ zTs := fun _ h => absurd h List.not_mem_nil
def nw_X1_finderOf : List (Nat × Nat × Nat × List Value) := []
theorem hnw_X1_finderOf : ∀ q ∈ nw_X1_finderOf, zNew RX1 q := fun _ h => absurd h List.not_mem_nil
set_option maxHeartbeats 4000000 in
set_option maxRecDepth 20000 in
theorem c_X1_finderOf {l : Launch} (hl0 : l.stackTraces = false) : CT l yX1_finderOf (.code yX1_finderOf cX1_finderOf 2 (some .int)) 2 0 0 false sp_X1_finderOf := by
  refine zCT_of hl0 (own := RX1) fl_RX1 cs_X1_finderOf nw_X1_finderOf th_X1_finderOf kc_X1_finderOf (fun _ => []) false pg_X1_finderOf rfl (by decide +kernel) hp_X1_finderOf ⟨_, _, rfl, rfl⟩ hfl_RX1 (fun h => nomatch h) (hcs_X1_finderOf hl0) hnw_X1_finderOf hth_X1_finderOf (fun _ _ h => absurd h List.not_mem_nil) hkc_X1_finderOf (fun args w Q X v0 hv0 h => ?_)
  obtain ⟨α, ν, r, n, j, hn, hν, hj, rfl, rfl, hQ⟩ := h
  refine ⟨Nat.le_of_ble_eq_true rfl, 20, [], ?_, fun q hq => absurd hq List.not_mem_nil⟩
  (conv => whnf)
  refine ⟨α, ν, r, n, _, hn, hν, rfl, rfl, fun _ => ?_, fun c => absurd (vp_in_nI hj (by omega)) c⟩
  (conv => whnf)
  refine And.intro (fun c => absurd c (show ¬ _ from (by decide))) (fun _ => ?_)
  (conv => whnf)
  refine ⟨vp_in_nI (show j < 40 by omega) (by decide), ?_⟩
  (conv => whnf)
  rw [nI_clamp (by omega)]
  exact hQ
def sp_X1_cellOf : zSpec := fun args w Q _ => ∃ α ν r n j, n ≤ 40 ∧ ν 3 = nI n ∧ j < n ∧ args = [.ref 11, .int (nI j)] ∧ w = WX α ν r ∧ Q (some (.int (α 9 j))) (WX α ν r)
def pg_X1_cellOf : List zE := [(0, .aload_n 0, 1, []), (1, .iload_n 1, 1, []), (2, .invokevirtual 29, 3, []), (5, .ifCond .eq 12, 3, [17]), (8, .aload_n 0, 1, []), (9, .getfield 15, 3, []), (12, .iload_n 1, 1, []), (13, .iaload, 1, []), (14, .goto 4, 3, [18]), (17, .iconst (-1), 1, []), (18, .ireturn, 1, [])]
theorem hp_X1_cellOf : ∀ q ∈ pg_X1_cellOf, decode cX1_cellOf q.1 = .ok (q.2.1, q.2.2.1) ∧ ztg q.2.1 q.1 q.2.2.1 q.2.2.2 = true := zpg_of (by decide +kernel)
def cs_X1_cellOf : List (Nat × zCall) := [(29, 0, 2, some 2, 0, 0, false, sp_X1_has)]
theorem hcs_X1_cellOf {l : Launch} (hl0 : l.stackTraces = false) : ∀ q ∈ cs_X1_cellOf, zCallable l RX1 2 q := List.forall_mem_cons.mpr ⟨zcV (C := (RX1, TX1, 4)) (ps := [432, 433, 434, 18, 435]) (c_X1_has hl0) (by decide +kernel) rfl ⟨rfl, by decide +kernel, by decide +kernel, by decide +kernel⟩ (by decide) (by decide), fun _ h => absurd h List.not_mem_nil⟩
def th_X1_cellOf : List (Nat × String) := []
theorem hth_X1_cellOf : ∀ q ∈ th_X1_cellOf, zThrow cX1_cellOf RX1 q := fun _ h => absurd h List.not_mem_nil
def kc_X1_cellOf : List (Nat × Int32) := []
theorem hkc_X1_cellOf : ∀ q ∈ kc_X1_cellOf, Cond.constant RX1 q.1 q.2 ∈ zTs := fun _ h => absurd h List.not_mem_nil
def nw_X1_cellOf : List (Nat × Nat × Nat × List Value) := []
theorem hnw_X1_cellOf : ∀ q ∈ nw_X1_cellOf, zNew RX1 q := fun _ h => absurd h List.not_mem_nil
set_option maxHeartbeats 4000000 in
set_option maxRecDepth 20000 in
theorem c_X1_cellOf {l : Launch} (hl0 : l.stackTraces = false) : CT l yX1_cellOf (.code yX1_cellOf cX1_cellOf 2 (some .int)) 2 0 0 false sp_X1_cellOf := by
  refine zCT_of hl0 (own := RX1) fl_RX1 cs_X1_cellOf nw_X1_cellOf th_X1_cellOf kc_X1_cellOf (fun _ => []) false pg_X1_cellOf rfl (by decide +kernel) hp_X1_cellOf ⟨_, _, rfl, rfl⟩ hfl_RX1 (fun h => nomatch h) (hcs_X1_cellOf hl0) hnw_X1_cellOf hth_X1_cellOf (fun _ _ h => absurd h List.not_mem_nil) hkc_X1_cellOf (fun args w Q X v0 hv0 h => ?_)
  obtain ⟨α, ν, r, n, j, hn, hν, hj, rfl, rfl, hQ⟩ := h
  refine ⟨Nat.le_of_ble_eq_true rfl, 20, [], ?_, fun q hq => absurd hq List.not_mem_nil⟩
  (conv => whnf)
  refine ⟨α, ν, r, n, _, hn, hν, rfl, rfl, fun _ => ?_, fun c => absurd (vp_in_nI hj (by omega)) c⟩
  (conv => whnf)
  refine And.intro (fun c => absurd c (show ¬ _ from (by decide))) (fun _ => ?_)
  (conv => whnf)
  refine ⟨vp_in_nI (show j < 40 by omega) (by decide), ?_⟩
  (conv => whnf)
  rw [nI_clamp (by omega)]
  exact hQ
def sp_X1_isRunning : zSpec := fun args w Q _ => ∃ α ν r n j y, n ≤ 40 ∧ ν 3 = nI n ∧ j < n ∧ args = [.ref 11, .int (nI j), .int y] ∧ w = WX α ν r ∧ zB Q (y < α 10 j) (WX α ν r)
def pg_X1_isRunning : List zE := [(0, .aload_n 0, 1, []), (1, .iload_n 1, 1, []), (2, .invokevirtual 29, 3, []), (5, .ifCond .eq 17, 3, [22]), (8, .iload_n 2, 1, []), (9, .aload_n 0, 1, []), (10, .getfield 18, 3, []), (13, .iload_n 1, 1, []), (14, .iaload, 1, []), (15, .if_icmp .ge 7, 3, [22]), (18, .iconst 1, 1, [1]), (19, .goto 4, 3, [23]), (22, .iconst 0, 1, [0]), (23, .ireturn, 1, [])]
theorem hp_X1_isRunning : ∀ q ∈ pg_X1_isRunning, decode cX1_isRunning q.1 = .ok (q.2.1, q.2.2.1) ∧ ztg q.2.1 q.1 q.2.2.1 q.2.2.2 = true := zpg_of (by decide +kernel)
def cs_X1_isRunning : List (Nat × zCall) := [(29, 0, 2, some 2, 0, 0, false, sp_X1_has)]
theorem hcs_X1_isRunning {l : Launch} (hl0 : l.stackTraces = false) : ∀ q ∈ cs_X1_isRunning, zCallable l RX1 2 q := List.forall_mem_cons.mpr ⟨zcV (C := (RX1, TX1, 4)) (ps := [432, 433, 434, 18, 435]) (c_X1_has hl0) (by decide +kernel) rfl ⟨rfl, by decide +kernel, by decide +kernel, by decide +kernel⟩ (by decide) (by decide), fun _ h => absurd h List.not_mem_nil⟩
def th_X1_isRunning : List (Nat × String) := []
theorem hth_X1_isRunning : ∀ q ∈ th_X1_isRunning, zThrow cX1_isRunning RX1 q := fun _ h => absurd h List.not_mem_nil
def kc_X1_isRunning : List (Nat × Int32) := []
theorem hkc_X1_isRunning : ∀ q ∈ kc_X1_isRunning, Cond.constant RX1 q.1 q.2 ∈ zTs := fun _ h => absurd h List.not_mem_nil
def nw_X1_isRunning : List (Nat × Nat × Nat × List Value) := []
theorem hnw_X1_isRunning : ∀ q ∈ nw_X1_isRunning, zNew RX1 q := fun _ h => absurd h List.not_mem_nil
set_option maxHeartbeats 4000000 in
set_option maxRecDepth 20000 in
theorem c_X1_isRunning {l : Launch} (hl0 : l.stackTraces = false) : CT l yX1_isRunning (.code yX1_isRunning cX1_isRunning 3 (some .boolean)) 2 0 0 false sp_X1_isRunning := by
  refine zCT_of hl0 (own := RX1) fl_RX1 cs_X1_isRunning nw_X1_isRunning th_X1_isRunning kc_X1_isRunning (fun _ => []) false pg_X1_isRunning rfl (by decide +kernel) hp_X1_isRunning ⟨_, _, rfl, rfl⟩ hfl_RX1 (fun h => nomatch h) (hcs_X1_isRunning hl0) hnw_X1_isRunning hth_X1_isRunning (fun _ _ h => absurd h List.not_mem_nil) hkc_X1_isRunning (fun args w Q X v0 hv0 h => ?_)
  obtain ⟨α, ν, r, n, j, y, hn, hν, hj, rfl, rfl, h1, h2⟩ := h
  refine ⟨Nat.le_of_ble_eq_true rfl, 20, [], ?_, fun q hq => absurd hq List.not_mem_nil⟩
  (conv => whnf)
  refine ⟨α, ν, r, n, _, hn, hν, rfl, rfl, fun _ => ?_, fun c => absurd (vp_in_nI hj (by omega)) c⟩
  (conv => whnf)
  refine And.intro (fun c => absurd c (show ¬ _ from (by decide))) (fun _ => ?_)
  (conv => whnf)
  refine ⟨vp_in_nI (show j < 40 by omega) (by decide), ?_⟩
  (conv => whnf)
  rw [nI_clamp (by omega)]
  refine And.intro (fun d => ?_) (fun d => ?_)
  · (conv => whnf)
    exact ⟨Or.inr rfl, h1 d⟩
  · (conv => whnf)
    exact ⟨Or.inl rfl, h2 d⟩
def sp_X1_startTerm : zSpec := fun args w Q _ => ∃ α ν r n j y, n ≤ 40 ∧ ν 3 = nI n ∧ j < n ∧ args = [.ref 11, .int (nI j), .int y] ∧ w = WX α ν r ∧ Q (some (.int (α 10 j - y))) (WX (zu α 10 (upd (α 10) j (y + nI 28800))) ν r)
def pg_X1_startTerm : List zE := [(0, .aload_n 0, 1, []), (1, .iload_n 1, 1, []), (2, .invokevirtual 29, 3, []), (5, .ifCond .ne 5, 3, [10]), (8, .iconst 0, 1, [0]), (9, .ireturn, 1, []), (10, .aload_n 0, 1, []), (11, .getfield 18, 3, []), (14, .iload_n 1, 1, []), (15, .iaload, 1, []), (16, .iload_n 2, 1, []), (17, .isub, 1, []), (18, .istore_n 3, 1, []), (19, .aload_n 0, 1, []), (20, .getfield 18, 3, []), (23, .iload_n 1, 1, []), (24, .iload_n 2, 1, []), (25, .sipush 28800, 3, [28800]), (28, .iadd, 1, []), (29, .iastore, 1, []), (30, .iload_n 3, 1, []), (31, .ireturn, 1, [])]
theorem hp_X1_startTerm : ∀ q ∈ pg_X1_startTerm, decode cX1_startTerm q.1 = .ok (q.2.1, q.2.2.1) ∧ ztg q.2.1 q.1 q.2.2.1 q.2.2.2 = true := zpg_of (by decide +kernel)
def cs_X1_startTerm : List (Nat × zCall) := [(29, 0, 2, some 2, 0, 0, false, sp_X1_has)]
theorem hcs_X1_startTerm {l : Launch} (hl0 : l.stackTraces = false) : ∀ q ∈ cs_X1_startTerm, zCallable l RX1 2 q := List.forall_mem_cons.mpr ⟨zcV (C := (RX1, TX1, 4)) (ps := [432, 433, 434, 18, 435]) (c_X1_has hl0) (by decide +kernel) rfl ⟨rfl, by decide +kernel, by decide +kernel, by decide +kernel⟩ (by decide) (by decide), fun _ h => absurd h List.not_mem_nil⟩
def th_X1_startTerm : List (Nat × String) := []
theorem hth_X1_startTerm : ∀ q ∈ th_X1_startTerm, zThrow cX1_startTerm RX1 q := fun _ h => absurd h List.not_mem_nil
def kc_X1_startTerm : List (Nat × Int32) := []
theorem hkc_X1_startTerm : ∀ q ∈ kc_X1_startTerm, Cond.constant RX1 q.1 q.2 ∈ zTs := fun _ h => absurd h List.not_mem_nil
def nw_X1_startTerm : List (Nat × Nat × Nat × List Value) := []
theorem hnw_X1_startTerm : ∀ q ∈ nw_X1_startTerm, zNew RX1 q := fun _ h => absurd h List.not_mem_nil
set_option maxHeartbeats 4000000 in
set_option maxRecDepth 20000 in
theorem c_X1_startTerm {l : Launch} (hl0 : l.stackTraces = false) : CT l yX1_startTerm (.code yX1_startTerm cX1_startTerm 4 (some .int)) 2 0 0 false sp_X1_startTerm := by
  refine zCT_of hl0 (own := RX1) fl_RX1 cs_X1_startTerm nw_X1_startTerm th_X1_startTerm kc_X1_startTerm (fun _ => []) false pg_X1_startTerm rfl (by decide +kernel) hp_X1_startTerm ⟨_, _, rfl, rfl⟩ hfl_RX1 (fun h => nomatch h) (hcs_X1_startTerm hl0) hnw_X1_startTerm hth_X1_startTerm (fun _ _ h => absurd h List.not_mem_nil) hkc_X1_startTerm (fun args w Q X v0 hv0 h => ?_)
  obtain ⟨α, ν, r, n, j, y, hn, hν, hj, rfl, rfl, hQ⟩ := h
  refine ⟨Nat.le_of_ble_eq_true rfl, 20, [], ?_, fun q hq => absurd hq List.not_mem_nil⟩
  (conv => whnf)
  refine ⟨α, ν, r, n, _, hn, hν, rfl, rfl, fun _ => ?_, fun c => absurd (vp_in_nI hj (by omega)) c⟩
  (conv => whnf)
  refine And.intro (fun c => absurd c (show ¬ _ from (by decide))) (fun _ => ?_)
  (conv => whnf)
  refine ⟨vp_in_nI (show j < 40 by omega) (by decide), ?_⟩
  (conv => whnf)
  refine ⟨vp_in_nI (show j < 40 by omega) (by decide), ?_⟩
  (conv => whnf)
  rw [nI_clamp (by omega)]
  exact hQ
def sp_X3_count : zSpec := fun args w Q _ => ∃ α ν r, args = [.ref 15] ∧ w = WX α ν r ∧ Q (some (.int (ν 4))) (WX α ν r)
def fl_RX3 : List (Nat × Nat × Nat) := [(9, 4, 0), (15, 4, 1), (18, 4, 2), (21, 4, 3), (25, 4, 4)]
theorem hfl_RX3 : ∀ q ∈ fl_RX3, zFld RX3 q := zfld_of (ps := [119, 120, 121, 122, 123]) (by decide +kernel)
def pg_X3_count : List zE := [(0, .aload_n 0, 1, []), (1, .getfield 21, 3, []), (4, .ireturn, 1, [])]
theorem hp_X3_count : ∀ q ∈ pg_X3_count, decode cX3_count q.1 = .ok (q.2.1, q.2.2.1) ∧ ztg q.2.1 q.1 q.2.2.1 q.2.2.2 = true := zpg_of (by decide +kernel)
def cs_X3_count : List (Nat × zCall) := []
theorem hcs_X3_count {l : Launch} (hl0 : l.stackTraces = false) : ∀ q ∈ cs_X3_count, zCallable l RX3 1 q := fun _ h => absurd h List.not_mem_nil
def th_X3_count : List (Nat × String) := []
theorem hth_X3_count : ∀ q ∈ th_X3_count, zThrow cX3_count RX3 q := fun _ h => absurd h List.not_mem_nil
def kc_X3_count : List (Nat × Int32) := []
theorem hkc_X3_count : ∀ q ∈ kc_X3_count, Cond.constant RX3 q.1 q.2 ∈ zTs := fun _ h => absurd h List.not_mem_nil
def nw_X3_count : List (Nat × Nat × Nat × List Value) := []
theorem hnw_X3_count : ∀ q ∈ nw_X3_count, zNew RX3 q := fun _ h => absurd h List.not_mem_nil
set_option maxHeartbeats 4000000 in
set_option maxRecDepth 20000 in
theorem c_X3_count {l : Launch} (hl0 : l.stackTraces = false) : CT l yX3_count (.code yX3_count cX3_count 1 (some .int)) 1 0 0 false sp_X3_count := by
  refine zCT_of hl0 (own := RX3) fl_RX3 cs_X3_count nw_X3_count th_X3_count kc_X3_count (fun _ => []) false pg_X3_count rfl (by decide +kernel) hp_X3_count ⟨_, _, rfl, rfl⟩ hfl_RX3 (fun h => nomatch h) (hcs_X3_count hl0) hnw_X3_count hth_X3_count (fun _ _ h => absurd h List.not_mem_nil) hkc_X3_count (fun args w Q X v0 hv0 h => ?_)
  obtain ⟨α, ν, r, rfl, rfl, hQ⟩ := h
  refine ⟨Nat.le_of_ble_eq_true rfl, 20, [], ?_, fun q hq => absurd hq List.not_mem_nil⟩
  (conv => whnf)
  exact hQ
def sp_X3_isFull : zSpec := fun args w Q _ => ∃ α ν r n, n ≤ 60 ∧ ν 4 = nI n ∧ args = [.ref 15] ∧ w = WX α ν r ∧ zB Q (n = 60) (WX α ν r)
def pg_X3_isFull : List zE := [(0, .aload_n 0, 1, []), (1, .getfield 21, 3, []), (4, .bipush 60, 2, [60]), (6, .if_icmp .lt 7, 3, [13]), (9, .iconst 1, 1, [1]), (10, .goto 4, 3, [14]), (13, .iconst 0, 1, [0]), (14, .ireturn, 1, [])]
theorem hp_X3_isFull : ∀ q ∈ pg_X3_isFull, decode cX3_isFull q.1 = .ok (q.2.1, q.2.2.1) ∧ ztg q.2.1 q.1 q.2.2.1 q.2.2.2 = true := zpg_of (by decide +kernel)
def cs_X3_isFull : List (Nat × zCall) := []
theorem hcs_X3_isFull {l : Launch} (hl0 : l.stackTraces = false) : ∀ q ∈ cs_X3_isFull, zCallable l RX3 1 q := fun _ h => absurd h List.not_mem_nil
def th_X3_isFull : List (Nat × String) := []
theorem hth_X3_isFull : ∀ q ∈ th_X3_isFull, zThrow cX3_isFull RX3 q := fun _ h => absurd h List.not_mem_nil
def kc_X3_isFull : List (Nat × Int32) := []
theorem hkc_X3_isFull : ∀ q ∈ kc_X3_isFull, Cond.constant RX3 q.1 q.2 ∈ zTs := fun _ h => absurd h List.not_mem_nil
def nw_X3_isFull : List (Nat × Nat × Nat × List Value) := []
theorem hnw_X3_isFull : ∀ q ∈ nw_X3_isFull, zNew RX3 q := fun _ h => absurd h List.not_mem_nil
set_option maxHeartbeats 4000000 in
set_option maxRecDepth 20000 in
theorem c_X3_isFull {l : Launch} (hl0 : l.stackTraces = false) : CT l yX3_isFull (.code yX3_isFull cX3_isFull 1 (some .boolean)) 1 0 0 false sp_X3_isFull := by
  refine zCT_of hl0 (own := RX3) fl_RX3 cs_X3_isFull nw_X3_isFull th_X3_isFull kc_X3_isFull (fun _ => []) false pg_X3_isFull rfl (by decide +kernel) hp_X3_isFull ⟨_, _, rfl, rfl⟩ hfl_RX3 (fun h => nomatch h) (hcs_X3_isFull hl0) hnw_X3_isFull hth_X3_isFull (fun _ _ h => absurd h List.not_mem_nil) hkc_X3_isFull (fun args w Q X v0 hv0 h => ?_)
  obtain ⟨α, ν, r, n, hn, hν, rfl, rfl, h1, h2⟩ := h
  refine ⟨Nat.le_of_ble_eq_true rfl, 20, [], ?_, fun q hq => absurd hq List.not_mem_nil⟩
  (conv => whnf)
  rw [hν]
  refine And.intro (fun c => ?_) (fun c => ?_)
  · (conv => whnf)
    exact ⟨Or.inl rfl, h2 (fun e => by subst e; exact absurd c (by decide))⟩
  · (conv => whnf)
    refine ⟨Or.inr rfl, h1 ?_⟩
    apply Classical.byContradiction
    intro e
    exact c (nI_lt (show n < 60 by omega) (by decide))
def sp_X3_has : zSpec := fun args w Q _ => ∃ α ν r n x, n ≤ 60 ∧ ν 4 = nI n ∧ args = [.ref 15, .int x] ∧ w = WX α ν r ∧ zB Q (vp_in x n) (WX α ν r)
def pg_X3_has : List zE := [(0, .iload_n 1, 1, []), (1, .ifCond .lt 21, 3, [22]), (4, .iload_n 1, 1, []), (5, .aload_n 0, 1, []), (6, .getfield 21, 3, []), (9, .if_icmp .ge 13, 3, [22]), (12, .iload_n 1, 1, []), (13, .bipush 60, 2, [60]), (15, .if_icmp .ge 7, 3, [22]), (18, .iconst 1, 1, [1]), (19, .goto 4, 3, [23]), (22, .iconst 0, 1, [0]), (23, .ireturn, 1, [])]
theorem hp_X3_has : ∀ q ∈ pg_X3_has, decode cX3_has q.1 = .ok (q.2.1, q.2.2.1) ∧ ztg q.2.1 q.1 q.2.2.1 q.2.2.2 = true := zpg_of (by decide +kernel)
def cs_X3_has : List (Nat × zCall) := []
theorem hcs_X3_has {l : Launch} (hl0 : l.stackTraces = false) : ∀ q ∈ cs_X3_has, zCallable l RX3 1 q := fun _ h => absurd h List.not_mem_nil
def th_X3_has : List (Nat × String) := []
theorem hth_X3_has : ∀ q ∈ th_X3_has, zThrow cX3_has RX3 q := fun _ h => absurd h List.not_mem_nil
def kc_X3_has : List (Nat × Int32) := []
theorem hkc_X3_has : ∀ q ∈ kc_X3_has, Cond.constant RX3 q.1 q.2 ∈ zTs := fun _ h => absurd h List.not_mem_nil
def nw_X3_has : List (Nat × Nat × Nat × List Value) := []
theorem hnw_X3_has : ∀ q ∈ nw_X3_has, zNew RX3 q := fun _ h => absurd h List.not_mem_nil
set_option maxHeartbeats 4000000 in
set_option maxRecDepth 20000 in
theorem c_X3_has {l : Launch} (hl0 : l.stackTraces = false) : CT l yX3_has (.code yX3_has cX3_has 2 (some .boolean)) 1 0 0 false sp_X3_has := by
  refine zCT_of hl0 (own := RX3) fl_RX3 cs_X3_has nw_X3_has th_X3_has kc_X3_has (fun _ => []) false pg_X3_has rfl (by decide +kernel) hp_X3_has ⟨_, _, rfl, rfl⟩ hfl_RX3 (fun h => nomatch h) (hcs_X3_has hl0) hnw_X3_has hth_X3_has (fun _ _ h => absurd h List.not_mem_nil) hkc_X3_has (fun args w Q X v0 hv0 h => ?_)
  obtain ⟨α, ν, r, n, x, hn, hν, rfl, rfl, h1, h2⟩ := h
  refine ⟨Nat.le_of_ble_eq_true rfl, 20, [], ?_, fun q hq => absurd hq List.not_mem_nil⟩
  (conv => whnf)
  refine And.intro (fun c => ?_) (fun c => ?_) <;> dsimp only at c
  · (conv => whnf); exact ⟨Or.inl rfl, h2 (vp_in_neg c)⟩
  · obtain ⟨j, hj, rfl⟩ := nI_of c
    (conv => whnf)
    rw [hν]
    refine And.intro (fun d => ?_) (fun d => ?_)
    · have hlt : j < n := (nI_ltI (by omega) (by omega)).mp d
      (conv => whnf)
      refine And.intro (fun _ => ?_) (fun c => absurd (show _ from (nI_lt (show j < 60 by omega) (by decide))) c)
      (conv => whnf)
      exact ⟨Or.inr rfl, h1 (vp_in_nI hlt (by omega))⟩
    · (conv => whnf); exact ⟨Or.inl rfl, h2 (vp_in_nlt (by omega) d)⟩
def sp_X3_isFinder : zSpec := fun args w Q _ => ∃ x, args = [.int x] ∧ zB Q (vp_in x 6) w
def pg_X3_isFinder : List zE := [(0, .iload_n 0, 1, []), (1, .ifCond .lt 13, 3, [14]), (4, .iload_n 0, 1, []), (5, .bipush 6, 2, [6]), (7, .if_icmp .ge 7, 3, [14]), (10, .iconst 1, 1, [1]), (11, .goto 4, 3, [15]), (14, .iconst 0, 1, [0]), (15, .ireturn, 1, [])]
theorem hp_X3_isFinder : ∀ q ∈ pg_X3_isFinder, decode cX3_isFinder q.1 = .ok (q.2.1, q.2.2.1) ∧ ztg q.2.1 q.1 q.2.2.1 q.2.2.2 = true := zpg_of (by decide +kernel)
def cs_X3_isFinder : List (Nat × zCall) := []
theorem hcs_X3_isFinder {l : Launch} (hl0 : l.stackTraces = false) : ∀ q ∈ cs_X3_isFinder, zCallable l RX3 1 q := fun _ h => absurd h List.not_mem_nil
def th_X3_isFinder : List (Nat × String) := []
theorem hth_X3_isFinder : ∀ q ∈ th_X3_isFinder, zThrow cX3_isFinder RX3 q := fun _ h => absurd h List.not_mem_nil
def kc_X3_isFinder : List (Nat × Int32) := []
theorem hkc_X3_isFinder : ∀ q ∈ kc_X3_isFinder, Cond.constant RX3 q.1 q.2 ∈ zTs := fun _ h => absurd h List.not_mem_nil
def nw_X3_isFinder : List (Nat × Nat × Nat × List Value) := []
theorem hnw_X3_isFinder : ∀ q ∈ nw_X3_isFinder, zNew RX3 q := fun _ h => absurd h List.not_mem_nil
set_option maxHeartbeats 4000000 in
set_option maxRecDepth 20000 in
theorem c_X3_isFinder {l : Launch} (hl0 : l.stackTraces = false) : CT l yX3_isFinder (.code yX3_isFinder cX3_isFinder 1 (some .boolean)) 1 0 0 false sp_X3_isFinder := by
  refine zCT_of hl0 (own := RX3) fl_RX3 cs_X3_isFinder nw_X3_isFinder th_X3_isFinder kc_X3_isFinder (fun _ => []) false pg_X3_isFinder rfl (by decide +kernel) hp_X3_isFinder ⟨_, _, rfl, rfl⟩ hfl_RX3 (fun h => nomatch h) (hcs_X3_isFinder hl0) hnw_X3_isFinder hth_X3_isFinder (fun _ _ h => absurd h List.not_mem_nil) hkc_X3_isFinder (fun args w Q X v0 hv0 h => ?_)
  obtain ⟨x, rfl, h1, h2⟩ := h
  refine ⟨Nat.le_of_ble_eq_true rfl, 20, [], ?_, fun q hq => absurd hq List.not_mem_nil⟩
  (conv => whnf)
  refine And.intro (fun c => ?_) (fun c => ?_) <;> dsimp only at c
  · (conv => whnf); exact ⟨Or.inl rfl, h2 (vp_in_neg c)⟩
  · (conv => whnf)
    refine And.intro (fun d => ?_) (fun d => ?_) <;> dsimp only at d
    · (conv => whnf); exact ⟨Or.inr rfl, h1 (vp_in_lt (by decide) c d)⟩
    · (conv => whnf); exact ⟨Or.inl rfl, h2 (vp_in_nlt (by decide) d)⟩
/-- what the law keeps -/
def zlp (v : Nat) (name : Int32) : Nat := if name = nI 2 then (v + 1) / 2 else if name = nI 3 then (v + 9) / 10 else (v + 3) / 4
theorem zlp_2 {v : Nat} {name : Int32} (h : name = nI 2) : zlp v name = (v + 1) / 2 := if_pos h
theorem zlp_3 {v : Nat} {name : Int32} (h2 : ¬ name = nI 2) (h : name = nI 3) : zlp v name = (v + 9) / 10 := (if_neg h2).trans (if_pos h)
theorem zlp_n {v : Nat} {name : Int32} (h2 : ¬ name = nI 2) (h : ¬ name = nI 3) : zlp v name = (v + 3) / 4 := (if_neg h2).trans (if_neg h)
def sp_X3_lawsPart : zSpec := fun args w Q _ => ∃ v name, v ≤ 100000 ∧ args = [.int (nI v), .int name] ∧ Q (some (.int (nI (zlp v name)))) w
def pg_X3_lawsPart : List zE := [(0, .iload_n 1, 1, []), (1, .lookupswitch 41 #[(2, 27), (3, 33)], 27, [42, 28, 34]), (28, .iload_n 0, 1, []), (29, .iconst 1, 1, [1]), (30, .iadd, 1, []), (31, .iconst 2, 1, [2]), (32, .idiv, 1, []), (33, .ireturn, 1, []), (34, .iload_n 0, 1, []), (35, .bipush 9, 2, [9]), (37, .iadd, 1, []), (38, .bipush 10, 2, [10]), (40, .idiv, 1, []), (41, .ireturn, 1, []), (42, .iload_n 0, 1, []), (43, .iconst 3, 1, [3]), (44, .iadd, 1, []), (45, .iconst 4, 1, [4]), (46, .idiv, 1, []), (47, .ireturn, 1, [])]
theorem hp_X3_lawsPart : ∀ q ∈ pg_X3_lawsPart, decode cX3_lawsPart q.1 = .ok (q.2.1, q.2.2.1) ∧ ztg q.2.1 q.1 q.2.2.1 q.2.2.2 = true := zpg_of (by decide +kernel)
def cs_X3_lawsPart : List (Nat × zCall) := []
theorem hcs_X3_lawsPart {l : Launch} (hl0 : l.stackTraces = false) : ∀ q ∈ cs_X3_lawsPart, zCallable l RX3 1 q := fun _ h => absurd h List.not_mem_nil
def th_X3_lawsPart : List (Nat × String) := []
theorem hth_X3_lawsPart : ∀ q ∈ th_X3_lawsPart, zThrow cX3_lawsPart RX3 q := fun _ h => absurd h List.not_mem_nil
def kc_X3_lawsPart : List (Nat × Int32) := []
theorem hkc_X3_lawsPart : ∀ q ∈ kc_X3_lawsPart, Cond.constant RX3 q.1 q.2 ∈ zTs := fun _ h => absurd h List.not_mem_nil
def nw_X3_lawsPart : List (Nat × Nat × Nat × List Value) := []
theorem hnw_X3_lawsPart : ∀ q ∈ nw_X3_lawsPart, zNew RX3 q := fun _ h => absurd h List.not_mem_nil
set_option maxHeartbeats 4000000 in
set_option maxRecDepth 20000 in
theorem c_X3_lawsPart {l : Launch} (hl0 : l.stackTraces = false) : CT l yX3_lawsPart (.code yX3_lawsPart cX3_lawsPart 2 (some .int)) 1 0 0 false sp_X3_lawsPart := by
  refine zCT_of hl0 (own := RX3) fl_RX3 cs_X3_lawsPart nw_X3_lawsPart th_X3_lawsPart kc_X3_lawsPart (fun _ => []) false pg_X3_lawsPart rfl (by decide +kernel) hp_X3_lawsPart ⟨_, _, rfl, rfl⟩ hfl_RX3 (fun h => nomatch h) (hcs_X3_lawsPart hl0) hnw_X3_lawsPart hth_X3_lawsPart (fun _ _ h => absurd h List.not_mem_nil) hkc_X3_lawsPart (fun args w Q X v0 hv0 h => ?_)
  obtain ⟨v, name, hv, rfl, hQ⟩ := h
  refine ⟨Nat.le_of_ble_eq_true rfl, 20, [], ?_, fun q hq => absurd hq List.not_mem_nil⟩
  (conv => whnf)
  refine And.intro (fun c => ?_) (fun c => ?_)
  · (conv => whnf)
    refine ⟨by decide, ?_⟩
    (conv => whnf)
    dsimp only [zkon]
    rw [nI_add, pk_div (by omega) (by omega) (by omega), ← zlp_2 c]
    exact hQ
  · refine And.intro (fun d => ?_) (fun d => ?_)
    · (conv => whnf)
      refine ⟨by decide, ?_⟩
      (conv => whnf)
      dsimp only [zkon]
      rw [nI_add, pk_div (by omega) (by omega) (by omega), ← zlp_3 c d]
      exact hQ
    · (conv => whnf)
      refine ⟨by decide, ?_⟩
      (conv => whnf)
      dsimp only [zkon]
      rw [nI_add, pk_div (by omega) (by omega) (by omega), ← zlp_n c d]
      exact hQ
/-- what a share does: to the rewards and to the law's sum -/
def sp_X3_share : zSpec := fun args w Q _ => ∃ α ν r x v name, v ≤ 100000 ∧ args = [.ref 15, .int x, .int (nI v), .int name] ∧ w = WX α ν r ∧
  (∀ j, j < 6 → x = nI j → Q none (WX (zu α 13 (upd (α 13) j (α 13 j + (nI v - nI (zlp v name))))) (zu ν 5 (ν 5 + nI (zlp v name))) r)) ∧
  ((¬ vp_in x 6) → Q none (WX α (zu ν 5 (ν 5 + nI v)) r))
def pg_X3_share : List zE := [(0, .iload_n 1, 1, []), (1, .invokestatic 36, 3, []), (4, .ifCond .eq 37, 3, [41]), (7, .iload_n 2, 1, []), (8, .iload_n 3, 1, []), (9, .invokestatic 40, 3, []), (12, .istore 4, 2, []), (14, .aload_n 0, 1, []), (15, .dup, 1, []), (16, .getfield 25, 3, []), (19, .iload 4, 2, []), (21, .iadd, 1, []), (22, .putfield 25, 3, []), (25, .aload_n 0, 1, []), (26, .getfield 18, 3, []), (29, .iload_n 1, 1, []), (30, .dup2, 1, []), (31, .iaload, 1, []), (32, .iload_n 2, 1, []), (33, .iload 4, 2, []), (35, .isub, 1, []), (36, .iadd, 1, []), (37, .iastore, 1, []), (38, .goto 13, 3, [51]), (41, .aload_n 0, 1, []), (42, .dup, 1, []), (43, .getfield 25, 3, []), (46, .iload_n 2, 1, []), (47, .iadd, 1, []), (48, .putfield 25, 3, []), (51, .return_, 1, [])]
theorem hp_X3_share : ∀ q ∈ pg_X3_share, decode cX3_share q.1 = .ok (q.2.1, q.2.2.1) ∧ ztg q.2.1 q.1 q.2.2.1 q.2.2.2 = true := zpg_of (by decide +kernel)
def cs_X3_share : List (Nat × zCall) := [(36, 1, 1, none, 0, 0, false, sp_X3_isFinder), (40, 1, 2, none, 0, 0, false, sp_X3_lawsPart)]
theorem hcs_X3_share {l : Launch} (hl0 : l.stackTraces = false) : ∀ q ∈ cs_X3_share, zCallable l RX3 2 q := List.forall_mem_cons.mpr ⟨zcS (ps := [564, 565, 19, 566]) (c_X3_isFinder hl0) (by decide +kernel) ⟨by decide +kernel, by decide +kernel, by decide +kernel⟩ (by decide) (by decide), List.forall_mem_cons.mpr ⟨zcS (ps := [567, 568, 19, 569]) (c_X3_lawsPart hl0) (by decide +kernel) ⟨by decide +kernel, by decide +kernel, by decide +kernel⟩ (by decide) (by decide), fun _ h => absurd h List.not_mem_nil⟩⟩
def th_X3_share : List (Nat × String) := []
theorem hth_X3_share : ∀ q ∈ th_X3_share, zThrow cX3_share RX3 q := fun _ h => absurd h List.not_mem_nil
def kc_X3_share : List (Nat × Int32) := []
theorem hkc_X3_share : ∀ q ∈ kc_X3_share, Cond.constant RX3 q.1 q.2 ∈ zTs := fun _ h => absurd h List.not_mem_nil
def nw_X3_share : List (Nat × Nat × Nat × List Value) := []
theorem hnw_X3_share : ∀ q ∈ nw_X3_share, zNew RX3 q := fun _ h => absurd h List.not_mem_nil
set_option maxHeartbeats 4000000 in
set_option maxRecDepth 20000 in
theorem c_X3_share {l : Launch} (hl0 : l.stackTraces = false) : CT l yX3_share (.code yX3_share cX3_share 5 none) 2 0 0 false sp_X3_share := by
  refine zCT_of hl0 (own := RX3) fl_RX3 cs_X3_share nw_X3_share th_X3_share kc_X3_share (fun _ => []) false pg_X3_share rfl (by decide +kernel) hp_X3_share ⟨_, _, rfl, rfl⟩ hfl_RX3 (fun h => nomatch h) (hcs_X3_share hl0) hnw_X3_share hth_X3_share (fun _ _ h => absurd h List.not_mem_nil) hkc_X3_share (fun args w Q X v0 hv0 h => ?_)
  obtain ⟨α, ν, r, x, v, name, hv, rfl, rfl, h1, h2⟩ := h
  refine ⟨Nat.le_of_ble_eq_true rfl, 60, [], ?_, fun q hq => absurd hq List.not_mem_nil⟩
  (conv => whnf)
  refine ⟨_, rfl, fun c => ?_, fun c => ?_⟩
  · obtain ⟨j, hj, rfl⟩ := vp_in_of c (by decide)
    (conv => whnf)
    refine And.intro (fun c => absurd c (show ¬ _ from (by decide))) (fun _ => ?_)
    (conv => whnf)
    refine ⟨v, name, hv, rfl, ?_⟩
    (conv => whnf)
    refine ⟨vp_in_nI hj (by decide), ?_⟩
    (conv => whnf)
    refine ⟨vp_in_nI hj (by decide), ?_⟩
    (conv => whnf)
    rw [nI_clamp (by omega)]
    exact h1 j hj rfl
  · (conv => whnf)
    refine And.intro (fun _ => ?_) (fun c => absurd (show _ from rfl) c)
    (conv => whnf)
    exact h2 c
def sp_X3_enter : zSpec := fun args w Q _ => ∃ α ν r n s x v name, n < 60 ∧ ν 4 = nI n ∧ v ≤ 100000 ∧ args = [.ref 15, .int s, .int x, .int (nI v), .int name] ∧ w = WX α ν r ∧
  (∀ j, j < 6 → x = nI j → Q (some (.int (nI n))) (WX (zu (zu (zu α 11 (upd (α 11) n s)) 12 (upd (α 12) n x)) 13 (upd (α 13) j (α 13 j + (nI v - nI (zlp v name))))) (zu (zu ν 4 (nI (n + 1))) 5 (ν 5 + nI (zlp v name))) r)) ∧
  ((¬ vp_in x 6) → Q (some (.int (nI n))) (WX (zu (zu α 11 (upd (α 11) n s)) 12 (upd (α 12) n x)) (zu (zu ν 4 (nI (n + 1))) 5 (ν 5 + nI v)) r))
def pg_X3_enter : List zE := [(0, .aload_n 0, 1, []), (1, .invokevirtual 28, 3, []), (4, .ifCond .eq 5, 3, [9]), (7, .iconst (-1), 1, []), (8, .ireturn, 1, []), (9, .aload_n 0, 1, []), (10, .getfield 21, 3, []), (13, .istore 5, 2, []), (15, .aload_n 0, 1, []), (16, .getfield 9, 3, []), (19, .iload 5, 2, []), (21, .iload_n 1, 1, []), (22, .iastore, 1, []), (23, .aload_n 0, 1, []), (24, .getfield 15, 3, []), (27, .iload 5, 2, []), (29, .iload_n 2, 1, []), (30, .iastore, 1, []), (31, .aload_n 0, 1, []), (32, .dup, 1, []), (33, .getfield 21, 3, []), (36, .iconst 1, 1, [1]), (37, .iadd, 1, []), (38, .putfield 21, 3, []), (41, .aload_n 0, 1, []), (42, .iload_n 2, 1, []), (43, .iload_n 3, 1, []), (44, .iload 4, 2, []), (46, .invokevirtual 32, 3, []), (49, .iload 5, 2, []), (51, .ireturn, 1, [])]
theorem hp_X3_enter : ∀ q ∈ pg_X3_enter, decode cX3_enter q.1 = .ok (q.2.1, q.2.2.1) ∧ ztg q.2.1 q.1 q.2.2.1 q.2.2.2 = true := zpg_of (by decide +kernel)
def cs_X3_enter : List (Nat × zCall) := [(28, 0, 1, some 4, 0, 0, false, sp_X3_isFull), (32, 0, 4, some 4, 0, 0, false, sp_X3_share)]
theorem hcs_X3_enter {l : Launch} (hl0 : l.stackTraces = false) : ∀ q ∈ cs_X3_enter, zCallable l RX3 3 q := List.forall_mem_cons.mpr ⟨zcV (C := (RX3, TX3, 5)) (ps := [559, 551, 552, 19, 553]) (c_X3_isFull hl0) (by decide +kernel) rfl ⟨rfl, by decide +kernel, by decide +kernel, by decide +kernel⟩ (by decide) (by decide), List.forall_mem_cons.mpr ⟨zcV (C := (RX3, TX3, 5)) (ps := [560, 562, 11, 19, 563]) (c_X3_share hl0) (by decide +kernel) rfl ⟨rfl, by decide +kernel, by decide +kernel, by decide +kernel⟩ (by decide) (by decide), fun _ h => absurd h List.not_mem_nil⟩⟩
def th_X3_enter : List (Nat × String) := []
theorem hth_X3_enter : ∀ q ∈ th_X3_enter, zThrow cX3_enter RX3 q := fun _ h => absurd h List.not_mem_nil
def kc_X3_enter : List (Nat × Int32) := []
theorem hkc_X3_enter : ∀ q ∈ kc_X3_enter, Cond.constant RX3 q.1 q.2 ∈ zTs := fun _ h => absurd h List.not_mem_nil
def nw_X3_enter : List (Nat × Nat × Nat × List Value) := []
theorem hnw_X3_enter : ∀ q ∈ nw_X3_enter, zNew RX3 q := fun _ h => absurd h List.not_mem_nil
set_option maxHeartbeats 4000000 in
set_option maxRecDepth 20000 in
theorem c_X3_enter {l : Launch} (hl0 : l.stackTraces = false) : CT l yX3_enter (.code yX3_enter cX3_enter 6 (some .int)) 3 0 0 false sp_X3_enter := by
  refine zCT_of hl0 (own := RX3) fl_RX3 cs_X3_enter nw_X3_enter th_X3_enter kc_X3_enter (fun _ => []) false pg_X3_enter rfl (by decide +kernel) hp_X3_enter ⟨_, _, rfl, rfl⟩ hfl_RX3 (fun h => nomatch h) (hcs_X3_enter hl0) hnw_X3_enter hth_X3_enter (fun _ _ h => absurd h List.not_mem_nil) hkc_X3_enter (fun args w Q X v0 hv0 h => ?_)
  obtain ⟨α, ν, r, n, s, x, v, name, hn, hν, hv, rfl, rfl, h1, h2⟩ := h
  refine ⟨Nat.le_of_ble_eq_true rfl, 60, [], ?_, fun q hq => absurd hq List.not_mem_nil⟩
  (conv => whnf)
  refine ⟨α, ν, r, n, by omega, hν, rfl, rfl, fun c => absurd c (by omega), fun _ => ?_⟩
  (conv => whnf)
  refine And.intro (fun _ => ?_) (fun c => absurd (show _ from rfl) c)
  (conv => whnf)
  rw [hν]
  refine ⟨vp_in_nI hn (by decide), ?_⟩
  (conv => whnf)
  refine ⟨vp_in_nI hn (by decide), ?_⟩
  (conv => whnf)
  refine ⟨zu (zu α 11 (upd (α 11) n s)) 12 (upd (α 12) n x), zu ν 4 (nI (n + 1)), r, x, v, name, hv, rfl, ?_, fun j hj e => ?_, fun c => ?_⟩
  · rw [nI_clamp (by omega)]
    dsimp only [zkon]
    rw [hν, nI_add]
    rfl
  · (conv => whnf)
    exact h1 j hj e
  · (conv => whnf)
    exact h2 c
def sp_X3_shapeBehind : zSpec := fun args w Q _ => ∃ α ν r n j, n ≤ 60 ∧ ν 4 = nI n ∧ j < n ∧ args = [.ref 15, .int (nI j)] ∧ w = WX α ν r ∧ Q (some (.int (α 11 j))) (WX α ν r)
def pg_X3_shapeBehind : List zE := [(0, .aload_n 0, 1, []), (1, .iload_n 1, 1, []), (2, .invokevirtual 44, 3, []), (5, .ifCond .eq 12, 3, [17]), (8, .aload_n 0, 1, []), (9, .getfield 9, 3, []), (12, .iload_n 1, 1, []), (13, .iaload, 1, []), (14, .goto 4, 3, [18]), (17, .iconst (-1), 1, []), (18, .ireturn, 1, [])]
theorem hp_X3_shapeBehind : ∀ q ∈ pg_X3_shapeBehind, decode cX3_shapeBehind q.1 = .ok (q.2.1, q.2.2.1) ∧ ztg q.2.1 q.1 q.2.2.1 q.2.2.2 = true := zpg_of (by decide +kernel)
def cs_X3_shapeBehind : List (Nat × zCall) := [(44, 0, 2, some 4, 0, 0, false, sp_X3_has)]
theorem hcs_X3_shapeBehind {l : Launch} (hl0 : l.stackTraces = false) : ∀ q ∈ cs_X3_shapeBehind, zCallable l RX3 2 q := List.forall_mem_cons.mpr ⟨zcV (C := (RX3, TX3, 5)) (ps := [487, 479, 480, 19, 481]) (c_X3_has hl0) (by decide +kernel) rfl ⟨rfl, by decide +kernel, by decide +kernel, by decide +kernel⟩ (by decide) (by decide), fun _ h => absurd h List.not_mem_nil⟩
def th_X3_shapeBehind : List (Nat × String) := []
theorem hth_X3_shapeBehind : ∀ q ∈ th_X3_shapeBehind, zThrow cX3_shapeBehind RX3 q := fun _ h => absurd h List.not_mem_nil
def kc_X3_shapeBehind : List (Nat × Int32) := []
theorem hkc_X3_shapeBehind : ∀ q ∈ kc_X3_shapeBehind, Cond.constant RX3 q.1 q.2 ∈ zTs := fun _ h => absurd h List.not_mem_nil
def nw_X3_shapeBehind : List (Nat × Nat × Nat × List Value) := []
theorem hnw_X3_shapeBehind : ∀ q ∈ nw_X3_shapeBehind, zNew RX3 q := fun _ h => absurd h List.not_mem_nil
set_option maxHeartbeats 4000000 in
set_option maxRecDepth 20000 in
theorem c_X3_shapeBehind {l : Launch} (hl0 : l.stackTraces = false) : CT l yX3_shapeBehind (.code yX3_shapeBehind cX3_shapeBehind 2 (some .int)) 2 0 0 false sp_X3_shapeBehind := by
  refine zCT_of hl0 (own := RX3) fl_RX3 cs_X3_shapeBehind nw_X3_shapeBehind th_X3_shapeBehind kc_X3_shapeBehind (fun _ => []) false pg_X3_shapeBehind rfl (by decide +kernel) hp_X3_shapeBehind ⟨_, _, rfl, rfl⟩ hfl_RX3 (fun h => nomatch h) (hcs_X3_shapeBehind hl0) hnw_X3_shapeBehind hth_X3_shapeBehind (fun _ _ h => absurd h List.not_mem_nil) hkc_X3_shapeBehind (fun args w Q X v0 hv0 h => ?_)
  obtain ⟨α, ν, r, n, j, hn, hν, hj, rfl, rfl, hQ⟩ := h
  refine ⟨Nat.le_of_ble_eq_true rfl, 20, [], ?_, fun q hq => absurd hq List.not_mem_nil⟩
  (conv => whnf)
  refine ⟨α, ν, r, n, _, hn, hν, rfl, rfl, fun _ => ?_, fun c => absurd (vp_in_nI hj (by omega)) c⟩
  (conv => whnf)
  refine And.intro (fun c => absurd c (show ¬ _ from (by decide))) (fun _ => ?_)
  (conv => whnf)
  refine ⟨vp_in_nI (show j < 60 by omega) (by decide), ?_⟩
  (conv => whnf)
  rw [nI_clamp (by omega)]
  exact hQ
def sp_X3_finderBehind : zSpec := fun args w Q _ => ∃ α ν r n j, n ≤ 60 ∧ ν 4 = nI n ∧ j < n ∧ args = [.ref 15, .int (nI j)] ∧ w = WX α ν r ∧ Q (some (.int (α 12 j))) (WX α ν r)
def pg_X3_finderBehind : List zE := [(0, .aload_n 0, 1, []), (1, .iload_n 1, 1, []), (2, .invokevirtual 44, 3, []), (5, .ifCond .eq 12, 3, [17]), (8, .aload_n 0, 1, []), (9, .getfield 15, 3, []), (12, .iload_n 1, 1, []), (13, .iaload, 1, []), (14, .goto 4, 3, [18]), (17, .iconst (-1), 1, []), (18, .ireturn, 1, [])]
theorem hp_X3_finderBehind : ∀ q ∈ pg_X3_finderBehind, decode cX3_finderBehind q.1 = .ok (q.2.1, q.2.2.1) ∧ ztg q.2.1 q.1 q.2.2.1 q.2.2.2 = true := zpg_of (by decide +kernel)
def cs_X3_finderBehind : List (Nat × zCall) := [(44, 0, 2, some 4, 0, 0, false, sp_X3_has)]
theorem hcs_X3_finderBehind {l : Launch} (hl0 : l.stackTraces = false) : ∀ q ∈ cs_X3_finderBehind, zCallable l RX3 2 q := List.forall_mem_cons.mpr ⟨zcV (C := (RX3, TX3, 5)) (ps := [487, 479, 480, 19, 481]) (c_X3_has hl0) (by decide +kernel) rfl ⟨rfl, by decide +kernel, by decide +kernel, by decide +kernel⟩ (by decide) (by decide), fun _ h => absurd h List.not_mem_nil⟩
def th_X3_finderBehind : List (Nat × String) := []
theorem hth_X3_finderBehind : ∀ q ∈ th_X3_finderBehind, zThrow cX3_finderBehind RX3 q := fun _ h => absurd h List.not_mem_nil
def kc_X3_finderBehind : List (Nat × Int32) := []
theorem hkc_X3_finderBehind : ∀ q ∈ kc_X3_finderBehind, Cond.constant RX3 q.1 q.2 ∈ zTs := fun _ h => absurd h List.not_mem_nil
def nw_X3_finderBehind : List (Nat × Nat × Nat × List Value) := []
theorem hnw_X3_finderBehind : ∀ q ∈ nw_X3_finderBehind, zNew RX3 q := fun _ h => absurd h List.not_mem_nil
set_option maxHeartbeats 4000000 in
set_option maxRecDepth 20000 in
theorem c_X3_finderBehind {l : Launch} (hl0 : l.stackTraces = false) : CT l yX3_finderBehind (.code yX3_finderBehind cX3_finderBehind 2 (some .int)) 2 0 0 false sp_X3_finderBehind := by
  refine zCT_of hl0 (own := RX3) fl_RX3 cs_X3_finderBehind nw_X3_finderBehind th_X3_finderBehind kc_X3_finderBehind (fun _ => []) false pg_X3_finderBehind rfl (by decide +kernel) hp_X3_finderBehind ⟨_, _, rfl, rfl⟩ hfl_RX3 (fun h => nomatch h) (hcs_X3_finderBehind hl0) hnw_X3_finderBehind hth_X3_finderBehind (fun _ _ h => absurd h List.not_mem_nil) hkc_X3_finderBehind (fun args w Q X v0 hv0 h => ?_)
  obtain ⟨α, ν, r, n, j, hn, hν, hj, rfl, rfl, hQ⟩ := h
  refine ⟨Nat.le_of_ble_eq_true rfl, 20, [], ?_, fun q hq => absurd hq List.not_mem_nil⟩
  (conv => whnf)
  refine ⟨α, ν, r, n, _, hn, hν, rfl, rfl, fun _ => ?_, fun c => absurd (vp_in_nI hj (by omega)) c⟩
  (conv => whnf)
  refine And.intro (fun c => absurd c (show ¬ _ from (by decide))) (fun _ => ?_)
  (conv => whnf)
  refine ⟨vp_in_nI (show j < 60 by omega) (by decide), ?_⟩
  (conv => whnf)
  rw [nI_clamp (by omega)]
  exact hQ
def sp_X3_rewardOf : zSpec := fun args w Q _ => ∃ α ν r j, j < 6 ∧ args = [.ref 15, .int (nI j)] ∧ w = WX α ν r ∧ Q (some (.int (α 13 j))) (WX α ν r)
def pg_X3_rewardOf : List zE := [(0, .iload_n 1, 1, []), (1, .invokestatic 36, 3, []), (4, .ifCond .eq 12, 3, [16]), (7, .aload_n 0, 1, []), (8, .getfield 18, 3, []), (11, .iload_n 1, 1, []), (12, .iaload, 1, []), (13, .goto 4, 3, [17]), (16, .iconst 0, 1, [0]), (17, .ireturn, 1, [])]
theorem hp_X3_rewardOf : ∀ q ∈ pg_X3_rewardOf, decode cX3_rewardOf q.1 = .ok (q.2.1, q.2.2.1) ∧ ztg q.2.1 q.1 q.2.2.1 q.2.2.2 = true := zpg_of (by decide +kernel)
def cs_X3_rewardOf : List (Nat × zCall) := [(36, 1, 1, none, 0, 0, false, sp_X3_isFinder)]
theorem hcs_X3_rewardOf {l : Launch} (hl0 : l.stackTraces = false) : ∀ q ∈ cs_X3_rewardOf, zCallable l RX3 2 q := List.forall_mem_cons.mpr ⟨zcS (ps := [564, 565, 19, 566]) (c_X3_isFinder hl0) (by decide +kernel) ⟨by decide +kernel, by decide +kernel, by decide +kernel⟩ (by decide) (by decide), fun _ h => absurd h List.not_mem_nil⟩
def th_X3_rewardOf : List (Nat × String) := []
theorem hth_X3_rewardOf : ∀ q ∈ th_X3_rewardOf, zThrow cX3_rewardOf RX3 q := fun _ h => absurd h List.not_mem_nil
def kc_X3_rewardOf : List (Nat × Int32) := []
theorem hkc_X3_rewardOf : ∀ q ∈ kc_X3_rewardOf, Cond.constant RX3 q.1 q.2 ∈ zTs := fun _ h => absurd h List.not_mem_nil
def nw_X3_rewardOf : List (Nat × Nat × Nat × List Value) := []
theorem hnw_X3_rewardOf : ∀ q ∈ nw_X3_rewardOf, zNew RX3 q := fun _ h => absurd h List.not_mem_nil
set_option maxHeartbeats 4000000 in
set_option maxRecDepth 20000 in
theorem c_X3_rewardOf {l : Launch} (hl0 : l.stackTraces = false) : CT l yX3_rewardOf (.code yX3_rewardOf cX3_rewardOf 2 (some .int)) 2 0 0 false sp_X3_rewardOf := by
  refine zCT_of hl0 (own := RX3) fl_RX3 cs_X3_rewardOf nw_X3_rewardOf th_X3_rewardOf kc_X3_rewardOf (fun _ => []) false pg_X3_rewardOf rfl (by decide +kernel) hp_X3_rewardOf ⟨_, _, rfl, rfl⟩ hfl_RX3 (fun h => nomatch h) (hcs_X3_rewardOf hl0) hnw_X3_rewardOf hth_X3_rewardOf (fun _ _ h => absurd h List.not_mem_nil) hkc_X3_rewardOf (fun args w Q X v0 hv0 h => ?_)
  obtain ⟨α, ν, r, j, hj, rfl, rfl, hQ⟩ := h
  refine ⟨Nat.le_of_ble_eq_true rfl, 20, [], ?_, fun q hq => absurd hq List.not_mem_nil⟩
  (conv => whnf)
  refine ⟨_, rfl, fun _ => ?_, fun c => absurd (vp_in_nI hj (by decide)) c⟩
  (conv => whnf)
  refine And.intro (fun c => absurd c (show ¬ _ from (by decide))) (fun _ => ?_)
  (conv => whnf)
  refine ⟨vp_in_nI hj (by decide), ?_⟩
  (conv => whnf)
  rw [nI_clamp (by omega)]
  exact hQ
def sp_X3_keptByLaw : zSpec := fun args w Q _ => ∃ α ν r, args = [.ref 15] ∧ w = WX α ν r ∧ Q (some (.int (ν 5))) (WX α ν r)
def pg_X3_keptByLaw : List zE := [(0, .aload_n 0, 1, []), (1, .getfield 25, 3, []), (4, .ireturn, 1, [])]
theorem hp_X3_keptByLaw : ∀ q ∈ pg_X3_keptByLaw, decode cX3_keptByLaw q.1 = .ok (q.2.1, q.2.2.1) ∧ ztg q.2.1 q.1 q.2.2.1 q.2.2.2 = true := zpg_of (by decide +kernel)
def cs_X3_keptByLaw : List (Nat × zCall) := []
theorem hcs_X3_keptByLaw {l : Launch} (hl0 : l.stackTraces = false) : ∀ q ∈ cs_X3_keptByLaw, zCallable l RX3 1 q := fun _ h => absurd h List.not_mem_nil
def th_X3_keptByLaw : List (Nat × String) := []
theorem hth_X3_keptByLaw : ∀ q ∈ th_X3_keptByLaw, zThrow cX3_keptByLaw RX3 q := fun _ h => absurd h List.not_mem_nil
def kc_X3_keptByLaw : List (Nat × Int32) := []
theorem hkc_X3_keptByLaw : ∀ q ∈ kc_X3_keptByLaw, Cond.constant RX3 q.1 q.2 ∈ zTs := fun _ h => absurd h List.not_mem_nil
def nw_X3_keptByLaw : List (Nat × Nat × Nat × List Value) := []
theorem hnw_X3_keptByLaw : ∀ q ∈ nw_X3_keptByLaw, zNew RX3 q := fun _ h => absurd h List.not_mem_nil
set_option maxHeartbeats 4000000 in
set_option maxRecDepth 20000 in
theorem c_X3_keptByLaw {l : Launch} (hl0 : l.stackTraces = false) : CT l yX3_keptByLaw (.code yX3_keptByLaw cX3_keptByLaw 1 (some .int)) 1 0 0 false sp_X3_keptByLaw := by
  refine zCT_of hl0 (own := RX3) fl_RX3 cs_X3_keptByLaw nw_X3_keptByLaw th_X3_keptByLaw kc_X3_keptByLaw (fun _ => []) false pg_X3_keptByLaw rfl (by decide +kernel) hp_X3_keptByLaw ⟨_, _, rfl, rfl⟩ hfl_RX3 (fun h => nomatch h) (hcs_X3_keptByLaw hl0) hnw_X3_keptByLaw hth_X3_keptByLaw (fun _ _ h => absurd h List.not_mem_nil) hkc_X3_keptByLaw (fun args w Q X v0 hv0 h => ?_)
  obtain ⟨α, ν, r, rfl, rfl, hQ⟩ := h
  refine ⟨Nat.le_of_ble_eq_true rfl, 20, [], ?_, fun q hq => absurd hq List.not_mem_nil⟩
  (conv => whnf)
  exact hQ
end
section
/-! ===== members of the JDK: StringBuilder ===== -/
def zspMin : zSpec := fun args w Q _ => ∃ x y, args = [.int x, .int y] ∧ Q (some (.int (if y < x then y else x))) w
/-- Math.min is the machine's own -/
theorem zcMin {l : Launch} {own : String} {d idx : Nat} {ps : List Nat} (hz : zins ps [.methodLink own idx Lib.Math.min.name, .static Lib.Math.min.name, .initialized "java/lang/Math", .code Lib.Math.min.name Lib.Math.min.code 2 (some .int)] = true) (hd : 0 < d) : zCallable l own d (idx, 1, 2, none, 0, 0, false, zspMin) := by
  intro Γ T B pc L S as S' w cu su QN _ hd2 hp hrc hcat hcu hsu hal hN hSp ad H locs ls hP hD hS hl ha
  obtain ⟨hlen, rfl⟩ := zpop_top hp
  obtain ⟨x, y, rfl, hq⟩ := hSp
  obtain ⟨e1, hx, hb, hml, hown, hE, hRf, hRl, hA, hrC, hrS, hTa, hTn, hex⟩ := id B
  have hm9 : ∀ w ∈ [Cond.methodLink own idx Lib.Math.min.name, .static Lib.Math.min.name, .initialized "java/lang/Math", .code Lib.Math.min.name Lib.Math.min.code 2 (some .int)], w.before Γ.args Γ.s = true := fun w hw => zts B w (zins_in hz w hw)
  have h9 := hN _ w hq ad H locs ls hP hD hS hl ha
  have h8 : ((S'.map (zcv ad)).map fun v => v.category).sum ≤ 8 := by rw [zcat_map]; exact hcat
  exact va_mmin hx hb (hml.trans hl.1.symm) hown (hm9 _ (by simp)) (hm9 _ (by simp)) (hm9 _ (by simp)) (hm9 _ (by simp)) (by omega) (Nat.le_trans (Nat.add_le_add_right h8 13) (by omega)) (Nat.le_trans hcu hrC) (Nat.le_trans hsu hrS) hd2 h9
/-- a private method of a class above the receiver's: what a call by its name selects -/
theorem zsel_private {y y' : MethodName} {C : String} {s : State} {args : Array Value} {n : Nat} (hy : y.cls ≠ "java/lang/invoke/MethodHandle" ∧ y.cls ≠ "java/lang/invoke/VarHandle") (hcc : y'.cls = y.cls)
    (hins : (Cond.instantiable C n).before args s = true) (hpriv : (Cond.privateMethod y).before args s = true) (hinst : (Cond.instanceMethod y).before args s = true) (hs : (Cond.selects C y' y').before args s = true) :
    (Cond.selects C y y).before args s = true := by
  obtain ⟨c, k, hc, hk, -, hniab, -, -⟩ := Cond.instantiable_spec hins
  obtain ⟨mk, methM, hnamed, hmethM, -, -⟩ := Cond.instanceMethod_spec hinst
  have hfound : s.methodFound? y.cls y.name y.desc = some mk := State.methodFound?_of_named hnamed hy
  obtain ⟨c2, r2, m2, -, -, q3, -, kP, hkP, hkPi⟩ := Cond.selects_spec hs
  have hcls : mk.cls = m2.cls := Option.some.inj ((findClass_of_methodNamed hnamed).symm.trans ((congrArg s.vm.findClass hcc.symm).trans (findClass_of_methodNamed q3)))
  have hsel : selectMethod {} s.vm c mk = .method mk := selectMethod_private hmethM (Cond.privateMethod_at hpriv mk methM hnamed hmethM)
  simp only [Cond.before, Cond.holds, Cond.value, hc, hfound, hnamed, hsel, hcls, hkP]
  simp; exact hkPi
set_option maxHeartbeats 2000000 in
theorem zcUP {l : Launch} {own : String} {ci d d' idx maxL mc ms n : Nat} {al : Bool} {Sp : zSpec} {bytes : ByteArray} {ret : Option FieldType} {ps : List Nat} {y : MethodName} {C : vw_C} (hM : CT l y (.code y bytes maxL ret) d' mc ms al Sp)
    (hz : zins ps [.methodLink own idx y, .sameMethod y.cls y.cls y.name y.desc, .instanceMethod y, .initialized y.cls, .code y bytes maxL ret] = true) (hc : zCl[ci]? = some C) (hsm : Cond.selects C.1 y y ∈ zTs)
    (hy : y.cls ≠ "java/lang/invoke/MethodHandle" ∧ y.cls ≠ "java/lang/invoke/VarHandle" ∧ (parseMethodDescriptor y.desc).map (fun d => d.parameters.length) = some n) (hd : d' < d) (hm : maxL ≤ 20) : zCallable l own d (idx, 0, n + 1, some ci, mc, ms, al, Sp) := by
  intro Γ T B pc L S as S' w cu su QN _ hd2 hp hrc hcat hcu hsu hal hN hSp ad H locs ls hP hD hS hl ha
  obtain ⟨hlen, rfl⟩ := zpop_top hp
  obtain ⟨k, as', o, rfl, hw, rfl⟩ := zrcv_s hrc
  obtain ⟨e1, hx, hb, hml, hown, hE, hRf, hRl, hA, hrC, hrS, hTa, hTn, hex⟩ := id B
  subst e1
  have M := hM Γ.G Γ.cA ad w (.ref k :: as') H.size QN _ hSp
  have hq : ∀ w ∈ [Cond.methodLink own idx y, .sameMethod y.cls y.cls y.name y.desc, .instanceMethod y, .initialized y.cls, .code y bytes maxL ret], w ∈ zTs := zins_in hz
  have hG : GoodIn zTs (va_wsU own idx C.1 y.cls y y [.code y bytes maxL ret]) := fun w hw => by
    have h : w ∈ zTs := by
      have hw2 : w ∈ [Cond.methodLink own idx y, .sameMethod y.cls y.cls y.name y.desc, .selects C.1 y y, .instanceMethod y, .initialized y.cls, .code y bytes maxL ret] := hw
      simp only [List.mem_cons, List.not_mem_nil, or_false] at hw2
      rcases hw2 with e | e | e | e | e | e
      · exact hq w (by rw [e]; simp)
      · exact hq w (by rw [e]; simp)
      · rw [e]; exact hsm
      · exact hq w (by rw [e]; simp)
      · exact hq w (by rw [e]; simp)
      · exact hq w (by rw [e]; simp)
    exact ⟨h, good_of_word (zgood h)⟩
  exact zcall_fin B hP hD hS hl ha hal hN (vx_runU (As := as'.map (zcv ad)) (rest := S'.map (zcv ad)) (b := ad k) ⟨hx, hb, hml, hown, zts B⟩ M (va_cwU n (zts B) hG rfl rfl rfl rfl hy (zroom B hd hm)) ⟨zpre_blind, va_recv hE.2.2.2.2.2.2.2.1 hP hc (zcw_get hw), fun U hU hW => zpre_at (as := .ref k :: as') B hP hD hS ha hU hW⟩ rfl (by rw [List.length_map]; simpa using hlen) hl.1 zstk (zmon hcat) hd2 ⟨Nat.le_trans hcu hrC, Nat.le_trans hsu hrS⟩)
/-- a row of signs written from c on -/
def zwr (f : Nat → Int32) (c : Nat) : List Nat → Nat → Int32
  | [] => f
  | x :: t => zwr (upd f c (nI x)) (c + 1) t
theorem zwr_below : ∀ (l : List Nat) (f : Nat → Int32) (c j : Nat), j < c → zwr f c l j = f j
  | [], _, _, _, _ => rfl
  | x :: t, f, c, j, h => by
    show zwr (upd f c (nI x)) (c + 1) t j = f j
    rw [zwr_below t _ _ _ (by omega), pk_un (by omega)]
theorem zwr_get : ∀ (l : List Nat) (f : Nat → Int32) (c j : Nat) (h : j < l.length), zwr f c l (c + j) = nI (l[j])
  | [], _, _, j, h => absurd h (Nat.not_lt_zero j)
  | x :: t, f, c, j, h => by
    show zwr (upd f c (nI x)) (c + 1) t (c + j) = _
    cases j with
    | zero =>
      show zwr (upd f c (nI x)) (c + 1) t c = nI x
      rw [zwr_below t _ _ _ (by omega), pk_us]
    | succ j => rw [show c + (j + 1) = c + 1 + j by omega, zwr_get t _ _ j (by simpa using h)]; rfl
theorem zwr_app : ∀ (l l' : List Nat) (f : Nat → Int32) (c : Nat), zwr f c (l ++ l') = zwr (zwr f c l) (c + l.length) l'
  | [], l', f, c => rfl
  | x :: t, l', f, c => by
    show zwr (upd f c (nI x)) (c + 1) (t ++ l') = _
    rw [zwr_app t l', show c + (x :: t).length = c + 1 + t.length by simp; omega]
    rfl
/-- the digits of a number below 100 -/
def zdg (n : Nat) : List Nat := if n < 10 then [48 + n] else [48 + n / 10, 48 + n % 10]
theorem zdg_len {n : Nat} : (zdg n).length ≤ 2 ∧ 1 ≤ (zdg n).length := by unfold zdg; split <;> simp
def sp_J5_length : zSpec := fun args w Q _ => ∃ α ν r, args = [.ref 19] ∧ w = WX α ν r ∧ Q (some (.int (ν 6))) (WX α ν r)
def sp_J5_length_8abf5 : zSpec := sp_J5_length
def fl_RJ5 : List (Nat × Nat × Nat) := [(15, 0, 0), (22, 0, 1), (73, 0, 2), (79, 0, 3)]
theorem hfl_RJ5 : ∀ q ∈ fl_RJ5, zFld RJ5 q := zfld_of (ps := [153, 154, 155, 156]) (by decide +kernel)
def pg_J5_length_8abf5 : List zE := [(0, .aload_n 0, 1, []), (1, .getfield 79, 3, []), (4, .ireturn, 1, [])]
theorem hp_J5_length_8abf5 : ∀ q ∈ pg_J5_length_8abf5, decode cJ5_length_8abf5 q.1 = .ok (q.2.1, q.2.2.1) ∧ ztg q.2.1 q.1 q.2.2.1 q.2.2.2 = true := zpg_of (by decide +kernel)
def cs_J5_length_8abf5 : List (Nat × zCall) := []
theorem hcs_J5_length_8abf5 {l : Launch} (hl0 : l.stackTraces = false) : ∀ q ∈ cs_J5_length_8abf5, zCallable l RJ5 1 q := fun _ h => absurd h List.not_mem_nil
def th_J5_length_8abf5 : List (Nat × String) := []
theorem hth_J5_length_8abf5 : ∀ q ∈ th_J5_length_8abf5, zThrow cJ5_length_8abf5 RJ5 q := fun _ h => absurd h List.not_mem_nil
def kc_J5_length_8abf5 : List (Nat × Int32) := []
theorem hkc_J5_length_8abf5 : ∀ q ∈ kc_J5_length_8abf5, Cond.constant RJ5 q.1 q.2 ∈ zTs := fun _ h => absurd h List.not_mem_nil
def nw_J5_length_8abf5 : List (Nat × Nat × Nat × List Value) := []
theorem hnw_J5_length_8abf5 : ∀ q ∈ nw_J5_length_8abf5, zNew RJ5 q := fun _ h => absurd h List.not_mem_nil
set_option maxHeartbeats 4000000 in
set_option maxRecDepth 20000 in
theorem c_J5_length_8abf5 {l : Launch} (hl0 : l.stackTraces = false) : CT l yJ5_length_8abf5 (.code yJ5_length_8abf5 cJ5_length_8abf5 1 (some .int)) 1 0 0 false sp_J5_length_8abf5 := by
  refine zCT_of hl0 (own := RJ5) fl_RJ5 cs_J5_length_8abf5 nw_J5_length_8abf5 th_J5_length_8abf5 kc_J5_length_8abf5 (fun _ => []) false pg_J5_length_8abf5 rfl (by decide +kernel) hp_J5_length_8abf5 ⟨_, _, rfl, rfl⟩ hfl_RJ5 (fun h => nomatch h) (hcs_J5_length_8abf5 hl0) hnw_J5_length_8abf5 hth_J5_length_8abf5 (fun _ _ h => absurd h List.not_mem_nil) hkc_J5_length_8abf5 (fun args w Q X v0 hv0 h => ?_)
  obtain ⟨α, ν, r, rfl, rfl, hQ⟩ := h
  refine ⟨Nat.le_of_ble_eq_true rfl, 20, [], ?_, fun q hq => absurd hq List.not_mem_nil⟩
  (conv => whnf)
  exact hQ
def sp_J4_length_8abf5 : zSpec := sp_J5_length
def fl_RJ4 : List (Nat × Nat × Nat) := []
theorem hfl_RJ4 : ∀ q ∈ fl_RJ4, zFld RJ4 q := zfld_of (ps := []) (by decide +kernel)
def pg_J4_length_8abf5 : List zE := [(0, .aload_n 0, 1, []), (1, .invokespecial 343, 3, []), (4, .ireturn, 1, [])]
theorem hp_J4_length_8abf5 : ∀ q ∈ pg_J4_length_8abf5, decode cJ4_length_8abf5 q.1 = .ok (q.2.1, q.2.2.1) ∧ ztg q.2.1 q.1 q.2.2.1 q.2.2.2 = true := zpg_of (by decide +kernel)
def cs_J4_length_8abf5 : List (Nat × zCall) := [(343, 2, 1, some 0, 0, 0, false, sp_J5_length_8abf5)]
theorem hcs_J4_length_8abf5 {l : Launch} (hl0 : l.stackTraces = false) : ∀ q ∈ cs_J4_length_8abf5, zCallable l RJ4 2 q := List.forall_mem_cons.mpr ⟨zcSU (C := (RJ4, TJ4, 4)) (ps := [798, 857, 165, 799, 20, 800]) (c_J5_length_8abf5 hl0) (by decide +kernel) rfl ⟨by decide +kernel, by decide +kernel⟩ (by decide) (by decide), fun _ h => absurd h List.not_mem_nil⟩
def th_J4_length_8abf5 : List (Nat × String) := []
theorem hth_J4_length_8abf5 : ∀ q ∈ th_J4_length_8abf5, zThrow cJ4_length_8abf5 RJ4 q := fun _ h => absurd h List.not_mem_nil
def kc_J4_length_8abf5 : List (Nat × Int32) := []
theorem hkc_J4_length_8abf5 : ∀ q ∈ kc_J4_length_8abf5, Cond.constant RJ4 q.1 q.2 ∈ zTs := fun _ h => absurd h List.not_mem_nil
def nw_J4_length_8abf5 : List (Nat × Nat × Nat × List Value) := []
theorem hnw_J4_length_8abf5 : ∀ q ∈ nw_J4_length_8abf5, zNew RJ4 q := fun _ h => absurd h List.not_mem_nil
set_option maxHeartbeats 4000000 in
set_option maxRecDepth 20000 in
theorem c_J4_length_8abf5 {l : Launch} (hl0 : l.stackTraces = false) : CT l yJ4_length_8abf5 (.code yJ4_length_8abf5 cJ4_length_8abf5 1 (some .int)) 2 0 0 false sp_J4_length_8abf5 := by
  refine zCT_of hl0 (own := RJ4) fl_RJ4 cs_J4_length_8abf5 nw_J4_length_8abf5 th_J4_length_8abf5 kc_J4_length_8abf5 (fun _ => []) false pg_J4_length_8abf5 rfl (by decide +kernel) hp_J4_length_8abf5 ⟨_, _, rfl, rfl⟩ hfl_RJ4 (fun h => nomatch h) (hcs_J4_length_8abf5 hl0) hnw_J4_length_8abf5 hth_J4_length_8abf5 (fun _ _ h => absurd h List.not_mem_nil) hkc_J4_length_8abf5 (fun args w Q X v0 hv0 h => ?_)
  obtain ⟨α, ν, r, rfl, rfl, hQ⟩ := h
  refine ⟨Nat.le_of_ble_eq_true rfl, 20, [], ?_, fun q hq => absurd hq List.not_mem_nil⟩
  (conv => whnf)
  refine ⟨α, ν, r, rfl, rfl, ?_⟩
  (conv => whnf)
  exact hQ
def sp_J5_isLatin1_aae02 : zSpec := fun args w Q _ => ∃ α ν r, args = [.ref 19] ∧ w = WX α ν r ∧ Q (some (.int 1)) (WX α ν r)
def pg_J5_isLatin1_aae02 : List zE := [(0, .getstatic 18, 3, []), (3, .ifCond .eq 14, 3, [17]), (6, .aload_n 0, 1, []), (7, .getfield 22, 3, []), (10, .ifCond .ne 7, 3, [17]), (13, .iconst 1, 1, [1]), (14, .goto 4, 3, [18]), (17, .iconst 0, 1, [0]), (18, .ireturn, 1, [])]
theorem hp_J5_isLatin1_aae02 : ∀ q ∈ pg_J5_isLatin1_aae02, decode cJ5_isLatin1_aae02 q.1 = .ok (q.2.1, q.2.2.1) ∧ ztg q.2.1 q.1 q.2.2.1 q.2.2.2 = true := zpg_of (by decide +kernel)
def cs_J5_isLatin1_aae02 : List (Nat × zCall) := []
theorem hcs_J5_isLatin1_aae02 {l : Launch} (hl0 : l.stackTraces = false) : ∀ q ∈ cs_J5_isLatin1_aae02, zCallable l RJ5 1 q := fun _ h => absurd h List.not_mem_nil
def th_J5_isLatin1_aae02 : List (Nat × String) := []
theorem hth_J5_isLatin1_aae02 : ∀ q ∈ th_J5_isLatin1_aae02, zThrow cJ5_isLatin1_aae02 RJ5 q := fun _ h => absurd h List.not_mem_nil
def kc_J5_isLatin1_aae02 : List (Nat × Int32) := []
theorem hkc_J5_isLatin1_aae02 : ∀ q ∈ kc_J5_isLatin1_aae02, Cond.constant RJ5 q.1 q.2 ∈ zTs := fun _ h => absurd h List.not_mem_nil
def nw_J5_isLatin1_aae02 : List (Nat × Nat × Nat × List Value) := []
theorem hnw_J5_isLatin1_aae02 : ∀ q ∈ nw_J5_isLatin1_aae02, zNew RJ5 q := fun _ h => absurd h List.not_mem_nil
set_option maxHeartbeats 4000000 in
set_option maxRecDepth 20000 in
theorem c_J5_isLatin1_aae02 {l : Launch} (hl0 : l.stackTraces = false) : CT l yJ5_isLatin1_aae02 (.code yJ5_isLatin1_aae02 cJ5_isLatin1_aae02 1 (some .boolean)) 1 0 0 false sp_J5_isLatin1_aae02 := by
  refine zCT_of hl0 (own := RJ5) fl_RJ5 cs_J5_isLatin1_aae02 nw_J5_isLatin1_aae02 th_J5_isLatin1_aae02 kc_J5_isLatin1_aae02 (fun v0 => [(18, .int 1)]) false pg_J5_isLatin1_aae02 rfl (by decide +kernel) hp_J5_isLatin1_aae02 ⟨_, _, rfl, rfl⟩ hfl_RJ5 (fun h => nomatch h) (hcs_J5_isLatin1_aae02 hl0) hnw_J5_isLatin1_aae02 hth_J5_isLatin1_aae02 (fun v0 => List.forall_mem_cons.mpr ⟨Or.inl ⟨rfl, show Cond.fieldLink RJ5 18 "java/lang/String" "COMPACT_STRINGS" "Z" ∈ zTs from zmem (i := 144) (by decide +kernel) rfl⟩, fun _ h => absurd h List.not_mem_nil⟩) hkc_J5_isLatin1_aae02 (fun args w Q X v0 hv0 h => ?_)
  obtain ⟨α, ν, r, rfl, rfl, hQ⟩ := h
  refine ⟨Nat.le_of_ble_eq_true rfl, 20, [], ?_, fun q hq => absurd hq List.not_mem_nil⟩
  (conv => whnf)
  refine And.intro (fun c => absurd c (show ¬ _ from (by decide))) (fun _ => ?_)
  (conv => whnf)
  refine And.intro (fun _ => ?_) (fun c => absurd (show _ from rfl) c)
  (conv => whnf)
  exact ⟨Or.inr rfl, hQ⟩
theorem pk_ishr0 (x : Int32) : x >>> ((0 : Int32) &&& 31) = x := by
  have h : (0 : Int32) &&& 31 = 0 := by decide
  rw [h]
  apply Int32.toInt_inj.mp
  rw [pk_shr x 0 0 (by decide)]
  simp
def sp_J5_ensureCapacityInternal_d00df : zSpec := fun args w Q _ => ∃ α ν r n, n ≤ 16 ∧ args = [.ref 19, .int (nI n)] ∧ w = WX α ν r ∧ Q none (WX α ν r)
def pg_J5_ensureCapacityInternal_d00df : List zE := [(0, .aload_n 0, 1, []), (1, .getfield 15, 3, []), (4, .arraylength, 1, []), (5, .aload_n 0, 1, []), (6, .getfield 22, 3, []), (9, .ishr, 1, []), (10, .istore_n 2, 1, []), (11, .iload_n 1, 1, []), (12, .iload_n 2, 1, []), (13, .isub, 1, []), (14, .ifCond .le 24, 3, [38]), (17, .aload_n 0, 1, []), (18, .aload_n 0, 1, []), (19, .getfield 15, 3, []), (22, .aload_n 0, 1, []), (23, .iload_n 1, 1, []), (24, .invokevirtual 104, 3, []), (27, .aload_n 0, 1, []), (28, .getfield 22, 3, []), (31, .ishl, 1, []), (32, .invokestatic 108, 3, []), (35, .putfield 15, 3, []), (38, .return_, 1, [])]
theorem hp_J5_ensureCapacityInternal_d00df : ∀ q ∈ pg_J5_ensureCapacityInternal_d00df, decode cJ5_ensureCapacityInternal_d00df q.1 = .ok (q.2.1, q.2.2.1) ∧ ztg q.2.1 q.1 q.2.2.1 q.2.2.2 = true := zpg_of (by decide +kernel)
def cs_J5_ensureCapacityInternal_d00df : List (Nat × zCall) := []
theorem hcs_J5_ensureCapacityInternal_d00df {l : Launch} (hl0 : l.stackTraces = false) : ∀ q ∈ cs_J5_ensureCapacityInternal_d00df, zCallable l RJ5 1 q := fun _ h => absurd h List.not_mem_nil
def th_J5_ensureCapacityInternal_d00df : List (Nat × String) := []
theorem hth_J5_ensureCapacityInternal_d00df : ∀ q ∈ th_J5_ensureCapacityInternal_d00df, zThrow cJ5_ensureCapacityInternal_d00df RJ5 q := fun _ h => absurd h List.not_mem_nil
def kc_J5_ensureCapacityInternal_d00df : List (Nat × Int32) := []
theorem hkc_J5_ensureCapacityInternal_d00df : ∀ q ∈ kc_J5_ensureCapacityInternal_d00df, Cond.constant RJ5 q.1 q.2 ∈ zTs := fun _ h => absurd h List.not_mem_nil
def nw_J5_ensureCapacityInternal_d00df : List (Nat × Nat × Nat × List Value) := []
theorem hnw_J5_ensureCapacityInternal_d00df : ∀ q ∈ nw_J5_ensureCapacityInternal_d00df, zNew RJ5 q := fun _ h => absurd h List.not_mem_nil
set_option maxHeartbeats 4000000 in
set_option maxRecDepth 20000 in
theorem c_J5_ensureCapacityInternal_d00df {l : Launch} (hl0 : l.stackTraces = false) : CT l yJ5_ensureCapacityInternal_d00df (.code yJ5_ensureCapacityInternal_d00df cJ5_ensureCapacityInternal_d00df 3 none) 1 0 0 false sp_J5_ensureCapacityInternal_d00df := by
  refine zCT_of hl0 (own := RJ5) fl_RJ5 cs_J5_ensureCapacityInternal_d00df nw_J5_ensureCapacityInternal_d00df th_J5_ensureCapacityInternal_d00df kc_J5_ensureCapacityInternal_d00df (fun _ => []) false pg_J5_ensureCapacityInternal_d00df rfl (by decide +kernel) hp_J5_ensureCapacityInternal_d00df ⟨_, _, rfl, rfl⟩ hfl_RJ5 (fun h => nomatch h) (hcs_J5_ensureCapacityInternal_d00df hl0) hnw_J5_ensureCapacityInternal_d00df hth_J5_ensureCapacityInternal_d00df (fun _ _ h => absurd h List.not_mem_nil) hkc_J5_ensureCapacityInternal_d00df (fun args w Q X v0 hv0 h => ?_)
  obtain ⟨α, ν, r, n, hn, rfl, rfl, hQ⟩ := h
  refine ⟨Nat.le_of_ble_eq_true rfl, 20, [], ?_, fun q hq => absurd hq List.not_mem_nil⟩
  (conv => whnf)
  dsimp only
  rw [pk_ishr0]
  refine And.intro (fun c => ?_) (fun c => ?_)
  · exfalso
    have c2 : 0 < nI n - nI 16 := c
    have := Int32.lt_iff_toInt_lt.mp c2
    rw [pk_sub_toInt (by omega) (by decide)] at this
    have e : (0 : Int32).toInt = 0 := by decide
    omega
  · (conv => whnf)
    exact hQ
def sp_J5_setLength_d00df : zSpec := fun args w Q _ => ∃ α ν r c, c < 2 ^ 31 ∧ ν 6 = nI c ∧ args = [.ref 19, .int (nI 0)] ∧ w = WX α ν r ∧ ∀ y, Q none (WX α (zu (zu ν 7 y) 6 (nI 0)) r)
def pg_J5_setLength_d00df : List zE := [(0, .iload_n 1, 1, []), (1, .ifCond .ge 12, 3, [13]), (4, .new 129, 3, []), (7, .dup, 1, []), (8, .iload_n 1, 1, []), (9, .invokespecial 131, 3, []), (12, .athrow, 1, []), (13, .aload_n 0, 1, []), (14, .iload_n 1, 1, []), (15, .invokevirtual 100, 3, []), (18, .aload_n 0, 1, []), (19, .getfield 79, 3, []), (22, .iload_n 1, 1, []), (23, .if_icmp .ge 40, 3, [63]), (26, .aload_n 0, 1, []), (27, .invokevirtual 83, 3, []), (30, .ifCond .eq 18, 3, [48]), (33, .aload_n 0, 1, []), (34, .getfield 15, 3, []), (37, .aload_n 0, 1, []), (38, .getfield 79, 3, []), (41, .iload_n 1, 1, []), (42, .invokestatic 133, 3, []), (45, .goto 31, 3, [76]), (48, .aload_n 0, 1, []), (49, .getfield 15, 3, []), (52, .aload_n 0, 1, []), (53, .getfield 79, 3, []), (56, .iload_n 1, 1, []), (57, .invokestatic 137, 3, []), (60, .goto 16, 3, [76]), (63, .aload_n 0, 1, []), (64, .getfield 79, 3, []), (67, .iload_n 1, 1, []), (68, .if_icmp .le 8, 3, [76]), (71, .aload_n 0, 1, []), (72, .iconst 1, 1, [1]), (73, .putfield 73, 3, []), (76, .aload_n 0, 1, []), (77, .iload_n 1, 1, []), (78, .putfield 79, 3, []), (81, .return_, 1, [])]
theorem hp_J5_setLength_d00df : ∀ q ∈ pg_J5_setLength_d00df, decode cJ5_setLength_d00df q.1 = .ok (q.2.1, q.2.2.1) ∧ ztg q.2.1 q.1 q.2.2.1 q.2.2.2 = true := zpg_of (by decide +kernel)
def cs_J5_setLength_d00df : List (Nat × zCall) := [(100, 0, 2, some 0, 0, 0, false, sp_J5_ensureCapacityInternal_d00df), (83, 0, 1, some 0, 0, 0, false, sp_J5_isLatin1_aae02)]
theorem hcs_J5_setLength_d00df {l : Launch} (hl0 : l.stackTraces = false) : ∀ q ∈ cs_J5_setLength_d00df, zCallable l RJ5 2 q := List.forall_mem_cons.mpr ⟨zcUP (C := (RJ4, TJ4, 4)) (ps := [651, 852, 653, 20, 654]) (c_J5_ensureCapacityInternal_d00df hl0) (by decide +kernel) rfl zXs_mem ⟨by decide +kernel, by decide +kernel, by decide +kernel⟩ (by decide) (by decide), List.forall_mem_cons.mpr ⟨zcU (C := (RJ4, TJ4, 4)) (x := yJ5_isLatin1_aae02) (owner := RJ5) (ps := [684, 686, 687, 685, 20, 688]) (c_J5_isLatin1_aae02 hl0) (by decide +kernel) rfl rfl ⟨by decide +kernel, by decide +kernel, by decide +kernel⟩ (by decide) (by decide), fun _ h => absurd h List.not_mem_nil⟩⟩
def th_J5_setLength_d00df : List (Nat × String) := []
theorem hth_J5_setLength_d00df : ∀ q ∈ th_J5_setLength_d00df, zThrow cJ5_setLength_d00df RJ5 q := fun _ h => absurd h List.not_mem_nil
def kc_J5_setLength_d00df : List (Nat × Int32) := []
theorem hkc_J5_setLength_d00df : ∀ q ∈ kc_J5_setLength_d00df, Cond.constant RJ5 q.1 q.2 ∈ zTs := fun _ h => absurd h List.not_mem_nil
def nw_J5_setLength_d00df : List (Nat × Nat × Nat × List Value) := []
theorem hnw_J5_setLength_d00df : ∀ q ∈ nw_J5_setLength_d00df, zNew RJ5 q := fun _ h => absurd h List.not_mem_nil
set_option maxHeartbeats 4000000 in
set_option maxRecDepth 20000 in
theorem c_J5_setLength_d00df {l : Launch} (hl0 : l.stackTraces = false) : CT l yJ5_setLength_d00df (.code yJ5_setLength_d00df cJ5_setLength_d00df 2 none) 2 0 0 false sp_J5_setLength_d00df := by
  refine zCT_of hl0 (own := RJ5) fl_RJ5 cs_J5_setLength_d00df nw_J5_setLength_d00df th_J5_setLength_d00df kc_J5_setLength_d00df (fun _ => []) false pg_J5_setLength_d00df rfl (by decide +kernel) hp_J5_setLength_d00df ⟨_, _, rfl, rfl⟩ hfl_RJ5 (fun h => nomatch h) (hcs_J5_setLength_d00df hl0) hnw_J5_setLength_d00df hth_J5_setLength_d00df (fun _ _ h => absurd h List.not_mem_nil) hkc_J5_setLength_d00df (fun args w Q X v0 hv0 h => ?_)
  obtain ⟨α, ν, r, c, hc, hν, rfl, rfl, hQ⟩ := h
  refine ⟨Nat.le_of_ble_eq_true rfl, 60, [], ?_, fun q hq => absurd hq List.not_mem_nil⟩
  (conv => whnf)
  refine And.intro (fun c => absurd c (show ¬ _ from (by decide))) (fun _ => ?_)
  (conv => whnf)
  refine ⟨α, ν, r, 0, by omega, rfl, rfl, ?_⟩
  (conv => whnf)
  rw [hν]
  refine And.intro (fun c => absurd c (show ¬ _ from (nI_pos hc))) (fun _ => ?_)
  (conv => whnf)
  rw [hν]
  refine And.intro (fun d => ?_) (fun d => ?_)
  · (conv => whnf)
    refine ⟨rfl, rfl, ?_⟩
    (conv => whnf)
    exact hQ 1
  · (conv => whnf)
    exact hQ (ν 7)
def sp_J4_setLength_d00df : zSpec := sp_J5_setLength_d00df
def pg_J4_setLength_d00df : List zE := [(0, .aload_n 0, 1, []), (1, .iload_n 1, 1, []), (2, .invokespecial 333, 3, []), (5, .return_, 1, [])]
theorem hp_J4_setLength_d00df : ∀ q ∈ pg_J4_setLength_d00df, decode cJ4_setLength_d00df q.1 = .ok (q.2.1, q.2.2.1) ∧ ztg q.2.1 q.1 q.2.2.1 q.2.2.2 = true := zpg_of (by decide +kernel)
def cs_J4_setLength_d00df : List (Nat × zCall) := [(333, 2, 2, some 0, 0, 0, false, sp_J5_setLength_d00df)]
theorem hcs_J4_setLength_d00df {l : Launch} (hl0 : l.stackTraces = false) : ∀ q ∈ cs_J4_setLength_d00df, zCallable l RJ4 3 q := List.forall_mem_cons.mpr ⟨zcSU (C := (RJ4, TJ4, 4)) (ps := [648, 851, 165, 649, 20, 650]) (c_J5_setLength_d00df hl0) (by decide +kernel) rfl ⟨by decide +kernel, by decide +kernel⟩ (by decide) (by decide), fun _ h => absurd h List.not_mem_nil⟩
def th_J4_setLength_d00df : List (Nat × String) := []
theorem hth_J4_setLength_d00df : ∀ q ∈ th_J4_setLength_d00df, zThrow cJ4_setLength_d00df RJ4 q := fun _ h => absurd h List.not_mem_nil
def kc_J4_setLength_d00df : List (Nat × Int32) := []
theorem hkc_J4_setLength_d00df : ∀ q ∈ kc_J4_setLength_d00df, Cond.constant RJ4 q.1 q.2 ∈ zTs := fun _ h => absurd h List.not_mem_nil
def nw_J4_setLength_d00df : List (Nat × Nat × Nat × List Value) := []
theorem hnw_J4_setLength_d00df : ∀ q ∈ nw_J4_setLength_d00df, zNew RJ4 q := fun _ h => absurd h List.not_mem_nil
set_option maxHeartbeats 4000000 in
set_option maxRecDepth 20000 in
theorem c_J4_setLength_d00df {l : Launch} (hl0 : l.stackTraces = false) : CT l yJ4_setLength_d00df (.code yJ4_setLength_d00df cJ4_setLength_d00df 2 none) 3 0 0 false sp_J4_setLength_d00df := by
  refine zCT_of hl0 (own := RJ4) fl_RJ4 cs_J4_setLength_d00df nw_J4_setLength_d00df th_J4_setLength_d00df kc_J4_setLength_d00df (fun _ => []) false pg_J4_setLength_d00df rfl (by decide +kernel) hp_J4_setLength_d00df ⟨_, _, rfl, rfl⟩ hfl_RJ4 (fun h => nomatch h) (hcs_J4_setLength_d00df hl0) hnw_J4_setLength_d00df hth_J4_setLength_d00df (fun _ _ h => absurd h List.not_mem_nil) hkc_J4_setLength_d00df (fun args w Q X v0 hv0 h => ?_)
  obtain ⟨α, ν, r, c, hc, hν, rfl, rfl, hQ⟩ := h
  refine ⟨Nat.le_of_ble_eq_true rfl, 20, [], ?_, fun q hq => absurd hq List.not_mem_nil⟩
  (conv => whnf)
  refine ⟨α, ν, r, c, hc, hν, rfl, rfl, fun y => ?_⟩
  (conv => whnf)
  exact hQ y
def sp_J1_canEncode_fc78d : zSpec := fun args w Q _ => ∃ x, x < 128 ∧ args = [.int (nI x)] ∧ Q (some (.int 1)) w
def fl_RJ1 : List (Nat × Nat × Nat) := []
theorem hfl_RJ1 : ∀ q ∈ fl_RJ1, zFld RJ1 q := zfld_of (ps := []) (by decide +kernel)
def pg_J1_canEncode_fc78d : List zE := [(0, .iload_n 0, 1, []), (1, .sipush 255, 3, [255]), (4, .if_icmp .gt 7, 3, [11]), (7, .iconst 1, 1, [1]), (8, .goto 4, 3, [12]), (11, .iconst 0, 1, [0]), (12, .ireturn, 1, [])]
theorem hp_J1_canEncode_fc78d : ∀ q ∈ pg_J1_canEncode_fc78d, decode cJ1_canEncode_fc78d q.1 = .ok (q.2.1, q.2.2.1) ∧ ztg q.2.1 q.1 q.2.2.1 q.2.2.2 = true := zpg_of (by decide +kernel)
def cs_J1_canEncode_fc78d : List (Nat × zCall) := []
theorem hcs_J1_canEncode_fc78d {l : Launch} (hl0 : l.stackTraces = false) : ∀ q ∈ cs_J1_canEncode_fc78d, zCallable l RJ1 1 q := fun _ h => absurd h List.not_mem_nil
def th_J1_canEncode_fc78d : List (Nat × String) := []
theorem hth_J1_canEncode_fc78d : ∀ q ∈ th_J1_canEncode_fc78d, zThrow cJ1_canEncode_fc78d RJ1 q := fun _ h => absurd h List.not_mem_nil
def kc_J1_canEncode_fc78d : List (Nat × Int32) := []
theorem hkc_J1_canEncode_fc78d : ∀ q ∈ kc_J1_canEncode_fc78d, Cond.constant RJ1 q.1 q.2 ∈ zTs := fun _ h => absurd h List.not_mem_nil
def nw_J1_canEncode_fc78d : List (Nat × Nat × Nat × List Value) := []
theorem hnw_J1_canEncode_fc78d : ∀ q ∈ nw_J1_canEncode_fc78d, zNew RJ1 q := fun _ h => absurd h List.not_mem_nil
set_option maxHeartbeats 4000000 in
set_option maxRecDepth 20000 in
theorem c_J1_canEncode_fc78d {l : Launch} (hl0 : l.stackTraces = false) : CT l yJ1_canEncode_fc78d (.code yJ1_canEncode_fc78d cJ1_canEncode_fc78d 1 (some .boolean)) 1 0 0 false sp_J1_canEncode_fc78d := by
  refine zCT_of hl0 (own := RJ1) fl_RJ1 cs_J1_canEncode_fc78d nw_J1_canEncode_fc78d th_J1_canEncode_fc78d kc_J1_canEncode_fc78d (fun _ => []) false pg_J1_canEncode_fc78d rfl (by decide +kernel) hp_J1_canEncode_fc78d ⟨_, _, rfl, rfl⟩ hfl_RJ1 (fun h => nomatch h) (hcs_J1_canEncode_fc78d hl0) hnw_J1_canEncode_fc78d hth_J1_canEncode_fc78d (fun _ _ h => absurd h List.not_mem_nil) hkc_J1_canEncode_fc78d (fun args w Q X v0 hv0 h => ?_)
  obtain ⟨x, hx, rfl, hQ⟩ := h
  refine ⟨Nat.le_of_ble_eq_true rfl, 20, [], ?_, fun q hq => absurd hq List.not_mem_nil⟩
  (conv => whnf)
  refine And.intro (fun c => absurd c (show ¬ _ from (nI_nlt (show x ≤ 255 by omega) (by omega)))) (fun _ => ?_)
  (conv => whnf)
  exact ⟨Or.inr rfl, hQ⟩
theorem pk_b7 {x : Nat} (hx : x < 128) : vp_nar .byte (nI x).toInt8.toInt32 = nI x := by
  have h : ∀ y : Fin 128, vp_nar .byte (nI y.val).toInt8.toInt32 = nI y.val := by decide +kernel
  exact h ⟨x, hx⟩
theorem pk_b8 {x : Nat} (hx : x < 128) : vp_nar .byte (nI x) = nI x := by
  have h : ∀ y : Fin 128, vp_nar .byte (nI y.val) = nI y.val := by decide +kernel
  exact h ⟨x, hx⟩
theorem pk_c7 {x : Nat} (hx : x < 128) : ((nI x &&& nI 255).toUInt32 % 65536).toInt32 = nI x := by
  have h : ∀ y : Fin 128, ((nI y.val &&& nI 255).toUInt32 % 65536).toInt32 = nI y.val := by decide +kernel
  exact h ⟨x, hx⟩
def sp_J5_append_3fe6f : zSpec := fun args w Q _ => ∃ α ν r c x, c < 16 ∧ ν 6 = nI c ∧ x < 128 ∧ args = [.ref 19, .int (nI x)] ∧ w = WX α ν r ∧ Q (some (.ref 19)) (WX (zu α 14 (zwr (α 14) c [x])) (zu ν 6 (nI (c + 1))) r)
def pg_J5_append_3fe6f : List zE := [(0, .aload_n 0, 1, []), (1, .aload_n 0, 1, []), (2, .getfield 79, 3, []), (5, .iconst 1, 1, [1]), (6, .iadd, 1, []), (7, .invokevirtual 100, 3, []), (10, .aload_n 0, 1, []), (11, .invokevirtual 83, 3, []), (14, .ifCond .eq 31, 3, [45]), (17, .iload_n 1, 1, []), (18, .invokestatic 191, 3, []), (21, .ifCond .eq 24, 3, [45]), (24, .aload_n 0, 1, []), (25, .getfield 15, 3, []), (28, .aload_n 0, 1, []), (29, .dup, 1, []), (30, .getfield 79, 3, []), (33, .dup_x1, 1, []), (34, .iconst 1, 1, [1]), (35, .iadd, 1, []), (36, .putfield 79, 3, []), (39, .iload_n 1, 1, []), (40, .i2b, 1, []), (41, .bastore, 1, []), (42, .goto 33, 3, [75]), (45, .aload_n 0, 1, []), (46, .invokevirtual 83, 3, []), (49, .ifCond .eq 7, 3, [56]), (52, .aload_n 0, 1, []), (53, .invokevirtual 195, 3, []), (56, .aload_n 0, 1, []), (57, .getfield 15, 3, []), (60, .aload_n 0, 1, []), (61, .dup, 1, []), (62, .getfield 79, 3, []), (65, .dup_x1, 1, []), (66, .iconst 1, 1, [1]), (67, .iadd, 1, []), (68, .putfield 79, 3, []), (71, .iload_n 1, 1, []), (72, .invokestatic 197, 3, []), (75, .aload_n 0, 1, []), (76, .areturn, 1, [])]
theorem hp_J5_append_3fe6f : ∀ q ∈ pg_J5_append_3fe6f, decode cJ5_append_3fe6f q.1 = .ok (q.2.1, q.2.2.1) ∧ ztg q.2.1 q.1 q.2.2.1 q.2.2.2 = true := zpg_of (by decide +kernel)
def cs_J5_append_3fe6f : List (Nat × zCall) := [(100, 0, 2, some 0, 0, 0, false, sp_J5_ensureCapacityInternal_d00df), (83, 0, 1, some 0, 0, 0, false, sp_J5_isLatin1_aae02), (191, 1, 1, none, 0, 0, false, sp_J1_canEncode_fc78d)]
theorem hcs_J5_append_3fe6f {l : Launch} (hl0 : l.stackTraces = false) : ∀ q ∈ cs_J5_append_3fe6f, zCallable l RJ5 2 q := List.forall_mem_cons.mpr ⟨zcUP (C := (RJ4, TJ4, 4)) (ps := [651, 852, 653, 20, 654]) (c_J5_ensureCapacityInternal_d00df hl0) (by decide +kernel) rfl zXs_mem ⟨by decide +kernel, by decide +kernel, by decide +kernel⟩ (by decide) (by decide), List.forall_mem_cons.mpr ⟨zcU (C := (RJ4, TJ4, 4)) (x := yJ5_isLatin1_aae02) (owner := RJ5) (ps := [684, 686, 687, 685, 20, 688]) (c_J5_isLatin1_aae02 hl0) (by decide +kernel) rfl rfl ⟨by decide +kernel, by decide +kernel, by decide +kernel⟩ (by decide) (by decide), List.forall_mem_cons.mpr ⟨zcS (ps := [712, 713, 33, 714]) (c_J1_canEncode_fc78d hl0) (by decide +kernel) ⟨by decide +kernel, by decide +kernel, by decide +kernel⟩ (by decide) (by decide), fun _ h => absurd h List.not_mem_nil⟩⟩⟩
def th_J5_append_3fe6f : List (Nat × String) := []
theorem hth_J5_append_3fe6f : ∀ q ∈ th_J5_append_3fe6f, zThrow cJ5_append_3fe6f RJ5 q := fun _ h => absurd h List.not_mem_nil
def kc_J5_append_3fe6f : List (Nat × Int32) := []
theorem hkc_J5_append_3fe6f : ∀ q ∈ kc_J5_append_3fe6f, Cond.constant RJ5 q.1 q.2 ∈ zTs := fun _ h => absurd h List.not_mem_nil
def nw_J5_append_3fe6f : List (Nat × Nat × Nat × List Value) := []
theorem hnw_J5_append_3fe6f : ∀ q ∈ nw_J5_append_3fe6f, zNew RJ5 q := fun _ h => absurd h List.not_mem_nil
set_option maxHeartbeats 4000000 in
set_option maxRecDepth 20000 in
theorem c_J5_append_3fe6f {l : Launch} (hl0 : l.stackTraces = false) : CT l yJ5_append_3fe6f (.code yJ5_append_3fe6f cJ5_append_3fe6f 2 (some (.object "java/lang/AbstractStringBuilder"))) 2 0 0 false sp_J5_append_3fe6f := by
  refine zCT_of hl0 (own := RJ5) fl_RJ5 cs_J5_append_3fe6f nw_J5_append_3fe6f th_J5_append_3fe6f kc_J5_append_3fe6f (fun _ => []) false pg_J5_append_3fe6f rfl (by decide +kernel) hp_J5_append_3fe6f ⟨_, _, rfl, rfl⟩ hfl_RJ5 (fun h => nomatch h) (hcs_J5_append_3fe6f hl0) hnw_J5_append_3fe6f hth_J5_append_3fe6f (fun _ _ h => absurd h List.not_mem_nil) hkc_J5_append_3fe6f (fun args w Q X v0 hv0 h => ?_)
  obtain ⟨α, ν, r, c, x, hc, hν, hx, rfl, rfl, hQ⟩ := h
  refine ⟨Nat.le_of_ble_eq_true rfl, 60, [], ?_, fun q hq => absurd hq List.not_mem_nil⟩
  (conv => whnf)
  refine ⟨α, ν, r, c + 1, by omega, by rw [hν, ← nI_add]; rfl, rfl, ?_⟩
  (conv => whnf)
  refine ⟨α, ν, r, rfl, rfl, ?_⟩
  (conv => whnf)
  refine And.intro (fun c => absurd c (show ¬ _ from (by decide))) (fun _ => ?_)
  (conv => whnf)
  refine ⟨x, hx, rfl, ?_⟩
  (conv => whnf)
  refine And.intro (fun c => absurd c (show ¬ _ from (by decide))) (fun _ => ?_)
  (conv => whnf)
  rw [hν]
  refine ⟨vp_in_nI hc (by decide), ?_⟩
  (conv => whnf)
  rw [nI_clamp (by omega), pk_b7 hx]
  dsimp only [zkon]
  rw [nI_add]
  exact hQ
def sp_J4_append_cf468 : zSpec := sp_J5_append_3fe6f
def pg_J4_append_cf468 : List zE := [(0, .aload_n 0, 1, []), (1, .iload_n 1, 1, []), (2, .invokespecial 50, 3, []), (5, .pop, 1, []), (6, .aload_n 0, 1, []), (7, .areturn, 1, [])]
theorem hp_J4_append_cf468 : ∀ q ∈ pg_J4_append_cf468, decode cJ4_append_cf468 q.1 = .ok (q.2.1, q.2.2.1) ∧ ztg q.2.1 q.1 q.2.2.1 q.2.2.2 = true := zpg_of (by decide +kernel)
def cs_J4_append_cf468 : List (Nat × zCall) := [(50, 2, 2, some 0, 0, 0, false, sp_J5_append_3fe6f)]
theorem hcs_J4_append_cf468 {l : Launch} (hl0 : l.stackTraces = false) : ∀ q ∈ cs_J4_append_cf468, zCallable l RJ4 3 q := List.forall_mem_cons.mpr ⟨zcSU (C := (RJ4, TJ4, 4)) (ps := [709, 854, 165, 710, 20, 711]) (c_J5_append_3fe6f hl0) (by decide +kernel) rfl ⟨by decide +kernel, by decide +kernel⟩ (by decide) (by decide), fun _ h => absurd h List.not_mem_nil⟩
def th_J4_append_cf468 : List (Nat × String) := []
theorem hth_J4_append_cf468 : ∀ q ∈ th_J4_append_cf468, zThrow cJ4_append_cf468 RJ4 q := fun _ h => absurd h List.not_mem_nil
def kc_J4_append_cf468 : List (Nat × Int32) := []
theorem hkc_J4_append_cf468 : ∀ q ∈ kc_J4_append_cf468, Cond.constant RJ4 q.1 q.2 ∈ zTs := fun _ h => absurd h List.not_mem_nil
def nw_J4_append_cf468 : List (Nat × Nat × Nat × List Value) := []
theorem hnw_J4_append_cf468 : ∀ q ∈ nw_J4_append_cf468, zNew RJ4 q := fun _ h => absurd h List.not_mem_nil
set_option maxHeartbeats 4000000 in
set_option maxRecDepth 20000 in
theorem c_J4_append_cf468 {l : Launch} (hl0 : l.stackTraces = false) : CT l yJ4_append_cf468 (.code yJ4_append_cf468 cJ4_append_cf468 2 (some (.object "java/lang/StringBuilder"))) 3 0 0 false sp_J4_append_cf468 := by
  refine zCT_of hl0 (own := RJ4) fl_RJ4 cs_J4_append_cf468 nw_J4_append_cf468 th_J4_append_cf468 kc_J4_append_cf468 (fun _ => []) false pg_J4_append_cf468 rfl (by decide +kernel) hp_J4_append_cf468 ⟨_, _, rfl, rfl⟩ hfl_RJ4 (fun h => nomatch h) (hcs_J4_append_cf468 hl0) hnw_J4_append_cf468 hth_J4_append_cf468 (fun _ _ h => absurd h List.not_mem_nil) hkc_J4_append_cf468 (fun args w Q X v0 hv0 h => ?_)
  obtain ⟨α, ν, r, c, x, hc, hν, hx, rfl, rfl, hQ⟩ := h
  refine ⟨Nat.le_of_ble_eq_true rfl, 20, [], ?_, fun q hq => absurd hq List.not_mem_nil⟩
  (conv => whnf)
  refine ⟨α, ν, r, c, x, hc, hν, hx, rfl, rfl, ?_⟩
  (conv => whnf)
  exact hQ
def sp_J6_stringSize_0f7a4 : zSpec := fun args w Q _ => ∃ n, n < 100 ∧ args = [.int (nI n)] ∧ Q (some (.int (nI (zdg n).length))) w
theorem pk_neg {n : Nat} (hn : n < 2 ^ 30) : (-nI n).toInt = -(n : Int) := by
  have h := pk_sub_toInt (a := 0) (b := n) (by decide) hn
  rw [show nI 0 - nI n = -nI n by rw [Int32.sub_eq_add_neg, show nI 0 = 0 from nI_0, Int32.zero_add]] at h
  omega
theorem pk_neglt {a b : Nat} (ha : a < 2 ^ 30) (hb : b < 2 ^ 30) : -nI a < -nI b ↔ b < a := by
  rw [Int32.lt_iff_toInt_lt, pk_neg ha, pk_neg hb]
  omega
theorem zdg_1 {n : Nat} (h : n < 10) : zdg n = [48 + n] := if_pos h
theorem zdg_2 {n : Nat} (h : ¬ n < 10) : zdg n = [48 + n / 10, 48 + n % 10] := if_neg h
def fl_RJ6 : List (Nat × Nat × Nat) := []
theorem hfl_RJ6 : ∀ q ∈ fl_RJ6, zFld RJ6 q := zfld_of (ps := []) (by decide +kernel)
def pg_J6_stringSize_0f7a4 : List zE := [(0, .iconst 1, 1, [1]), (1, .istore_n 1, 1, []), (2, .iload_n 0, 1, []), (3, .ifCond .lt 8, 3, [11]), (6, .iconst 0, 1, [0]), (7, .istore_n 1, 1, []), (8, .iload_n 0, 1, []), (9, .ineg, 1, []), (10, .istore_n 0, 1, []), (11, .bipush (-10), 2, [0, 10]), (13, .istore_n 2, 1, []), (14, .iconst 1, 1, [1]), (15, .istore_n 3, 1, []), (16, .iload_n 3, 1, []), (17, .bipush 10, 2, [10]), (19, .if_icmp .ge 23, 3, [42]), (22, .iload_n 0, 1, []), (23, .iload_n 2, 1, []), (24, .if_icmp .le 7, 3, [31]), (27, .iload_n 3, 1, []), (28, .iload_n 1, 1, []), (29, .iadd, 1, []), (30, .ireturn, 1, []), (31, .bipush 10, 2, [10]), (33, .iload_n 2, 1, []), (34, .imul, 1, []), (35, .istore_n 2, 1, []), (36, .iinc 3 1, 3, [1]), (39, .goto (-23), 3, [16]), (42, .bipush 10, 2, [10]), (44, .iload_n 1, 1, []), (45, .iadd, 1, []), (46, .ireturn, 1, [])]
theorem hp_J6_stringSize_0f7a4 : ∀ q ∈ pg_J6_stringSize_0f7a4, decode cJ6_stringSize_0f7a4 q.1 = .ok (q.2.1, q.2.2.1) ∧ ztg q.2.1 q.1 q.2.2.1 q.2.2.2 = true := zpg_of (by decide +kernel)
def cs_J6_stringSize_0f7a4 : List (Nat × zCall) := []
theorem hcs_J6_stringSize_0f7a4 {l : Launch} (hl0 : l.stackTraces = false) : ∀ q ∈ cs_J6_stringSize_0f7a4, zCallable l RJ6 1 q := fun _ h => absurd h List.not_mem_nil
def th_J6_stringSize_0f7a4 : List (Nat × String) := []
theorem hth_J6_stringSize_0f7a4 : ∀ q ∈ th_J6_stringSize_0f7a4, zThrow cJ6_stringSize_0f7a4 RJ6 q := fun _ h => absurd h List.not_mem_nil
def kc_J6_stringSize_0f7a4 : List (Nat × Int32) := []
theorem hkc_J6_stringSize_0f7a4 : ∀ q ∈ kc_J6_stringSize_0f7a4, Cond.constant RJ6 q.1 q.2 ∈ zTs := fun _ h => absurd h List.not_mem_nil
def nw_J6_stringSize_0f7a4 : List (Nat × Nat × Nat × List Value) := []
theorem hnw_J6_stringSize_0f7a4 : ∀ q ∈ nw_J6_stringSize_0f7a4, zNew RJ6 q := fun _ h => absurd h List.not_mem_nil
set_option maxHeartbeats 4000000 in
set_option maxRecDepth 20000 in
theorem c_J6_stringSize_0f7a4 {l : Launch} (hl0 : l.stackTraces = false) : CT l yJ6_stringSize_0f7a4 (.code yJ6_stringSize_0f7a4 cJ6_stringSize_0f7a4 4 (some .int)) 1 0 0 false sp_J6_stringSize_0f7a4 := by
  refine zCT_of hl0 (own := RJ6) fl_RJ6 cs_J6_stringSize_0f7a4 nw_J6_stringSize_0f7a4 th_J6_stringSize_0f7a4 kc_J6_stringSize_0f7a4 (fun _ => []) false pg_J6_stringSize_0f7a4 rfl (by decide +kernel) hp_J6_stringSize_0f7a4 ⟨_, _, rfl, rfl⟩ hfl_RJ6 (fun h => nomatch h) (hcs_J6_stringSize_0f7a4 hl0) hnw_J6_stringSize_0f7a4 hth_J6_stringSize_0f7a4 (fun _ _ h => absurd h List.not_mem_nil) hkc_J6_stringSize_0f7a4 (fun args w Q X v0 hv0 h => ?_)
  obtain ⟨n, hn, rfl, hQ⟩ := h
  refine ⟨Nat.le_of_ble_eq_true rfl, 60, [(16, fun m L S w' cu su => ∃ i, zsub [(0, .int (-nI n)), (1, .int (nI 0)), (2, .int (-nI (10 ^ i))), (3, .int (nI i))] L ∧ S = [] ∧ w' = w ∧ (i = 1 ∨ i = 2 ∧ ¬ n < 10) ∧ m = 3 - i ∧ cu = 0 ∧ su = 0)], ?_, zone ?_⟩
  · (conv => whnf)
    refine And.intro (fun c => absurd c (show ¬ _ from (nI_pos (show n < 2 ^ 31 by omega)))) (fun _ => ?_)
    (conv => whnf)
    exact ⟨2, 1, ⟨rfl, rfl, rfl, rfl, trivial⟩, rfl, rfl, Or.inl rfl, rfl, rfl, rfl⟩
  · rintro m L S w' cu su ⟨i, hL, rfl, rfl, hi, rfl, rfl, rfl⟩
    refine ⟨_, hL, ?_⟩
    rcases hi with rfl | ⟨rfl, hi⟩
    · (conv => whnf)
      refine And.intro (fun _ => ?_) (fun c => absurd (show _ from (by decide)) c)
      (conv => whnf)
      refine And.intro (fun c => ?_) (fun c => ?_)
      · have c2 : n < 10 := (pk_neglt (a := 10) (b := n) (by decide) (by omega)).mp c
        (conv => whnf)
        rw [zdg_1 c2] at hQ
        exact hQ
      · have c2 : ¬ n < 10 := fun h => c ((pk_neglt (a := 10) (b := n) (by decide) (by omega)).mpr h)
        (conv => whnf)
        exact ⟨1, by omega, 2, ⟨rfl, rfl, congrArg (fun x => some (Value.int x)) (show nI 10 * -nI 10 = -nI (10 ^ 2) by decide), zi1 rfl, trivial⟩, rfl, rfl, Or.inr ⟨rfl, c2⟩, rfl, rfl, rfl⟩
    · (conv => whnf)
      refine And.intro (fun _ => ?_) (fun c => absurd (show _ from (by decide)) c)
      (conv => whnf)
      refine And.intro (fun _ => ?_) (fun c => absurd (show _ from ((pk_neglt (a := 100) (b := n) (by decide) (by omega)).mpr hn)) c)
      (conv => whnf)
      rw [zdg_2 hi] at hQ
      exact hQ
/-- what getChars writes ahead of place e -/
def sp_J6_getChars_ba4f3 : zSpec := fun args w Q _ => ∃ α ν r n c, n < 100 ∧ c + (zdg n).length ≤ 16 ∧ args = [.int (nI n), .int (nI (c + (zdg n).length)), .ref 20] ∧ w = WX α ν r ∧ Q (some (.int (nI c))) (WX (zu α 14 (zwr (α 14) c (zdg n))) ν r)
theorem pk_negneg (x : Int32) : - -x = x := Int32.neg_neg
theorem pk_neg2 (n : Nat) : ((fun x : Int32 => -x) (-nI n)) = nI n := pk_negneg _
theorem upd_comm (f : Nat → Int32) {a b : Nat} (h : a ≠ b) (x y : Int32) : upd (upd f a x) b y = upd (upd f b y) a x := by
  funext j
  unfold upd
  by_cases h1 : j = a
  · subst h1
    simp [h]
  · by_cases h2 : j = b
    · simp [h1, h2]
      intro e; omega
    · simp [h1, h2]
def pg_J6_getChars_ba4f3 : List zE := [(0, .iload_n 1, 1, []), (1, .istore 5, 2, []), (3, .iload_n 0, 1, []), (4, .ifCond .ge 7, 3, [11]), (7, .iconst 1, 1, [1]), (8, .goto 4, 3, [12]), (11, .iconst 0, 1, [0]), (12, .istore 6, 2, []), (14, .iload 6, 2, []), (16, .ifCond .ne 6, 3, [22]), (19, .iload_n 0, 1, []), (20, .ineg, 1, []), (21, .istore_n 0, 1, []), (22, .iload_n 0, 1, []), (23, .bipush (-100), 2, [0, 100]), (25, .if_icmp .gt 47, 3, [72]), (28, .iload_n 0, 1, []), (29, .bipush 100, 2, [100]), (31, .idiv, 1, []), (32, .istore_n 3, 1, []), (33, .iload_n 3, 1, []), (34, .bipush 100, 2, [100]), (36, .imul, 1, []), (37, .iload_n 0, 1, []), (38, .isub, 1, []), (39, .istore 4, 2, []), (41, .iload_n 3, 1, []), (42, .istore_n 0, 1, []), (43, .aload_n 2, 1, []), (44, .iinc 5 (-1), 3, []), (47, .iload 5, 2, []), (49, .getstatic 83, 3, []), (52, .iload 4, 2, []), (54, .baload, 1, []), (55, .bastore, 1, []), (56, .aload_n 2, 1, []), (57, .iinc 5 (-1), 3, []), (60, .iload 5, 2, []), (62, .getstatic 87, 3, []), (65, .iload 4, 2, []), (67, .baload, 1, []), (68, .bastore, 1, []), (69, .goto (-47), 3, [22]), (72, .aload_n 2, 1, []), (73, .iinc 5 (-1), 3, []), (76, .iload 5, 2, []), (78, .getstatic 83, 3, []), (81, .iload_n 0, 1, []), (82, .ineg, 1, []), (83, .baload, 1, []), (84, .bastore, 1, []), (85, .iload_n 0, 1, []), (86, .bipush (-9), 2, [0, 9]), (88, .if_icmp .ge 16, 3, [104]), (91, .aload_n 2, 1, []), (92, .iinc 5 (-1), 3, []), (95, .iload 5, 2, []), (97, .getstatic 87, 3, []), (100, .iload_n 0, 1, []), (101, .ineg, 1, []), (102, .baload, 1, []), (103, .bastore, 1, []), (104, .iload 6, 2, []), (106, .ifCond .eq 12, 3, [118]), (109, .aload_n 2, 1, []), (110, .iinc 5 (-1), 3, []), (113, .iload 5, 2, []), (115, .bipush 45, 2, [45]), (117, .bastore, 1, []), (118, .iload 5, 2, []), (120, .ireturn, 1, [])]
theorem hp_J6_getChars_ba4f3 : ∀ q ∈ pg_J6_getChars_ba4f3, decode cJ6_getChars_ba4f3 q.1 = .ok (q.2.1, q.2.2.1) ∧ ztg q.2.1 q.1 q.2.2.1 q.2.2.2 = true := zpg_of (by decide +kernel)
def cs_J6_getChars_ba4f3 : List (Nat × zCall) := []
theorem hcs_J6_getChars_ba4f3 {l : Launch} (hl0 : l.stackTraces = false) : ∀ q ∈ cs_J6_getChars_ba4f3, zCallable l RJ6 1 q := fun _ h => absurd h List.not_mem_nil
def th_J6_getChars_ba4f3 : List (Nat × String) := []
theorem hth_J6_getChars_ba4f3 : ∀ q ∈ th_J6_getChars_ba4f3, zThrow cJ6_getChars_ba4f3 RJ6 q := fun _ h => absurd h List.not_mem_nil
def kc_J6_getChars_ba4f3 : List (Nat × Int32) := []
theorem hkc_J6_getChars_ba4f3 : ∀ q ∈ kc_J6_getChars_ba4f3, Cond.constant RJ6 q.1 q.2 ∈ zTs := fun _ h => absurd h List.not_mem_nil
def nw_J6_getChars_ba4f3 : List (Nat × Nat × Nat × List Value) := []
theorem hnw_J6_getChars_ba4f3 : ∀ q ∈ nw_J6_getChars_ba4f3, zNew RJ6 q := fun _ h => absurd h List.not_mem_nil
set_option maxHeartbeats 4000000 in
set_option maxRecDepth 20000 in
theorem c_J6_getChars_ba4f3 {l : Launch} (hl0 : l.stackTraces = false) : CT l yJ6_getChars_ba4f3 (.code yJ6_getChars_ba4f3 cJ6_getChars_ba4f3 7 (some .int)) 1 0 0 false sp_J6_getChars_ba4f3 := by
  refine zCT_of hl0 (own := RJ6) fl_RJ6 cs_J6_getChars_ba4f3 nw_J6_getChars_ba4f3 th_J6_getChars_ba4f3 kc_J6_getChars_ba4f3 (fun v0 => [(83, .ref 1002), (87, .ref 1003)]) false pg_J6_getChars_ba4f3 rfl (by decide +kernel) hp_J6_getChars_ba4f3 ⟨_, _, rfl, rfl⟩ hfl_RJ6 (fun h => nomatch h) (hcs_J6_getChars_ba4f3 hl0) hnw_J6_getChars_ba4f3 hth_J6_getChars_ba4f3 (fun v0 => List.forall_mem_cons.mpr ⟨Or.inr (Or.inr (Or.inl ⟨rfl, show Cond.fieldLink RJ6 83 "java/lang/Integer" "DigitOnes" "[B" ∈ zTs from zmem (i := 773) (by decide +kernel) rfl⟩)), List.forall_mem_cons.mpr ⟨Or.inr (Or.inr (Or.inr ⟨rfl, show Cond.fieldLink RJ6 87 "java/lang/Integer" "DigitTens" "[B" ∈ zTs from zmem (i := 775) (by decide +kernel) rfl⟩)), fun _ h => absurd h List.not_mem_nil⟩⟩) hkc_J6_getChars_ba4f3 (fun args w Q X v0 hv0 h => ?_)
  obtain ⟨α, ν, r, n, c, hn, hc, rfl, rfl, hQ⟩ := h
  refine ⟨Nat.le_of_ble_eq_true rfl, 80, [(22, fun m L S w' cu su => zsub [(0, .int (-nI n)), (2, .ref 20), (5, .int (nI (c + (zdg n).length))), (6, .int (nI 0))] L ∧ S = [] ∧ w' = WX α ν r ∧ m = 0 ∧ cu = 0 ∧ su = 0)], ?_, zone ?_⟩
  · (conv => whnf)
    refine And.intro (fun c => absurd c (show ¬ _ from (nI_pos (show n < 2 ^ 31 by omega)))) (fun _ => ?_)
    (conv => whnf)
    refine And.intro (fun _ => ?_) (fun c => absurd (show _ from rfl) c)
    (conv => whnf)
    exact ⟨0, ⟨rfl, rfl, rfl, rfl, trivial⟩, rfl, rfl, rfl, rfl, rfl⟩
  · rintro m L S w' cu su ⟨hL, rfl, rfl, rfl, rfl, rfl⟩
    refine ⟨_, hL, ?_⟩
    (conv => whnf)
    refine And.intro (fun _ => ?_) (fun c => absurd (show _ from ((pk_neglt (a := 100) (b := n) (by decide) (by omega)).mpr hn)) c)
    by_cases h1 : n < 10
    · rw [zdg_1 h1] at hc hQ
      rw [zdg_1 h1]
      have hc' : c < 16 := by
        have : c + 1 ≤ 16 := hc
        omega
      (conv => whnf)
      rw [pk_neg2]
      refine ⟨vp_in_nI (show n < 100 by omega) (by decide), ?_⟩
      (conv => whnf)
      dsimp only [zkon]
      have e1 : nI (c + [48 + n].length) + -1 = nI c := pk_m1 c
      rw [e1]
      refine ⟨vp_in_nI hc' (by decide), ?_⟩
      (conv => whnf)
      refine And.intro (fun d => absurd d (show ¬ _ from fun d => ?_)) (fun _ => ?_)
      · have := (pk_neglt (a := n) (b := 9) (by omega) (by decide)).mp d
        omega
      · (conv => whnf)
        refine And.intro (fun _ => ?_) (fun c => absurd (show _ from rfl) c)
        (conv => whnf)
        rw [nI_clamp (by omega), nI_clamp (by omega)]
        unfold zOnes
        rw [Nat.mod_eq_of_lt h1, pk_b8 (by omega)]
        exact hQ
    · rw [zdg_2 h1] at hc hQ
      rw [zdg_2 h1]
      have hc' : c + 1 < 16 := by
        have : c + 2 ≤ 16 := hc
        omega
      (conv => whnf)
      rw [pk_neg2]
      refine ⟨vp_in_nI (show n < 100 by omega) (by decide), ?_⟩
      (conv => whnf)
      dsimp only [zkon]
      have e1 : nI (c + [48 + n / 10, 48 + n % 10].length) + -1 = nI (c + 1) := pk_m1 (c + 1)
      have e2 : nI (c + 1) + -1 = nI c := pk_m1 c
      rw [e1]
      refine ⟨vp_in_nI hc' (by decide), ?_⟩
      (conv => whnf)
      refine And.intro (fun _ => ?_) (fun c => absurd (show _ from ((pk_neglt (a := n) (b := 9) (by omega) (by decide)).mpr (by omega))) c)
      (conv => whnf)
      rw [pk_neg2]
      refine ⟨vp_in_nI (show n < 100 by omega) (by decide), ?_⟩
      (conv => whnf)
      dsimp only [zkon]
      rw [e2]
      refine ⟨vp_in_nI (show c < 16 by omega) (by decide), ?_⟩
      (conv => whnf)
      refine And.intro (fun _ => ?_) (fun c => absurd (show _ from rfl) c)
      (conv => whnf)
      rw [nI_clamp (show n < 2 ^ 31 by omega), nI_clamp (show c + 1 < 2 ^ 31 by omega), nI_clamp (show c < 2 ^ 31 by omega)]
      unfold zOnes zTens
      rw [pk_b8 (by omega), pk_b8 (by omega)]
      have e3 : zwr (α 14) c [48 + n / 10, 48 + n % 10] = upd (upd (α 14) (c + 1) (nI (48 + n % 10))) c (nI (48 + n / 10)) := upd_comm (α 14) (by omega) _ _
      rw [e3] at hQ
      exact hQ
def sp_J5_append_c97b9 : zSpec := fun args w Q _ => ∃ α ν r c n, n < 100 ∧ c + (zdg n).length ≤ 16 ∧ ν 6 = nI c ∧ args = [.ref 19, .int (nI n)] ∧ w = WX α ν r ∧ Q (some (.ref 19)) (WX (zu α 14 (zwr (α 14) c (zdg n))) (zu ν 6 (nI (c + (zdg n).length))) r)
def pg_J5_append_c97b9 : List zE := [(0, .aload_n 0, 1, []), (1, .getfield 79, 3, []), (4, .istore_n 2, 1, []), (5, .iload_n 2, 1, []), (6, .iload_n 1, 1, []), (7, .invokestatic 245, 3, []), (10, .iadd, 1, []), (11, .istore_n 3, 1, []), (12, .aload_n 0, 1, []), (13, .iload_n 3, 1, []), (14, .invokevirtual 100, 3, []), (17, .aload_n 0, 1, []), (18, .invokevirtual 83, 3, []), (21, .ifCond .eq 16, 3, [37]), (24, .iload_n 1, 1, []), (25, .iload_n 3, 1, []), (26, .aload_n 0, 1, []), (27, .getfield 15, 3, []), (30, .invokestatic 248, 3, []), (33, .pop, 1, []), (34, .goto 14, 3, [48]), (37, .iload_n 1, 1, []), (38, .iload_n 2, 1, []), (39, .iload_n 3, 1, []), (40, .aload_n 0, 1, []), (41, .getfield 15, 3, []), (44, .invokestatic 251, 3, []), (47, .pop, 1, []), (48, .aload_n 0, 1, []), (49, .iload_n 3, 1, []), (50, .putfield 79, 3, []), (53, .aload_n 0, 1, []), (54, .areturn, 1, [])]
theorem hp_J5_append_c97b9 : ∀ q ∈ pg_J5_append_c97b9, decode cJ5_append_c97b9 q.1 = .ok (q.2.1, q.2.2.1) ∧ ztg q.2.1 q.1 q.2.2.1 q.2.2.2 = true := zpg_of (by decide +kernel)
def cs_J5_append_c97b9 : List (Nat × zCall) := [(245, 1, 1, none, 0, 0, false, sp_J6_stringSize_0f7a4), (100, 0, 2, some 0, 0, 0, false, sp_J5_ensureCapacityInternal_d00df), (83, 0, 1, some 0, 0, 0, false, sp_J5_isLatin1_aae02), (248, 1, 3, none, 0, 0, false, sp_J6_getChars_ba4f3)]
theorem hcs_J5_append_c97b9 {l : Launch} (hl0 : l.stackTraces = false) : ∀ q ∈ cs_J5_append_c97b9, zCallable l RJ5 2 q := List.forall_mem_cons.mpr ⟨zcS (ps := [767, 768, 36, 769]) (c_J6_stringSize_0f7a4 hl0) (by decide +kernel) ⟨by decide +kernel, by decide +kernel, by decide +kernel⟩ (by decide) (by decide), List.forall_mem_cons.mpr ⟨zcUP (C := (RJ4, TJ4, 4)) (ps := [651, 852, 653, 20, 654]) (c_J5_ensureCapacityInternal_d00df hl0) (by decide +kernel) rfl zXs_mem ⟨by decide +kernel, by decide +kernel, by decide +kernel⟩ (by decide) (by decide), List.forall_mem_cons.mpr ⟨zcU (C := (RJ4, TJ4, 4)) (x := yJ5_isLatin1_aae02) (owner := RJ5) (ps := [684, 686, 687, 685, 20, 688]) (c_J5_isLatin1_aae02 hl0) (by decide +kernel) rfl rfl ⟨by decide +kernel, by decide +kernel, by decide +kernel⟩ (by decide) (by decide), List.forall_mem_cons.mpr ⟨zcS (ps := [770, 771, 36, 772]) (c_J6_getChars_ba4f3 hl0) (by decide +kernel) ⟨by decide +kernel, by decide +kernel, by decide +kernel⟩ (by decide) (by decide), fun _ h => absurd h List.not_mem_nil⟩⟩⟩⟩
def th_J5_append_c97b9 : List (Nat × String) := []
theorem hth_J5_append_c97b9 : ∀ q ∈ th_J5_append_c97b9, zThrow cJ5_append_c97b9 RJ5 q := fun _ h => absurd h List.not_mem_nil
def kc_J5_append_c97b9 : List (Nat × Int32) := []
theorem hkc_J5_append_c97b9 : ∀ q ∈ kc_J5_append_c97b9, Cond.constant RJ5 q.1 q.2 ∈ zTs := fun _ h => absurd h List.not_mem_nil
def nw_J5_append_c97b9 : List (Nat × Nat × Nat × List Value) := []
theorem hnw_J5_append_c97b9 : ∀ q ∈ nw_J5_append_c97b9, zNew RJ5 q := fun _ h => absurd h List.not_mem_nil
set_option maxHeartbeats 4000000 in
set_option maxRecDepth 20000 in
theorem c_J5_append_c97b9 {l : Launch} (hl0 : l.stackTraces = false) : CT l yJ5_append_c97b9 (.code yJ5_append_c97b9 cJ5_append_c97b9 4 (some (.object "java/lang/AbstractStringBuilder"))) 2 0 0 false sp_J5_append_c97b9 := by
  refine zCT_of hl0 (own := RJ5) fl_RJ5 cs_J5_append_c97b9 nw_J5_append_c97b9 th_J5_append_c97b9 kc_J5_append_c97b9 (fun _ => []) false pg_J5_append_c97b9 rfl (by decide +kernel) hp_J5_append_c97b9 ⟨_, _, rfl, rfl⟩ hfl_RJ5 (fun h => nomatch h) (hcs_J5_append_c97b9 hl0) hnw_J5_append_c97b9 hth_J5_append_c97b9 (fun _ _ h => absurd h List.not_mem_nil) hkc_J5_append_c97b9 (fun args w Q X v0 hv0 h => ?_)
  obtain ⟨α, ν, r, c, n, hn, hc, hν, rfl, rfl, hQ⟩ := h
  refine ⟨Nat.le_of_ble_eq_true rfl, 60, [], ?_, fun q hq => absurd hq List.not_mem_nil⟩
  (conv => whnf)
  refine ⟨n, hn, rfl, ?_⟩
  (conv => whnf)
  rw [hν]
  dsimp only [zkon]
  rw [nI_add]
  refine ⟨α, ν, r, _, hc, rfl, rfl, ?_⟩
  (conv => whnf)
  refine ⟨α, ν, r, rfl, rfl, ?_⟩
  (conv => whnf)
  refine And.intro (fun c => absurd c (show ¬ _ from (by decide))) (fun _ => ?_)
  (conv => whnf)
  refine ⟨α, ν, r, n, c, hn, hc, rfl, rfl, ?_⟩
  (conv => whnf)
  exact hQ
def sp_J4_append_bf812 : zSpec := sp_J5_append_c97b9
def pg_J4_append_bf812 : List zE := [(0, .aload_n 0, 1, []), (1, .iload_n 1, 1, []), (2, .invokespecial 53, 3, []), (5, .pop, 1, []), (6, .aload_n 0, 1, []), (7, .areturn, 1, [])]
theorem hp_J4_append_bf812 : ∀ q ∈ pg_J4_append_bf812, decode cJ4_append_bf812 q.1 = .ok (q.2.1, q.2.2.1) ∧ ztg q.2.1 q.1 q.2.2.1 q.2.2.2 = true := zpg_of (by decide +kernel)
def cs_J4_append_bf812 : List (Nat × zCall) := [(53, 2, 2, some 0, 0, 0, false, sp_J5_append_c97b9)]
theorem hcs_J4_append_bf812 {l : Launch} (hl0 : l.stackTraces = false) : ∀ q ∈ cs_J4_append_bf812, zCallable l RJ4 3 q := List.forall_mem_cons.mpr ⟨zcSU (C := (RJ4, TJ4, 4)) (ps := [764, 856, 165, 765, 20, 766]) (c_J5_append_c97b9 hl0) (by decide +kernel) rfl ⟨by decide +kernel, by decide +kernel⟩ (by decide) (by decide), fun _ h => absurd h List.not_mem_nil⟩
def th_J4_append_bf812 : List (Nat × String) := []
theorem hth_J4_append_bf812 : ∀ q ∈ th_J4_append_bf812, zThrow cJ4_append_bf812 RJ4 q := fun _ h => absurd h List.not_mem_nil
def kc_J4_append_bf812 : List (Nat × Int32) := []
theorem hkc_J4_append_bf812 : ∀ q ∈ kc_J4_append_bf812, Cond.constant RJ4 q.1 q.2 ∈ zTs := fun _ h => absurd h List.not_mem_nil
def nw_J4_append_bf812 : List (Nat × Nat × Nat × List Value) := []
theorem hnw_J4_append_bf812 : ∀ q ∈ nw_J4_append_bf812, zNew RJ4 q := fun _ h => absurd h List.not_mem_nil
set_option maxHeartbeats 4000000 in
set_option maxRecDepth 20000 in
theorem c_J4_append_bf812 {l : Launch} (hl0 : l.stackTraces = false) : CT l yJ4_append_bf812 (.code yJ4_append_bf812 cJ4_append_bf812 2 (some (.object "java/lang/StringBuilder"))) 3 0 0 false sp_J4_append_bf812 := by
  refine zCT_of hl0 (own := RJ4) fl_RJ4 cs_J4_append_bf812 nw_J4_append_bf812 th_J4_append_bf812 kc_J4_append_bf812 (fun _ => []) false pg_J4_append_bf812 rfl (by decide +kernel) hp_J4_append_bf812 ⟨_, _, rfl, rfl⟩ hfl_RJ4 (fun h => nomatch h) (hcs_J4_append_bf812 hl0) hnw_J4_append_bf812 hth_J4_append_bf812 (fun _ _ h => absurd h List.not_mem_nil) hkc_J4_append_bf812 (fun args w Q X v0 hv0 h => ?_)
  obtain ⟨α, ν, r, c, n, hn, hc, hν, rfl, rfl, hQ⟩ := h
  refine ⟨Nat.le_of_ble_eq_true rfl, 20, [], ?_, fun q hq => absurd hq List.not_mem_nil⟩
  (conv => whnf)
  refine ⟨α, ν, r, c, n, hn, hc, hν, rfl, rfl, ?_⟩
  (conv => whnf)
  exact hQ
def sp_J3_checkIndex_8e157 : zSpec := fun args w Q _ => ∃ j n v, (v = .null ∨ v = .ref 1001) ∧ j < n ∧ n < 2 ^ 31 ∧ args = [.int (nI j), .int (nI n), v] ∧ Q (some (.int (nI j))) w
def fl_RJ3 : List (Nat × Nat × Nat) := []
theorem hfl_RJ3 : ∀ q ∈ fl_RJ3, zFld RJ3 q := zfld_of (ps := []) (by decide +kernel)
def pg_J3_checkIndex_8e157 : List zE := [(0, .iload_n 0, 1, []), (1, .ifCond .lt 8, 3, [9]), (4, .iload_n 0, 1, []), (5, .iload_n 1, 1, []), (6, .if_icmp .lt 10, 3, [16]), (9, .aload_n 2, 1, []), (10, .iload_n 0, 1, []), (11, .iload_n 1, 1, []), (12, .invokestatic 95, 3, []), (15, .athrow, 1, []), (16, .iload_n 0, 1, []), (17, .ireturn, 1, [])]
theorem hp_J3_checkIndex_8e157 : ∀ q ∈ pg_J3_checkIndex_8e157, decode cJ3_checkIndex_8e157 q.1 = .ok (q.2.1, q.2.2.1) ∧ ztg q.2.1 q.1 q.2.2.1 q.2.2.2 = true := zpg_of (by decide +kernel)
def cs_J3_checkIndex_8e157 : List (Nat × zCall) := []
theorem hcs_J3_checkIndex_8e157 {l : Launch} (hl0 : l.stackTraces = false) : ∀ q ∈ cs_J3_checkIndex_8e157, zCallable l RJ3 1 q := fun _ h => absurd h List.not_mem_nil
def th_J3_checkIndex_8e157 : List (Nat × String) := []
theorem hth_J3_checkIndex_8e157 : ∀ q ∈ th_J3_checkIndex_8e157, zThrow cJ3_checkIndex_8e157 RJ3 q := fun _ h => absurd h List.not_mem_nil
def kc_J3_checkIndex_8e157 : List (Nat × Int32) := []
theorem hkc_J3_checkIndex_8e157 : ∀ q ∈ kc_J3_checkIndex_8e157, Cond.constant RJ3 q.1 q.2 ∈ zTs := fun _ h => absurd h List.not_mem_nil
def nw_J3_checkIndex_8e157 : List (Nat × Nat × Nat × List Value) := []
theorem hnw_J3_checkIndex_8e157 : ∀ q ∈ nw_J3_checkIndex_8e157, zNew RJ3 q := fun _ h => absurd h List.not_mem_nil
set_option maxHeartbeats 4000000 in
set_option maxRecDepth 20000 in
theorem c_J3_checkIndex_8e157 {l : Launch} (hl0 : l.stackTraces = false) : CT l yJ3_checkIndex_8e157 (.code yJ3_checkIndex_8e157 cJ3_checkIndex_8e157 3 (some .int)) 1 0 0 false sp_J3_checkIndex_8e157 := by
  refine zCT_of hl0 (own := RJ3) fl_RJ3 cs_J3_checkIndex_8e157 nw_J3_checkIndex_8e157 th_J3_checkIndex_8e157 kc_J3_checkIndex_8e157 (fun _ => []) false pg_J3_checkIndex_8e157 rfl (by decide +kernel) hp_J3_checkIndex_8e157 ⟨_, _, rfl, rfl⟩ hfl_RJ3 (fun h => nomatch h) (hcs_J3_checkIndex_8e157 hl0) hnw_J3_checkIndex_8e157 hth_J3_checkIndex_8e157 (fun _ _ h => absurd h List.not_mem_nil) hkc_J3_checkIndex_8e157 (fun args w Q X v0 hv0 h => ?_)
  obtain ⟨j, n, v, hv, hj, hn, rfl, hQ⟩ := h
  rcases hv with rfl | rfl
  · refine ⟨Nat.le_of_ble_eq_true rfl, 20, [], ?_, fun q hq => absurd hq List.not_mem_nil⟩
    (conv => whnf)
    refine And.intro (fun c => absurd c (show ¬ _ from (nI_pos (by omega)))) (fun _ => ?_)
    (conv => whnf)
    refine And.intro (fun _ => ?_) (fun c => absurd (show _ from (nI_lt hj hn)) c)
    (conv => whnf)
    exact hQ
  · refine ⟨Nat.le_of_ble_eq_true rfl, 20, [], ?_, fun q hq => absurd hq List.not_mem_nil⟩
    (conv => whnf)
    refine And.intro (fun c => absurd c (show ¬ _ from (nI_pos (by omega)))) (fun _ => ?_)
    (conv => whnf)
    refine And.intro (fun _ => ?_) (fun c => absurd (show _ from (nI_lt hj hn)) c)
    (conv => whnf)
    exact hQ
def sp_J0_checkIndex_df160 : zSpec := fun args w Q _ => ∃ j n, j < n ∧ n < 2 ^ 31 ∧ args = [.int (nI j), .int (nI n)] ∧ Q none w
def fl_RJ0 : List (Nat × Nat × Nat) := []
theorem hfl_RJ0 : ∀ q ∈ fl_RJ0, zFld RJ0 q := zfld_of (ps := []) (by decide +kernel)
def pg_J0_checkIndex_df160 : List zE := [(0, .iload_n 0, 1, []), (1, .iload_n 1, 1, []), (2, .getstatic 1053, 3, []), (5, .invokestatic 1059, 3, []), (8, .pop, 1, []), (9, .return_, 1, [])]
theorem hp_J0_checkIndex_df160 : ∀ q ∈ pg_J0_checkIndex_df160, decode cJ0_checkIndex_df160 q.1 = .ok (q.2.1, q.2.2.1) ∧ ztg q.2.1 q.1 q.2.2.1 q.2.2.2 = true := zpg_of (by decide +kernel)
def cs_J0_checkIndex_df160 : List (Nat × zCall) := [(1059, 1, 3, none, 0, 0, false, sp_J3_checkIndex_8e157)]
theorem hcs_J0_checkIndex_df160 {l : Launch} (hl0 : l.stackTraces = false) : ∀ q ∈ cs_J0_checkIndex_df160, zCallable l RJ0 2 q := List.forall_mem_cons.mpr ⟨zcS (ps := [757, 758, 34, 759]) (c_J3_checkIndex_8e157 hl0) (by decide +kernel) ⟨by decide +kernel, by decide +kernel, by decide +kernel⟩ (by decide) (by decide), fun _ h => absurd h List.not_mem_nil⟩
def th_J0_checkIndex_df160 : List (Nat × String) := []
theorem hth_J0_checkIndex_df160 : ∀ q ∈ th_J0_checkIndex_df160, zThrow cJ0_checkIndex_df160 RJ0 q := fun _ h => absurd h List.not_mem_nil
def kc_J0_checkIndex_df160 : List (Nat × Int32) := []
theorem hkc_J0_checkIndex_df160 : ∀ q ∈ kc_J0_checkIndex_df160, Cond.constant RJ0 q.1 q.2 ∈ zTs := fun _ h => absurd h List.not_mem_nil
def nw_J0_checkIndex_df160 : List (Nat × Nat × Nat × List Value) := []
theorem hnw_J0_checkIndex_df160 : ∀ q ∈ nw_J0_checkIndex_df160, zNew RJ0 q := fun _ h => absurd h List.not_mem_nil
set_option maxHeartbeats 4000000 in
set_option maxRecDepth 20000 in
theorem c_J0_checkIndex_df160 {l : Launch} (hl0 : l.stackTraces = false) : CT l yJ0_checkIndex_df160 (.code yJ0_checkIndex_df160 cJ0_checkIndex_df160 2 none) 2 0 0 false sp_J0_checkIndex_df160 := by
  refine zCT_of hl0 (own := RJ0) fl_RJ0 cs_J0_checkIndex_df160 nw_J0_checkIndex_df160 th_J0_checkIndex_df160 kc_J0_checkIndex_df160 (fun v0 => [(1053, v0)]) false pg_J0_checkIndex_df160 rfl (by decide +kernel) hp_J0_checkIndex_df160 ⟨_, _, rfl, rfl⟩ hfl_RJ0 (fun h => nomatch h) (hcs_J0_checkIndex_df160 hl0) hnw_J0_checkIndex_df160 hth_J0_checkIndex_df160 (fun v0 => List.forall_mem_cons.mpr ⟨Or.inr (Or.inl ⟨rfl, show Cond.fieldLink RJ0 1053 "jdk/internal/util/Preconditions" "SIOOBE_FORMATTER" "Ljava/util/function/BiFunction;" ∈ zTs from zmem (i := 734) (by decide +kernel) rfl⟩), fun _ h => absurd h List.not_mem_nil⟩) hkc_J0_checkIndex_df160 (fun args w Q X v0 hv0 h => ?_)
  obtain ⟨j, n, hj, hn, rfl, hQ⟩ := h
  refine ⟨Nat.le_of_ble_eq_true rfl, 20, [], ?_, fun q hq => absurd hq List.not_mem_nil⟩
  (conv => whnf)
  refine ⟨j, n, _, hv0, hj, hn, rfl, ?_⟩
  (conv => whnf)
  exact hQ
def sp_J5_charAt_5068e : zSpec := fun args w Q _ => ∃ α ν r c j x, j < c ∧ c ≤ 16 ∧ ν 6 = nI c ∧ x < 128 ∧ α 14 j = nI x ∧ args = [.ref 19, .int (nI j)] ∧ w = WX α ν r ∧ Q (some (.int (nI x))) (WX α ν r)
def pg_J5_charAt_5068e : List zE := [(0, .aload_n 0, 1, []), (1, .getfield 22, 3, []), (4, .istore_n 2, 1, []), (5, .aload_n 0, 1, []), (6, .getfield 15, 3, []), (9, .astore_n 3, 1, []), (10, .aload_n 0, 1, []), (11, .getfield 79, 3, []), (14, .aload_n 3, 1, []), (15, .arraylength, 1, []), (16, .iload_n 2, 1, []), (17, .ishr, 1, []), (18, .invokestatic 138, 3, []), (21, .istore 4, 2, []), (23, .iload_n 1, 1, []), (24, .iload 4, 2, []), (26, .invokestatic 144, 3, []), (29, .iload_n 2, 1, []), (30, .ifCond .ne 12, 3, [42]), (33, .aload_n 3, 1, []), (34, .iload_n 1, 1, []), (35, .baload, 1, []), (36, .sipush 255, 3, [255]), (39, .iand, 1, []), (40, .i2c, 1, []), (41, .ireturn, 1, []), (42, .aload_n 3, 1, []), (43, .iload_n 1, 1, []), (44, .invokestatic 148, 3, []), (47, .ireturn, 1, [])]
theorem hp_J5_charAt_5068e : ∀ q ∈ pg_J5_charAt_5068e, decode cJ5_charAt_5068e q.1 = .ok (q.2.1, q.2.2.1) ∧ ztg q.2.1 q.1 q.2.2.1 q.2.2.2 = true := zpg_of (by decide +kernel)
def cs_J5_charAt_5068e : List (Nat × zCall) := [(138, 1, 2, none, 0, 0, false, zspMin), (144, 1, 2, none, 0, 0, false, sp_J0_checkIndex_df160)]
theorem hcs_J5_charAt_5068e {l : Launch} (hl0 : l.stackTraces = false) : ∀ q ∈ cs_J5_charAt_5068e, zCallable l RJ5 3 q := List.forall_mem_cons.mpr ⟨zcMin (ps := [808, 679, 29, 680]) (by decide +kernel) (by decide), List.forall_mem_cons.mpr ⟨zcS (ps := [809, 755, 22, 756]) (c_J0_checkIndex_df160 hl0) (by decide +kernel) ⟨by decide +kernel, by decide +kernel, by decide +kernel⟩ (by decide) (by decide), fun _ h => absurd h List.not_mem_nil⟩⟩
def th_J5_charAt_5068e : List (Nat × String) := []
theorem hth_J5_charAt_5068e : ∀ q ∈ th_J5_charAt_5068e, zThrow cJ5_charAt_5068e RJ5 q := fun _ h => absurd h List.not_mem_nil
def kc_J5_charAt_5068e : List (Nat × Int32) := []
theorem hkc_J5_charAt_5068e : ∀ q ∈ kc_J5_charAt_5068e, Cond.constant RJ5 q.1 q.2 ∈ zTs := fun _ h => absurd h List.not_mem_nil
def nw_J5_charAt_5068e : List (Nat × Nat × Nat × List Value) := []
theorem hnw_J5_charAt_5068e : ∀ q ∈ nw_J5_charAt_5068e, zNew RJ5 q := fun _ h => absurd h List.not_mem_nil
set_option maxHeartbeats 4000000 in
set_option maxRecDepth 20000 in
theorem c_J5_charAt_5068e {l : Launch} (hl0 : l.stackTraces = false) : CT l yJ5_charAt_5068e (.code yJ5_charAt_5068e cJ5_charAt_5068e 5 (some .char)) 3 0 0 false sp_J5_charAt_5068e := by
  refine zCT_of hl0 (own := RJ5) fl_RJ5 cs_J5_charAt_5068e nw_J5_charAt_5068e th_J5_charAt_5068e kc_J5_charAt_5068e (fun _ => []) false pg_J5_charAt_5068e rfl (by decide +kernel) hp_J5_charAt_5068e ⟨_, _, rfl, rfl⟩ hfl_RJ5 (fun h => nomatch h) (hcs_J5_charAt_5068e hl0) hnw_J5_charAt_5068e hth_J5_charAt_5068e (fun _ _ h => absurd h List.not_mem_nil) hkc_J5_charAt_5068e (fun args w Q X v0 hv0 h => ?_)
  obtain ⟨α, ν, r, c, j, x, hj, hc, hν, hx, hα, rfl, rfl, hQ⟩ := h
  refine ⟨Nat.le_of_ble_eq_true rfl, 60, [], ?_, fun q hq => absurd hq List.not_mem_nil⟩
  (conv => whnf)
  dsimp only
  rw [pk_ishr0]
  refine ⟨_, _, rfl, ?_⟩
  (conv => whnf)
  rw [hν]
  have e : (if nI 16 < nI c then nI 16 else nI c) = nI c := if_neg (nI_nlt hc (by decide))
  rw [e]
  refine ⟨j, c, hj, by omega, rfl, ?_⟩
  (conv => whnf)
  refine And.intro (fun _ => ?_) (fun c => absurd (show _ from rfl) c)
  (conv => whnf)
  refine ⟨vp_in_nI (show j < 16 by omega) (by decide), ?_⟩
  (conv => whnf)
  rw [nI_clamp (by omega)]
  dsimp only [zkon]
  rw [hα, pk_c7 hx]
  exact ⟨(pk_charN (by omega)).1, hQ⟩
def sp_J4_charAt_5068e : zSpec := sp_J5_charAt_5068e
def pg_J4_charAt_5068e : List zE := [(0, .aload_n 0, 1, []), (1, .iload_n 1, 1, []), (2, .invokespecial 329, 3, []), (5, .ireturn, 1, [])]
theorem hp_J4_charAt_5068e : ∀ q ∈ pg_J4_charAt_5068e, decode cJ4_charAt_5068e q.1 = .ok (q.2.1, q.2.2.1) ∧ ztg q.2.1 q.1 q.2.2.1 q.2.2.2 = true := zpg_of (by decide +kernel)
def cs_J4_charAt_5068e : List (Nat × zCall) := [(329, 2, 2, some 0, 0, 0, false, sp_J5_charAt_5068e)]
theorem hcs_J4_charAt_5068e {l : Launch} (hl0 : l.stackTraces = false) : ∀ q ∈ cs_J4_charAt_5068e, zCallable l RJ4 4 q := List.forall_mem_cons.mpr ⟨zcSU (C := (RJ4, TJ4, 4)) (ps := [805, 858, 165, 806, 20, 807]) (c_J5_charAt_5068e hl0) (by decide +kernel) rfl ⟨by decide +kernel, by decide +kernel⟩ (by decide) (by decide), fun _ h => absurd h List.not_mem_nil⟩
def th_J4_charAt_5068e : List (Nat × String) := []
theorem hth_J4_charAt_5068e : ∀ q ∈ th_J4_charAt_5068e, zThrow cJ4_charAt_5068e RJ4 q := fun _ h => absurd h List.not_mem_nil
def kc_J4_charAt_5068e : List (Nat × Int32) := []
theorem hkc_J4_charAt_5068e : ∀ q ∈ kc_J4_charAt_5068e, Cond.constant RJ4 q.1 q.2 ∈ zTs := fun _ h => absurd h List.not_mem_nil
def nw_J4_charAt_5068e : List (Nat × Nat × Nat × List Value) := []
theorem hnw_J4_charAt_5068e : ∀ q ∈ nw_J4_charAt_5068e, zNew RJ4 q := fun _ h => absurd h List.not_mem_nil
set_option maxHeartbeats 4000000 in
set_option maxRecDepth 20000 in
theorem c_J4_charAt_5068e {l : Launch} (hl0 : l.stackTraces = false) : CT l yJ4_charAt_5068e (.code yJ4_charAt_5068e cJ4_charAt_5068e 2 (some .char)) 4 0 0 false sp_J4_charAt_5068e := by
  refine zCT_of hl0 (own := RJ4) fl_RJ4 cs_J4_charAt_5068e nw_J4_charAt_5068e th_J4_charAt_5068e kc_J4_charAt_5068e (fun _ => []) false pg_J4_charAt_5068e rfl (by decide +kernel) hp_J4_charAt_5068e ⟨_, _, rfl, rfl⟩ hfl_RJ4 (fun h => nomatch h) (hcs_J4_charAt_5068e hl0) hnw_J4_charAt_5068e hth_J4_charAt_5068e (fun _ _ h => absurd h List.not_mem_nil) hkc_J4_charAt_5068e (fun args w Q X v0 hv0 h => ?_)
  obtain ⟨α, ν, r, c, j, x, hj, hc, hν, hx, hα, rfl, rfl, hQ⟩ := h
  refine ⟨Nat.le_of_ble_eq_true rfl, 20, [], ?_, fun q hq => absurd hq List.not_mem_nil⟩
  (conv => whnf)
  refine ⟨α, ν, r, c, j, x, hj, hc, hν, hx, hα, rfl, rfl, ?_⟩
  (conv => whnf)
  exact ⟨(pk_charN (by omega)).1, hQ⟩
end
section
/-! ===== EchoRegistry: what its calls share ===== -/
def zIOO : String := "java/lang/IndexOutOfBoundsException"
def zIAE : String := "java/lang/IllegalArgumentException"
def zISE : String := "java/lang/IllegalStateException"
theorem thw_RX4_93 : zthw RX4 93 "java/lang/IndexOutOfBoundsException" ["java/lang/RuntimeException", "java/lang/Exception"] = true := by decide +kernel
theorem thw_RX4_253 : zthw RX4 253 "java/lang/IllegalArgumentException" ["java/lang/RuntimeException", "java/lang/Exception"] = true := by decide +kernel
theorem thw_RX4_131 : zthw RX4 131 "java/lang/IllegalStateException" ["java/lang/RuntimeException", "java/lang/Exception"] = true := by decide +kernel
def zReq (n : Nat) : zSpec := fun args w Q X => ∃ x, args = [.int x] ∧ (vp_in x n → Q none w) ∧ (¬ vp_in x n → X zIOO w)
def sp_X4_requireCell : zSpec := zReq 96
def pg_X4_requireCell : List zE := [(0, .iload_n 0, 1, []), (1, .invokestatic 231, 3, []), (4, .ifCond .ne 13, 3, [17]), (7, .new 89, 3, []), (17, .return_, 1, [])]
theorem hp_X4_requireCell : ∀ q ∈ pg_X4_requireCell, decode cX4_requireCell q.1 = .ok (q.2.1, q.2.2.1) ∧ ztg q.2.1 q.1 q.2.2.1 q.2.2.2 = true := zpg_of (by decide +kernel)
def cs_X4_requireCell : List (Nat × zCall) := [(231, 1, 1, none, 0, 0, false, sp_X4_isCell)]
theorem hcs_X4_requireCell {l : Launch} (hl0 : l.stackTraces = false) : ∀ q ∈ cs_X4_requireCell, zCallable l RX4 2 q := List.forall_mem_cons.mpr ⟨zcS (ps := [193, 194, 14, 195]) (c_X4_isCell hl0) (by decide +kernel) ⟨by decide +kernel, by decide +kernel, by decide +kernel⟩ (by decide) (by decide), fun _ h => absurd h List.not_mem_nil⟩
def th_X4_requireCell : List (Nat × String) := [(7, "java/lang/IndexOutOfBoundsException")]
theorem hth_X4_requireCell : ∀ q ∈ th_X4_requireCell, zThrow cX4_requireCell RX4 q := List.forall_mem_cons.mpr ⟨⟨"no such cell", 89, 235, 93, [196, 27], by decide +kernel, by decide +kernel, by decide +kernel, thw_RX4_93, by decide +kernel, by decide +kernel, Or.inl ⟨by decide +kernel, by decide +kernel, by decide +kernel⟩⟩, fun _ h => absurd h List.not_mem_nil⟩
def kc_X4_requireCell : List (Nat × Int32) := []
theorem hkc_X4_requireCell : ∀ q ∈ kc_X4_requireCell, Cond.constant RX4 q.1 q.2 ∈ zTs := fun _ h => absurd h List.not_mem_nil
def nw_X4_requireCell : List (Nat × Nat × Nat × List Value) := []
theorem hnw_X4_requireCell : ∀ q ∈ nw_X4_requireCell, zNew RX4 q := fun _ h => absurd h List.not_mem_nil
set_option maxHeartbeats 4000000 in
set_option maxRecDepth 20000 in
theorem c_X4_requireCell {l : Launch} (hl0 : l.stackTraces = false) : CT l yX4_requireCell (.code yX4_requireCell cX4_requireCell 1 none) 2 1 6 false sp_X4_requireCell := by
  refine zCT_of hl0 (own := RX4) fl_RX4 cs_X4_requireCell nw_X4_requireCell th_X4_requireCell kc_X4_requireCell (fun _ => []) false pg_X4_requireCell rfl (by decide +kernel) hp_X4_requireCell ⟨_, _, rfl, rfl⟩ hfl_RX4 (fun h => nomatch h) (hcs_X4_requireCell hl0) hnw_X4_requireCell hth_X4_requireCell (fun _ _ h => absurd h List.not_mem_nil) hkc_X4_requireCell (fun args w Q X v0 hv0 h => ?_)
  obtain ⟨x, rfl, h1, h2⟩ := h
  refine ⟨Nat.le_of_ble_eq_true rfl, 20, [], ?_, fun q hq => absurd hq List.not_mem_nil⟩
  (conv => whnf)
  refine ⟨_, rfl, fun c => ?_, fun c => ?_⟩
  · (conv => whnf)
    refine And.intro (fun c => absurd c (show ¬ _ from (by decide))) (fun _ => ?_)
    (conv => whnf)
    exact h1 c
  · (conv => whnf)
    refine And.intro (fun _ => ?_) (fun c => absurd (show _ from rfl) c)
    (conv => whnf)
    exact h2 c
def sp_X4_requireDiver : zSpec := zReq 4
def pg_X4_requireDiver : List zE := [(0, .iload_n 0, 1, []), (1, .ifCond .lt 8, 3, [9]), (4, .iload_n 0, 1, []), (5, .iconst 4, 1, [4]), (6, .if_icmp .lt 13, 3, [19]), (9, .new 89, 3, []), (19, .return_, 1, [])]
theorem hp_X4_requireDiver : ∀ q ∈ pg_X4_requireDiver, decode cX4_requireDiver q.1 = .ok (q.2.1, q.2.2.1) ∧ ztg q.2.1 q.1 q.2.2.1 q.2.2.2 = true := zpg_of (by decide +kernel)
def cs_X4_requireDiver : List (Nat × zCall) := []
theorem hcs_X4_requireDiver {l : Launch} (hl0 : l.stackTraces = false) : ∀ q ∈ cs_X4_requireDiver, zCallable l RX4 2 q := fun _ h => absurd h List.not_mem_nil
def th_X4_requireDiver : List (Nat × String) := [(9, "java/lang/IndexOutOfBoundsException")]
theorem hth_X4_requireDiver : ∀ q ∈ th_X4_requireDiver, zThrow cX4_requireDiver RX4 q := List.forall_mem_cons.mpr ⟨⟨"no such diver", 89, 237, 93, [196, 27], by decide +kernel, by decide +kernel, by decide +kernel, thw_RX4_93, by decide +kernel, by decide +kernel, Or.inl ⟨by decide +kernel, by decide +kernel, by decide +kernel⟩⟩, fun _ h => absurd h List.not_mem_nil⟩
def kc_X4_requireDiver : List (Nat × Int32) := []
theorem hkc_X4_requireDiver : ∀ q ∈ kc_X4_requireDiver, Cond.constant RX4 q.1 q.2 ∈ zTs := fun _ h => absurd h List.not_mem_nil
def nw_X4_requireDiver : List (Nat × Nat × Nat × List Value) := []
theorem hnw_X4_requireDiver : ∀ q ∈ nw_X4_requireDiver, zNew RX4 q := fun _ h => absurd h List.not_mem_nil
set_option maxHeartbeats 4000000 in
set_option maxRecDepth 20000 in
theorem c_X4_requireDiver {l : Launch} (hl0 : l.stackTraces = false) : CT l yX4_requireDiver (.code yX4_requireDiver cX4_requireDiver 1 none) 2 1 6 false sp_X4_requireDiver := by
  refine zCT_of hl0 (own := RX4) fl_RX4 cs_X4_requireDiver nw_X4_requireDiver th_X4_requireDiver kc_X4_requireDiver (fun _ => []) false pg_X4_requireDiver rfl (by decide +kernel) hp_X4_requireDiver ⟨_, _, rfl, rfl⟩ hfl_RX4 (fun h => nomatch h) (hcs_X4_requireDiver hl0) hnw_X4_requireDiver hth_X4_requireDiver (fun _ _ h => absurd h List.not_mem_nil) hkc_X4_requireDiver (fun args w Q X v0 hv0 h => ?_)
  obtain ⟨x, rfl, h1, h2⟩ := h
  refine ⟨Nat.le_of_ble_eq_true rfl, 20, [], ?_, fun q hq => absurd hq List.not_mem_nil⟩
  (conv => whnf)
  refine And.intro (fun c => ?_) (fun c => ?_) <;> dsimp only at c
  · (conv => whnf)
    exact h2 (vp_in_neg c)
  · (conv => whnf)
    refine And.intro (fun d => ?_) (fun d => ?_) <;> dsimp only at d
    · (conv => whnf)
      exact h1 (vp_in_lt (by decide) c d)
    · (conv => whnf)
      exact h2 (vp_in_nlt (by decide) d)
def sp_X4_requireFinder : zSpec := zReq 6
def pg_X4_requireFinder : List zE := [(0, .iload_n 0, 1, []), (1, .ifCond .lt 9, 3, [10]), (4, .iload_n 0, 1, []), (5, .bipush 6, 2, [6]), (7, .if_icmp .lt 13, 3, [20]), (10, .new 89, 3, []), (20, .return_, 1, [])]
theorem hp_X4_requireFinder : ∀ q ∈ pg_X4_requireFinder, decode cX4_requireFinder q.1 = .ok (q.2.1, q.2.2.1) ∧ ztg q.2.1 q.1 q.2.2.1 q.2.2.2 = true := zpg_of (by decide +kernel)
def cs_X4_requireFinder : List (Nat × zCall) := []
theorem hcs_X4_requireFinder {l : Launch} (hl0 : l.stackTraces = false) : ∀ q ∈ cs_X4_requireFinder, zCallable l RX4 2 q := fun _ h => absurd h List.not_mem_nil
def th_X4_requireFinder : List (Nat × String) := [(10, "java/lang/IndexOutOfBoundsException")]
theorem hth_X4_requireFinder : ∀ q ∈ th_X4_requireFinder, zThrow cX4_requireFinder RX4 q := List.forall_mem_cons.mpr ⟨⟨"no such finder", 89, 239, 93, [196, 27], by decide +kernel, by decide +kernel, by decide +kernel, thw_RX4_93, by decide +kernel, by decide +kernel, Or.inl ⟨by decide +kernel, by decide +kernel, by decide +kernel⟩⟩, fun _ h => absurd h List.not_mem_nil⟩
def kc_X4_requireFinder : List (Nat × Int32) := []
theorem hkc_X4_requireFinder : ∀ q ∈ kc_X4_requireFinder, Cond.constant RX4 q.1 q.2 ∈ zTs := fun _ h => absurd h List.not_mem_nil
def nw_X4_requireFinder : List (Nat × Nat × Nat × List Value) := []
theorem hnw_X4_requireFinder : ∀ q ∈ nw_X4_requireFinder, zNew RX4 q := fun _ h => absurd h List.not_mem_nil
set_option maxHeartbeats 4000000 in
set_option maxRecDepth 20000 in
theorem c_X4_requireFinder {l : Launch} (hl0 : l.stackTraces = false) : CT l yX4_requireFinder (.code yX4_requireFinder cX4_requireFinder 1 none) 2 1 6 false sp_X4_requireFinder := by
  refine zCT_of hl0 (own := RX4) fl_RX4 cs_X4_requireFinder nw_X4_requireFinder th_X4_requireFinder kc_X4_requireFinder (fun _ => []) false pg_X4_requireFinder rfl (by decide +kernel) hp_X4_requireFinder ⟨_, _, rfl, rfl⟩ hfl_RX4 (fun h => nomatch h) (hcs_X4_requireFinder hl0) hnw_X4_requireFinder hth_X4_requireFinder (fun _ _ h => absurd h List.not_mem_nil) hkc_X4_requireFinder (fun args w Q X v0 hv0 h => ?_)
  obtain ⟨x, rfl, h1, h2⟩ := h
  refine ⟨Nat.le_of_ble_eq_true rfl, 20, [], ?_, fun q hq => absurd hq List.not_mem_nil⟩
  (conv => whnf)
  refine And.intro (fun c => ?_) (fun c => ?_) <;> dsimp only at c
  · (conv => whnf)
    exact h2 (vp_in_neg c)
  · (conv => whnf)
    refine And.intro (fun d => ?_) (fun d => ?_) <;> dsimp only at d
    · (conv => whnf)
      exact h1 (vp_in_lt (by decide) c d)
    · (conv => whnf)
      exact h2 (vp_in_nlt (by decide) d)
def sp_X4_requireWithin : zSpec := fun args w Q X => ∃ x lo hi, args = [.int x, .int lo, .int hi] ∧ (¬ x < lo → ¬ hi < x → Q none w) ∧ (x < lo ∨ hi < x → X zIAE w)
def pg_X4_requireWithin : List zE := [(0, .iload_n 0, 1, []), (1, .iload_n 1, 1, []), (2, .if_icmp .lt 8, 3, [10]), (5, .iload_n 0, 1, []), (6, .iload_n 2, 1, []), (7, .if_icmp .le 13, 3, [20]), (10, .new 249, 3, []), (20, .return_, 1, [])]
theorem hp_X4_requireWithin : ∀ q ∈ pg_X4_requireWithin, decode cX4_requireWithin q.1 = .ok (q.2.1, q.2.2.1) ∧ ztg q.2.1 q.1 q.2.2.1 q.2.2.2 = true := zpg_of (by decide +kernel)
def cs_X4_requireWithin : List (Nat × zCall) := []
theorem hcs_X4_requireWithin {l : Launch} (hl0 : l.stackTraces = false) : ∀ q ∈ cs_X4_requireWithin, zCallable l RX4 2 q := fun _ h => absurd h List.not_mem_nil
def th_X4_requireWithin : List (Nat × String) := [(10, "java/lang/IllegalArgumentException")]
theorem hth_X4_requireWithin : ∀ q ∈ th_X4_requireWithin, zThrow cX4_requireWithin RX4 q := List.forall_mem_cons.mpr ⟨⟨"out of range", 249, 251, 253, [269, 28], by decide +kernel, by decide +kernel, by decide +kernel, thw_RX4_253, by decide +kernel, by decide +kernel, Or.inl ⟨by decide +kernel, by decide +kernel, by decide +kernel⟩⟩, fun _ h => absurd h List.not_mem_nil⟩
def kc_X4_requireWithin : List (Nat × Int32) := []
theorem hkc_X4_requireWithin : ∀ q ∈ kc_X4_requireWithin, Cond.constant RX4 q.1 q.2 ∈ zTs := fun _ h => absurd h List.not_mem_nil
def nw_X4_requireWithin : List (Nat × Nat × Nat × List Value) := []
theorem hnw_X4_requireWithin : ∀ q ∈ nw_X4_requireWithin, zNew RX4 q := fun _ h => absurd h List.not_mem_nil
set_option maxHeartbeats 4000000 in
set_option maxRecDepth 20000 in
theorem c_X4_requireWithin {l : Launch} (hl0 : l.stackTraces = false) : CT l yX4_requireWithin (.code yX4_requireWithin cX4_requireWithin 3 none) 2 1 6 false sp_X4_requireWithin := by
  refine zCT_of hl0 (own := RX4) fl_RX4 cs_X4_requireWithin nw_X4_requireWithin th_X4_requireWithin kc_X4_requireWithin (fun _ => []) false pg_X4_requireWithin rfl (by decide +kernel) hp_X4_requireWithin ⟨_, _, rfl, rfl⟩ hfl_RX4 (fun h => nomatch h) (hcs_X4_requireWithin hl0) hnw_X4_requireWithin hth_X4_requireWithin (fun _ _ h => absurd h List.not_mem_nil) hkc_X4_requireWithin (fun args w Q X v0 hv0 h => ?_)
  obtain ⟨x, lo, hi, rfl, h1, h2⟩ := h
  refine ⟨Nat.le_of_ble_eq_true rfl, 20, [], ?_, fun q hq => absurd hq List.not_mem_nil⟩
  (conv => whnf)
  refine And.intro (fun c => ?_) (fun c => ?_) <;> dsimp only at c
  · (conv => whnf)
    exact h2 (Or.inl c)
  · (conv => whnf)
    refine And.intro (fun d => ?_) (fun d => ?_) <;> dsimp only at d
    · (conv => whnf)
      exact h2 (Or.inr d)
    · (conv => whnf)
      exact h1 c d
def sp_X4_requireHeight : zSpec := fun args w Q X => ∃ x, args = [.int x] ∧ (¬ x < nI 0 → ¬ nI 9 < x → Q none w) ∧ (x < nI 0 ∨ nI 9 < x → X zIAE w)
def pg_X4_requireHeight : List zE := [(0, .iload_n 0, 1, []), (1, .iconst 0, 1, [0]), (2, .bipush 9, 2, [9]), (4, .invokestatic 69, 3, []), (7, .return_, 1, [])]
theorem hp_X4_requireHeight : ∀ q ∈ pg_X4_requireHeight, decode cX4_requireHeight q.1 = .ok (q.2.1, q.2.2.1) ∧ ztg q.2.1 q.1 q.2.2.1 q.2.2.2 = true := zpg_of (by decide +kernel)
def cs_X4_requireHeight : List (Nat × zCall) := [(69, 1, 3, none, 1, 6, false, sp_X4_requireWithin)]
theorem hcs_X4_requireHeight {l : Launch} (hl0 : l.stackTraces = false) : ∀ q ∈ cs_X4_requireHeight, zCallable l RX4 3 q := List.forall_mem_cons.mpr ⟨zcS (ps := [266, 267, 14, 268]) (c_X4_requireWithin hl0) (by decide +kernel) ⟨by decide +kernel, by decide +kernel, by decide +kernel⟩ (by decide) (by decide), fun _ h => absurd h List.not_mem_nil⟩
def th_X4_requireHeight : List (Nat × String) := []
theorem hth_X4_requireHeight : ∀ q ∈ th_X4_requireHeight, zThrow cX4_requireHeight RX4 q := fun _ h => absurd h List.not_mem_nil
def kc_X4_requireHeight : List (Nat × Int32) := []
theorem hkc_X4_requireHeight : ∀ q ∈ kc_X4_requireHeight, Cond.constant RX4 q.1 q.2 ∈ zTs := fun _ h => absurd h List.not_mem_nil
def nw_X4_requireHeight : List (Nat × Nat × Nat × List Value) := []
theorem hnw_X4_requireHeight : ∀ q ∈ nw_X4_requireHeight, zNew RX4 q := fun _ h => absurd h List.not_mem_nil
set_option maxHeartbeats 4000000 in
set_option maxRecDepth 20000 in
theorem c_X4_requireHeight {l : Launch} (hl0 : l.stackTraces = false) : CT l yX4_requireHeight (.code yX4_requireHeight cX4_requireHeight 1 none) 3 1 6 false sp_X4_requireHeight := by
  refine zCT_of hl0 (own := RX4) fl_RX4 cs_X4_requireHeight nw_X4_requireHeight th_X4_requireHeight kc_X4_requireHeight (fun _ => []) false pg_X4_requireHeight rfl (by decide +kernel) hp_X4_requireHeight ⟨_, _, rfl, rfl⟩ hfl_RX4 (fun h => nomatch h) (hcs_X4_requireHeight hl0) hnw_X4_requireHeight hth_X4_requireHeight (fun _ _ h => absurd h List.not_mem_nil) hkc_X4_requireHeight (fun args w Q X v0 hv0 h => ?_)
  obtain ⟨x, rfl, h1, h2⟩ := h
  refine ⟨Nat.le_of_ble_eq_true rfl, 20, [], ?_, fun q hq => absurd hq List.not_mem_nil⟩
  (conv => whnf)
  refine ⟨_, _, _, rfl, fun a b => ?_, fun a => ?_⟩
  · (conv => whnf)
    exact h1 a b
  · (conv => whnf)
    exact h2 a
def sp_X4_requireClaim : zSpec := fun args w Q X => ∃ α ν r n x, n ≤ 40 ∧ ν 3 = nI n ∧ args = [.ref 0, .int x] ∧ w = WX α ν r ∧ (vp_in x n → Q none (WX α ν r)) ∧ (¬ vp_in x n → X zIOO (WX α ν r))
def pg_X4_requireClaim : List zE := [(0, .aload_n 0, 1, []), (1, .getfield 26, 3, []), (4, .iload_n 1, 1, []), (5, .invokevirtual 241, 3, []), (8, .ifCond .ne 13, 3, [21]), (11, .new 89, 3, []), (21, .return_, 1, [])]
theorem hp_X4_requireClaim : ∀ q ∈ pg_X4_requireClaim, decode cX4_requireClaim q.1 = .ok (q.2.1, q.2.2.1) ∧ ztg q.2.1 q.1 q.2.2.1 q.2.2.2 = true := zpg_of (by decide +kernel)
def cs_X4_requireClaim : List (Nat × zCall) := [(241, 0, 2, some 2, 0, 0, false, sp_X1_has)]
theorem hcs_X4_requireClaim {l : Launch} (hl0 : l.stackTraces = false) : ∀ q ∈ cs_X4_requireClaim, zCallable l RX4 2 q := List.forall_mem_cons.mpr ⟨zcV (C := (RX1, TX1, 4)) (ps := [456, 433, 434, 18, 435]) (c_X1_has hl0) (by decide +kernel) rfl ⟨rfl, by decide +kernel, by decide +kernel, by decide +kernel⟩ (by decide) (by decide), fun _ h => absurd h List.not_mem_nil⟩
def th_X4_requireClaim : List (Nat × String) := [(11, "java/lang/IndexOutOfBoundsException")]
theorem hth_X4_requireClaim : ∀ q ∈ th_X4_requireClaim, zThrow cX4_requireClaim RX4 q := List.forall_mem_cons.mpr ⟨⟨"no such claim", 89, 244, 93, [196, 27], by decide +kernel, by decide +kernel, by decide +kernel, thw_RX4_93, by decide +kernel, by decide +kernel, Or.inl ⟨by decide +kernel, by decide +kernel, by decide +kernel⟩⟩, fun _ h => absurd h List.not_mem_nil⟩
def kc_X4_requireClaim : List (Nat × Int32) := []
theorem hkc_X4_requireClaim : ∀ q ∈ kc_X4_requireClaim, Cond.constant RX4 q.1 q.2 ∈ zTs := fun _ h => absurd h List.not_mem_nil
def nw_X4_requireClaim : List (Nat × Nat × Nat × List Value) := []
theorem hnw_X4_requireClaim : ∀ q ∈ nw_X4_requireClaim, zNew RX4 q := fun _ h => absurd h List.not_mem_nil
set_option maxHeartbeats 4000000 in
set_option maxRecDepth 20000 in
theorem c_X4_requireClaim {l : Launch} (hl0 : l.stackTraces = false) : CT l yX4_requireClaim (.code yX4_requireClaim cX4_requireClaim 2 none) 2 1 6 false sp_X4_requireClaim := by
  refine zCT_of hl0 (own := RX4) fl_RX4 cs_X4_requireClaim nw_X4_requireClaim th_X4_requireClaim kc_X4_requireClaim (fun _ => []) false pg_X4_requireClaim rfl (by decide +kernel) hp_X4_requireClaim ⟨_, _, rfl, rfl⟩ hfl_RX4 (fun h => nomatch h) (hcs_X4_requireClaim hl0) hnw_X4_requireClaim hth_X4_requireClaim (fun _ _ h => absurd h List.not_mem_nil) hkc_X4_requireClaim (fun args w Q X v0 hv0 h => ?_)
  obtain ⟨α, ν, r, n, x, hn, hν, rfl, rfl, h1, h2⟩ := h
  refine ⟨Nat.le_of_ble_eq_true rfl, 20, [], ?_, fun q hq => absurd hq List.not_mem_nil⟩
  (conv => whnf)
  refine ⟨α, ν, r, n, x, hn, hν, rfl, rfl, fun c => ?_, fun c => ?_⟩
  · (conv => whnf)
    refine And.intro (fun c => absurd c (show ¬ _ from (by decide))) (fun _ => ?_)
    (conv => whnf)
    exact h1 c
  · (conv => whnf)
    refine And.intro (fun _ => ?_) (fun c => absurd (show _ from rfl) c)
    (conv => whnf)
    exact h2 c
def sp_X4_requireThing : zSpec := fun args w Q X => ∃ α ν r n x, n ≤ 60 ∧ ν 4 = nI n ∧ args = [.ref 0, .int x] ∧ w = WX α ν r ∧ (vp_in x n → Q none (WX α ν r)) ∧ (¬ vp_in x n → X zIOO (WX α ν r))
def pg_X4_requireThing : List zE := [(0, .aload_n 0, 1, []), (1, .getfield 33, 3, []), (4, .iload_n 1, 1, []), (5, .invokevirtual 246, 3, []), (8, .ifCond .ne 13, 3, [21]), (11, .new 89, 3, []), (21, .return_, 1, [])]
theorem hp_X4_requireThing : ∀ q ∈ pg_X4_requireThing, decode cX4_requireThing q.1 = .ok (q.2.1, q.2.2.1) ∧ ztg q.2.1 q.1 q.2.2.1 q.2.2.2 = true := zpg_of (by decide +kernel)
def cs_X4_requireThing : List (Nat × zCall) := [(246, 0, 2, some 4, 0, 0, false, sp_X3_has)]
theorem hcs_X4_requireThing {l : Launch} (hl0 : l.stackTraces = false) : ∀ q ∈ cs_X4_requireThing, zCallable l RX4 2 q := List.forall_mem_cons.mpr ⟨zcV (C := (RX3, TX3, 5)) (ps := [478, 479, 480, 19, 481]) (c_X3_has hl0) (by decide +kernel) rfl ⟨rfl, by decide +kernel, by decide +kernel, by decide +kernel⟩ (by decide) (by decide), fun _ h => absurd h List.not_mem_nil⟩
def th_X4_requireThing : List (Nat × String) := [(11, "java/lang/IndexOutOfBoundsException")]
theorem hth_X4_requireThing : ∀ q ∈ th_X4_requireThing, zThrow cX4_requireThing RX4 q := List.forall_mem_cons.mpr ⟨⟨"no such thing", 89, 247, 93, [196, 27], by decide +kernel, by decide +kernel, by decide +kernel, thw_RX4_93, by decide +kernel, by decide +kernel, Or.inl ⟨by decide +kernel, by decide +kernel, by decide +kernel⟩⟩, fun _ h => absurd h List.not_mem_nil⟩
def kc_X4_requireThing : List (Nat × Int32) := []
theorem hkc_X4_requireThing : ∀ q ∈ kc_X4_requireThing, Cond.constant RX4 q.1 q.2 ∈ zTs := fun _ h => absurd h List.not_mem_nil
def nw_X4_requireThing : List (Nat × Nat × Nat × List Value) := []
theorem hnw_X4_requireThing : ∀ q ∈ nw_X4_requireThing, zNew RX4 q := fun _ h => absurd h List.not_mem_nil
set_option maxHeartbeats 4000000 in
set_option maxRecDepth 20000 in
theorem c_X4_requireThing {l : Launch} (hl0 : l.stackTraces = false) : CT l yX4_requireThing (.code yX4_requireThing cX4_requireThing 2 none) 2 1 6 false sp_X4_requireThing := by
  refine zCT_of hl0 (own := RX4) fl_RX4 cs_X4_requireThing nw_X4_requireThing th_X4_requireThing kc_X4_requireThing (fun _ => []) false pg_X4_requireThing rfl (by decide +kernel) hp_X4_requireThing ⟨_, _, rfl, rfl⟩ hfl_RX4 (fun h => nomatch h) (hcs_X4_requireThing hl0) hnw_X4_requireThing hth_X4_requireThing (fun _ _ h => absurd h List.not_mem_nil) hkc_X4_requireThing (fun args w Q X v0 hv0 h => ?_)
  obtain ⟨α, ν, r, n, x, hn, hν, rfl, rfl, h1, h2⟩ := h
  refine ⟨Nat.le_of_ble_eq_true rfl, 20, [], ?_, fun q hq => absurd hq List.not_mem_nil⟩
  (conv => whnf)
  refine ⟨α, ν, r, n, x, hn, hν, rfl, rfl, fun c => ?_, fun c => ?_⟩
  · (conv => whnf)
    refine And.intro (fun c => absurd c (show ¬ _ from (by decide))) (fun _ => ?_)
    (conv => whnf)
    exact h1 c
  · (conv => whnf)
    refine And.intro (fun _ => ?_) (fun c => absurd (show _ from rfl) c)
    (conv => whnf)
    exact h2 c
def sp_X4_requireFree : zSpec := fun args w Q X => ∃ α ν r d, d < 4 ∧ args = [.ref 0, .int (nI d)] ∧ w = WX α ν r ∧ (zrst (α 7 d) (ν 0) = 0 → Q none (WX α ν r)) ∧ (¬ zrst (α 7 d) (ν 0) = 0 → X zISE (WX α ν r))
def pg_X4_requireFree : List zE := [(0, .aload_n 0, 1, []), (1, .getfield 19, 3, []), (4, .iload_n 1, 1, []), (5, .aload_n 0, 1, []), (6, .getfield 44, 3, []), (9, .invokevirtual 254, 3, []), (12, .ifCond .ne 14, 3, [26]), (15, .new 127, 3, []), (26, .return_, 1, [])]
theorem hp_X4_requireFree : ∀ q ∈ pg_X4_requireFree, decode cX4_requireFree q.1 = .ok (q.2.1, q.2.2.1) ∧ ztg q.2.1 q.1 q.2.2.1 q.2.2.2 = true := zpg_of (by decide +kernel)
def cs_X4_requireFree : List (Nat × zCall) := [(254, 0, 3, some 3, 0, 0, false, sp_X2_isFree)]
theorem hcs_X4_requireFree {l : Launch} (hl0 : l.stackTraces = false) : ∀ q ∈ cs_X4_requireFree, zCallable l RX4 4 q := List.forall_mem_cons.mpr ⟨zcV (C := (RX2, TX2, 2)) (ps := [520, 521, 522, 17, 523]) (c_X2_isFree hl0) (by decide +kernel) rfl ⟨rfl, by decide +kernel, by decide +kernel, by decide +kernel⟩ (by decide) (by decide), fun _ h => absurd h List.not_mem_nil⟩
def th_X4_requireFree : List (Nat × String) := [(15, "java/lang/IllegalStateException")]
theorem hth_X4_requireFree : ∀ q ∈ th_X4_requireFree, zThrow cX4_requireFree RX4 q := List.forall_mem_cons.mpr ⟨⟨"the diver is not free", 127, 257, 131, [392, 30], by decide +kernel, by decide +kernel, by decide +kernel, thw_RX4_131, by decide +kernel, by decide +kernel, Or.inr ⟨by decide +kernel, by decide +kernel, by decide +kernel⟩⟩, fun _ h => absurd h List.not_mem_nil⟩
def kc_X4_requireFree : List (Nat × Int32) := []
theorem hkc_X4_requireFree : ∀ q ∈ kc_X4_requireFree, Cond.constant RX4 q.1 q.2 ∈ zTs := fun _ h => absurd h List.not_mem_nil
def nw_X4_requireFree : List (Nat × Nat × Nat × List Value) := []
theorem hnw_X4_requireFree : ∀ q ∈ nw_X4_requireFree, zNew RX4 q := fun _ h => absurd h List.not_mem_nil
set_option maxHeartbeats 4000000 in
set_option maxRecDepth 20000 in
theorem c_X4_requireFree {l : Launch} (hl0 : l.stackTraces = false) : CT l yX4_requireFree (.code yX4_requireFree cX4_requireFree 2 none) 4 1 6 false sp_X4_requireFree := by
  refine zCT_of hl0 (own := RX4) fl_RX4 cs_X4_requireFree nw_X4_requireFree th_X4_requireFree kc_X4_requireFree (fun _ => []) false pg_X4_requireFree rfl (by decide +kernel) hp_X4_requireFree ⟨_, _, rfl, rfl⟩ hfl_RX4 (fun h => nomatch h) (hcs_X4_requireFree hl0) hnw_X4_requireFree hth_X4_requireFree (fun _ _ h => absurd h List.not_mem_nil) hkc_X4_requireFree (fun args w Q X v0 hv0 h => ?_)
  obtain ⟨α, ν, r, d, hd, rfl, rfl, h1, h2⟩ := h
  refine ⟨Nat.le_of_ble_eq_true rfl, 20, [], ?_, fun q hq => absurd hq List.not_mem_nil⟩
  (conv => whnf)
  refine ⟨α, ν, r, d, ν 0, hd, rfl, rfl, fun c => ?_, fun c => ?_⟩
  · (conv => whnf)
    refine And.intro (fun c => absurd c (show ¬ _ from (by decide))) (fun _ => ?_)
    (conv => whnf)
    exact h1 c
  · (conv => whnf)
    refine And.intro (fun _ => ?_) (fun c => absurd (show _ from rfl) c)
    (conv => whnf)
    exact h2 c
def zDv (α : Nat → Nat → Int32) (ν : Nat → Int32) (d k m : Nat) : Prop := zrst (α 7 d) (ν 0) = 0 ∧ ¬ α 6 d < nI (m * zau k)
def sp_X4_requireDive : zSpec := fun args w Q X => ∃ α ν r d k m, d < 4 ∧ k < 96 ∧ m ≤ 60 ∧ args = [.ref 0, .int (nI d), .int (nI k), .int (nI m)] ∧ w = WX α ν r ∧ (zDv α ν d k m → Q none (WX α ν r)) ∧ (¬ zDv α ν d k m → X zISE (WX α ν r))
def pg_X4_requireDive : List zE := [(0, .aload_n 0, 1, []), (1, .iload_n 1, 1, []), (2, .invokevirtual 139, 3, []), (5, .aload_n 0, 1, []), (6, .getfield 19, 3, []), (9, .iload_n 1, 1, []), (10, .invokevirtual 145, 3, []), (13, .iload_n 2, 1, []), (14, .iload_n 3, 1, []), (15, .invokestatic 259, 3, []), (18, .if_icmp .ge 14, 3, [32]), (21, .new 127, 3, []), (32, .return_, 1, [])]
theorem hp_X4_requireDive : ∀ q ∈ pg_X4_requireDive, decode cX4_requireDive q.1 = .ok (q.2.1, q.2.2.1) ∧ ztg q.2.1 q.1 q.2.2.1 q.2.2.2 = true := zpg_of (by decide +kernel)
def cs_X4_requireDive : List (Nat × zCall) := [(139, 0, 2, some 5, 1, 6, false, sp_X4_requireFree), (145, 0, 2, some 3, 0, 0, false, sp_X2_airOf), (259, 1, 2, none, 0, 0, false, sp_X2_airForDive)]
theorem hcs_X4_requireDive {l : Launch} (hl0 : l.stackTraces = false) : ∀ q ∈ cs_X4_requireDive, zCallable l RX4 5 q := List.forall_mem_cons.mpr ⟨zcV (C := (RX4, TX4, 6)) (ps := [516, 518, 9, 14, 519]) (c_X4_requireFree hl0) (by decide +kernel) rfl ⟨rfl, by decide +kernel, by decide +kernel, by decide +kernel⟩ (by decide) (by decide), List.forall_mem_cons.mpr ⟨zcV (C := (RX2, TX2, 2)) (ps := [354, 355, 356, 17, 357]) (c_X2_airOf hl0) (by decide +kernel) rfl ⟨rfl, by decide +kernel, by decide +kernel, by decide +kernel⟩ (by decide) (by decide), List.forall_mem_cons.mpr ⟨zcS (ps := [526, 381, 17, 382]) (c_X2_airForDive hl0) (by decide +kernel) ⟨by decide +kernel, by decide +kernel, by decide +kernel⟩ (by decide) (by decide), fun _ h => absurd h List.not_mem_nil⟩⟩⟩
def th_X4_requireDive : List (Nat × String) := [(21, "java/lang/IllegalStateException")]
theorem hth_X4_requireDive : ∀ q ∈ th_X4_requireDive, zThrow cX4_requireDive RX4 q := List.forall_mem_cons.mpr ⟨⟨"too little air", 127, 262, 131, [392, 30], by decide +kernel, by decide +kernel, by decide +kernel, thw_RX4_131, by decide +kernel, by decide +kernel, Or.inr ⟨by decide +kernel, by decide +kernel, by decide +kernel⟩⟩, fun _ h => absurd h List.not_mem_nil⟩
def kc_X4_requireDive : List (Nat × Int32) := []
theorem hkc_X4_requireDive : ∀ q ∈ kc_X4_requireDive, Cond.constant RX4 q.1 q.2 ∈ zTs := fun _ h => absurd h List.not_mem_nil
def nw_X4_requireDive : List (Nat × Nat × Nat × List Value) := []
theorem hnw_X4_requireDive : ∀ q ∈ nw_X4_requireDive, zNew RX4 q := fun _ h => absurd h List.not_mem_nil
set_option maxHeartbeats 4000000 in
set_option maxRecDepth 20000 in
theorem c_X4_requireDive {l : Launch} (hl0 : l.stackTraces = false) : CT l yX4_requireDive (.code yX4_requireDive cX4_requireDive 4 none) 5 2 12 false sp_X4_requireDive := by
  refine zCT_of hl0 (own := RX4) fl_RX4 cs_X4_requireDive nw_X4_requireDive th_X4_requireDive kc_X4_requireDive (fun _ => []) false pg_X4_requireDive rfl (by decide +kernel) hp_X4_requireDive ⟨_, _, rfl, rfl⟩ hfl_RX4 (fun h => nomatch h) (hcs_X4_requireDive hl0) hnw_X4_requireDive hth_X4_requireDive (fun _ _ h => absurd h List.not_mem_nil) hkc_X4_requireDive (fun args w Q X v0 hv0 h => ?_)
  obtain ⟨α, ν, r, d, k, m, hd, hk, hm, rfl, rfl, h1, h2⟩ := h
  refine ⟨Nat.le_of_ble_eq_true rfl, 20, [], ?_, fun q hq => absurd hq List.not_mem_nil⟩
  (conv => whnf)
  refine ⟨α, ν, r, d, hd, rfl, rfl, fun c => ?_, fun c => ?_⟩
  · (conv => whnf)
    refine ⟨α, ν, r, d, hd, rfl, rfl, ?_⟩
    (conv => whnf)
    refine ⟨k, m, hk, hm, rfl, ?_⟩
    (conv => whnf)
    refine And.intro (fun e => ?_) (fun e => ?_) <;> dsimp only at e
    · (conv => whnf)
      exact h2 (fun q => q.2 e)
    · (conv => whnf)
      exact h1 ⟨c, e⟩
  · (conv => whnf)
    exact h2 (fun q => c q.1)
/-- the name of a shape -/
def zNm (α : Nat → Nat → Int32) (s : Int32) : Int32 := (znm (α 3) (α 2) (α 1) s 96).2
def zBad (α : Nat → Nat → Int32) (s : Int32) : Prop := s = -1 ∨ zNm α s = nI 1
def sp_X4_requireOpenShape : zSpec := fun args w Q X => ∃ α ν r s, args = [.ref 0, .int s] ∧ w = WX α ν r ∧ (¬ zBad α s → Q none (WX α ν r)) ∧ (zBad α s → X zISE (WX α ν r))
def pg_X4_requireOpenShape : List zE := [(0, .iload_n 1, 1, []), (1, .iconst (-1), 1, []), (2, .if_icmp .ne 14, 3, [16]), (5, .new 127, 3, []), (16, .aload_n 0, 1, []), (17, .getfield 12, 3, []), (20, .iload_n 1, 1, []), (21, .invokevirtual 86, 3, []), (24, .iconst 1, 1, [1]), (25, .if_icmp .ne 14, 3, [39]), (28, .new 127, 3, []), (39, .return_, 1, [])]
theorem hp_X4_requireOpenShape : ∀ q ∈ pg_X4_requireOpenShape, decode cX4_requireOpenShape q.1 = .ok (q.2.1, q.2.2.1) ∧ ztg q.2.1 q.1 q.2.2.1 q.2.2.2 = true := zpg_of (by decide +kernel)
def cs_X4_requireOpenShape : List (Nat × zCall) := [(86, 0, 2, some 1, 0, 0, false, sp_X0_nameOfShape)]
theorem hcs_X4_requireOpenShape {l : Launch} (hl0 : l.stackTraces = false) : ∀ q ∈ cs_X4_requireOpenShape, zCallable l RX4 4 q := List.forall_mem_cons.mpr ⟨zcV (C := (RX0, TX0, 8)) (ps := [338, 339, 340, 15, 341]) (c_X0_nameOfShape hl0) (by decide +kernel) rfl ⟨rfl, by decide +kernel, by decide +kernel, by decide +kernel⟩ (by decide) (by decide), fun _ h => absurd h List.not_mem_nil⟩
def th_X4_requireOpenShape : List (Nat × String) := [(5, "java/lang/IllegalStateException"), (28, "java/lang/IllegalStateException")]
theorem hth_X4_requireOpenShape : ∀ q ∈ th_X4_requireOpenShape, zThrow cX4_requireOpenShape RX4 q := List.forall_mem_cons.mpr ⟨⟨"no shape there", 127, 264, 131, [392, 30], by decide +kernel, by decide +kernel, by decide +kernel, thw_RX4_131, by decide +kernel, by decide +kernel, Or.inr ⟨by decide +kernel, by decide +kernel, by decide +kernel⟩⟩, List.forall_mem_cons.mpr ⟨⟨"a rock", 127, 266, 131, [392, 30], by decide +kernel, by decide +kernel, by decide +kernel, thw_RX4_131, by decide +kernel, by decide +kernel, Or.inr ⟨by decide +kernel, by decide +kernel, by decide +kernel⟩⟩, fun _ h => absurd h List.not_mem_nil⟩⟩
def kc_X4_requireOpenShape : List (Nat × Int32) := []
theorem hkc_X4_requireOpenShape : ∀ q ∈ kc_X4_requireOpenShape, Cond.constant RX4 q.1 q.2 ∈ zTs := fun _ h => absurd h List.not_mem_nil
def nw_X4_requireOpenShape : List (Nat × Nat × Nat × List Value) := []
theorem hnw_X4_requireOpenShape : ∀ q ∈ nw_X4_requireOpenShape, zNew RX4 q := fun _ h => absurd h List.not_mem_nil
set_option maxHeartbeats 4000000 in
set_option maxRecDepth 20000 in
theorem c_X4_requireOpenShape {l : Launch} (hl0 : l.stackTraces = false) : CT l yX4_requireOpenShape (.code yX4_requireOpenShape cX4_requireOpenShape 2 none) 4 2 12 false sp_X4_requireOpenShape := by
  refine zCT_of hl0 (own := RX4) fl_RX4 cs_X4_requireOpenShape nw_X4_requireOpenShape th_X4_requireOpenShape kc_X4_requireOpenShape (fun _ => []) false pg_X4_requireOpenShape rfl (by decide +kernel) hp_X4_requireOpenShape ⟨_, _, rfl, rfl⟩ hfl_RX4 (fun h => nomatch h) (hcs_X4_requireOpenShape hl0) hnw_X4_requireOpenShape hth_X4_requireOpenShape (fun _ _ h => absurd h List.not_mem_nil) hkc_X4_requireOpenShape (fun args w Q X v0 hv0 h => ?_)
  obtain ⟨α, ν, r, s, rfl, rfl, h1, h2⟩ := h
  refine ⟨Nat.le_of_ble_eq_true rfl, 20, [], ?_, fun q hq => absurd hq List.not_mem_nil⟩
  (conv => whnf)
  refine And.intro (fun c => ?_) (fun c => ?_) <;> dsimp only at c
  · (conv => whnf)
    exact h2 (Or.inl c)
  · (conv => whnf)
    refine ⟨α, ν, r, s, rfl, rfl, ?_⟩
    (conv => whnf)
    refine And.intro (fun d => ?_) (fun d => ?_) <;> dsimp only at d
    · (conv => whnf)
      exact h2 (Or.inr d)
    · (conv => whnf)
      exact h1 (fun q => q.elim c d)
/-- the least place below c of which P holds, or -1 -/
def zHold (P : Nat → Prop) (c : Nat) (x : Int32) : Prop := (∃ j, j < c ∧ P j ∧ (∀ i, i < j → ¬ P i) ∧ x = nI j) ∨ ((∀ j, j < c → ¬ P j) ∧ x = -1)
theorem zHold_one {P P' : Nat → Prop} {c : Nat} {x y : Int32} (e : ∀ j, j < c → (P j ↔ P' j)) (h : zHold P c x) (h' : zHold P' c y) : x = y := by
  rcases h with ⟨j, hj, p, q, rfl⟩ | ⟨q, rfl⟩
  · rcases h' with ⟨j', hj', p', q', rfl⟩ | ⟨q', rfl⟩
    · have : j = j' := by
        apply Classical.byContradiction
        intro ne
        rcases Nat.lt_or_gt_of_ne ne with h | h
        · exact q' j h ((e j hj).mp p)
        · exact q j' h ((e j' hj').mpr p')
      rw [this]
    · exact absurd ((e j hj).mp p) (q' j hj)
  · rcases h' with ⟨j', hj', p', q', rfl⟩ | ⟨q', rfl⟩
    · exact absurd ((e j' hj').mpr p') (q j' hj')
    · rfl
def zHr (bad : Prop) (P : Nat → Prop) (c : Nat) (x : Int32) : Prop := (bad ∧ x = -1) ∨ (¬ bad ∧ zHold P c x)
theorem zHr_one {bad bad' : Prop} {P P' : Nat → Prop} {c : Nat} {x y : Int32} (eb : bad ↔ bad') (e : ∀ j, j < c → (P j ↔ P' j)) (h : zHr bad P c x) (h' : zHr bad' P' c y) : x = y := by
  rcases h with ⟨b, rfl⟩ | ⟨b, h⟩
  · rcases h' with ⟨b', rfl⟩ | ⟨b', h'⟩
    · rfl
    · exact absurd (eb.mp b) b'
  · rcases h' with ⟨b', rfl⟩ | ⟨b', h'⟩
    · exact absurd (eb.mpr b') b
    · exact zHold_one e h h'
theorem zHr_of {bad : Prop} {P : Nat → Prop} {c : Nat} {x : Int32} (h : zHr bad P c x) : x = -1 ∨ ∃ j, j < c ∧ x = nI j := by
  rcases h with ⟨_, rfl⟩ | ⟨_, ⟨j, hj, _, _, rfl⟩ | ⟨_, rfl⟩⟩
  · exact Or.inl rfl
  · exact Or.inr ⟨j, hj, rfl⟩
  · exact Or.inl rfl
/-- a claim that runs, on a cell of shape s -/
def zP (α : Nat → Nat → Int32) (ν : Nat → Int32) (s : Int32) (j : Nat) : Prop := ν 0 < α 10 j ∧ α 3 (α 9 j).toNatClampNeg = s
def zHR (α : Nat → Nat → Int32) (ν : Nat → Int32) (c : Nat) (s x : Int32) : Prop := zHr (zBad α s) (zP α ν s) c x
/-- the claims' cells are cells -/
def zCk (α : Nat → Nat → Int32) (ν : Nat → Int32) (c : Nat) : Prop := c ≤ 40 ∧ ν 3 = nI c ∧ ∀ j, j < c → ∃ k, k < 96 ∧ α 9 j = nI k
def sp_X4_claimOnShape : zSpec := fun args w Q _ => ∃ α ν r c s, zCk α ν c ∧ args = [.ref 0, .int s] ∧ w = WX α ν r ∧ ∀ x, zHR α ν c s x → Q (some (.int x)) (WX α ν r)
def pg_X4_claimOnShape : List zE := [(0, .iload_n 1, 1, []), (1, .iconst (-1), 1, []), (2, .if_icmp .eq 15, 3, [17]), (5, .aload_n 0, 1, []), (6, .getfield 12, 3, []), (9, .iload_n 1, 1, []), (10, .invokevirtual 86, 3, []), (13, .iconst 1, 1, [1]), (14, .if_icmp .ne 5, 3, [19]), (17, .iconst (-1), 1, []), (18, .ireturn, 1, []), (19, .iconst 0, 1, [0]), (20, .istore_n 2, 1, []), (21, .iload_n 2, 1, []), (22, .aload_n 0, 1, []), (23, .getfield 26, 3, []), (26, .invokevirtual 187, 3, []), (29, .if_icmp .ge 45, 3, [74]), (32, .aload_n 0, 1, []), (33, .getfield 26, 3, []), (36, .iload_n 2, 1, []), (37, .aload_n 0, 1, []), (38, .getfield 44, 3, []), (41, .invokevirtual 169, 3, []), (44, .ifCond .eq 24, 3, [68]), (47, .aload_n 0, 1, []), (48, .getfield 12, 3, []), (51, .aload_n 0, 1, []), (52, .getfield 26, 3, []), (55, .iload_n 2, 1, []), (56, .invokevirtual 190, 3, []), (59, .invokevirtual 77, 3, []), (62, .iload_n 1, 1, []), (63, .if_icmp .ne 5, 3, [68]), (66, .iload_n 2, 1, []), (67, .ireturn, 1, []), (68, .iinc 2 1, 3, [1]), (71, .goto (-50), 3, [21]), (74, .iconst (-1), 1, []), (75, .ireturn, 1, [])]
theorem hp_X4_claimOnShape : ∀ q ∈ pg_X4_claimOnShape, decode cX4_claimOnShape q.1 = .ok (q.2.1, q.2.2.1) ∧ ztg q.2.1 q.1 q.2.2.1 q.2.2.2 = true := zpg_of (by decide +kernel)
def cs_X4_claimOnShape : List (Nat × zCall) := [(86, 0, 2, some 1, 0, 0, false, sp_X0_nameOfShape), (187, 0, 1, some 2, 0, 0, false, sp_X1_count), (169, 0, 3, some 2, 0, 0, false, sp_X1_isRunning), (190, 0, 2, some 2, 0, 0, false, sp_X1_cellOf), (77, 0, 2, some 1, 0, 0, false, sp_X0_shapeAt)]
theorem hcs_X4_claimOnShape {l : Launch} (hl0 : l.stackTraces = false) : ∀ q ∈ cs_X4_claimOnShape, zCallable l RX4 4 q := List.forall_mem_cons.mpr ⟨zcV (C := (RX0, TX0, 8)) (ps := [338, 339, 340, 15, 341]) (c_X0_nameOfShape hl0) (by decide +kernel) rfl ⟨rfl, by decide +kernel, by decide +kernel, by decide +kernel⟩ (by decide) (by decide), List.forall_mem_cons.mpr ⟨zcV (C := (RX1, TX1, 4)) (ps := [424, 425, 426, 18, 427]) (c_X1_count hl0) (by decide +kernel) rfl ⟨rfl, by decide +kernel, by decide +kernel, by decide +kernel⟩ (by decide) (by decide), List.forall_mem_cons.mpr ⟨zcV (C := (RX1, TX1, 4)) (ps := [428, 429, 430, 18, 431]) (c_X1_isRunning hl0) (by decide +kernel) rfl ⟨rfl, by decide +kernel, by decide +kernel, by decide +kernel⟩ (by decide) (by decide), List.forall_mem_cons.mpr ⟨zcV (C := (RX1, TX1, 4)) (ps := [436, 437, 438, 18, 439]) (c_X1_cellOf hl0) (by decide +kernel) rfl ⟨rfl, by decide +kernel, by decide +kernel, by decide +kernel⟩ (by decide) (by decide), List.forall_mem_cons.mpr ⟨zcV (C := (RX0, TX0, 8)) (ps := [330, 331, 332, 15, 333]) (c_X0_shapeAt hl0) (by decide +kernel) rfl ⟨rfl, by decide +kernel, by decide +kernel, by decide +kernel⟩ (by decide) (by decide), fun _ h => absurd h List.not_mem_nil⟩⟩⟩⟩⟩
def th_X4_claimOnShape : List (Nat × String) := []
theorem hth_X4_claimOnShape : ∀ q ∈ th_X4_claimOnShape, zThrow cX4_claimOnShape RX4 q := fun _ h => absurd h List.not_mem_nil
def kc_X4_claimOnShape : List (Nat × Int32) := []
theorem hkc_X4_claimOnShape : ∀ q ∈ kc_X4_claimOnShape, Cond.constant RX4 q.1 q.2 ∈ zTs := fun _ h => absurd h List.not_mem_nil
def nw_X4_claimOnShape : List (Nat × Nat × Nat × List Value) := []
theorem hnw_X4_claimOnShape : ∀ q ∈ nw_X4_claimOnShape, zNew RX4 q := fun _ h => absurd h List.not_mem_nil
set_option maxHeartbeats 4000000 in
set_option maxRecDepth 20000 in
theorem c_X4_claimOnShape {l : Launch} (hl0 : l.stackTraces = false) : CT l yX4_claimOnShape (.code yX4_claimOnShape cX4_claimOnShape 3 (some .int)) 4 0 0 false sp_X4_claimOnShape := by
  refine zCT_of hl0 (own := RX4) fl_RX4 cs_X4_claimOnShape nw_X4_claimOnShape th_X4_claimOnShape kc_X4_claimOnShape (fun _ => []) false pg_X4_claimOnShape rfl (by decide +kernel) hp_X4_claimOnShape ⟨_, _, rfl, rfl⟩ hfl_RX4 (fun h => nomatch h) (hcs_X4_claimOnShape hl0) hnw_X4_claimOnShape hth_X4_claimOnShape (fun _ _ h => absurd h List.not_mem_nil) hkc_X4_claimOnShape (fun args w Q X v0 hv0 h => ?_)
  obtain ⟨α, ν, r, n, s, ⟨hn, hν, hk⟩, rfl, rfl, hQ⟩ := h
  refine ⟨Nat.le_of_ble_eq_true rfl, 60, [(21, fun m L S w' cu su => ∃ i, zsub [(0, .ref 0), (1, .int s), (2, .int (nI i))] L ∧ S = [] ∧ w' = WX α ν r ∧ ¬ zBad α s ∧ i ≤ n ∧ (∀ j, j < i → ¬ zP α ν s j) ∧ m = 40 - i ∧ cu = 0 ∧ su = 0)], ?_, zone ?_⟩
  · (conv => whnf)
    refine And.intro (fun c => ?_) (fun c => ?_) <;> dsimp only at c
    · (conv => whnf)
      exact hQ (-1) (Or.inl ⟨Or.inl c, rfl⟩)
    · (conv => whnf)
      refine ⟨α, ν, r, s, rfl, rfl, ?_⟩
      (conv => whnf)
      refine And.intro (fun d => ?_) (fun d => ?_) <;> dsimp only at d
      · (conv => whnf)
        exact hQ (-1) (Or.inl ⟨Or.inr d, rfl⟩)
      · (conv => whnf)
        exact ⟨40, 0, ⟨rfl, rfl, rfl, trivial⟩, rfl, rfl, fun q => q.elim c d, Nat.zero_le _, fun j hj => absurd hj (Nat.not_lt_zero j), rfl, rfl, rfl⟩
  · rintro m L S w' cu su ⟨i, hL, rfl, rfl, hb, hi, hno, rfl, rfl, rfl⟩
    refine ⟨_, hL, ?_⟩
    (conv => whnf)
    refine ⟨α, ν, r, rfl, rfl, ?_⟩
    (conv => whnf)
    rw [hν]
    refine And.intro (fun c => ?_) (fun c => ?_)
    · have hlt : i < n := (nI_ltI (by omega) (by omega)).mp c
      obtain ⟨k, hk1, hk2⟩ := hk i hlt
      have hnext : ¬ zP α ν s i → ∀ j, j < i + 1 → ¬ zP α ν s j := fun h j hj => by
        by_cases e : j < i
        · exact hno j e
        · have : j = i := by omega
          rw [this]; exact h
      (conv => whnf)
      refine ⟨α, ν, r, n, i, ν 0, hn, hν, hlt, rfl, rfl, fun d => ?_, fun d => ?_⟩
      · (conv => whnf)
        refine And.intro (fun c => absurd c (show ¬ _ from (by decide))) (fun _ => ?_)
        (conv => whnf)
        refine ⟨α, ν, r, n, i, hn, hν, hlt, rfl, rfl, ?_⟩
        (conv => whnf)
        refine ⟨α, ν, r, k, hk1, by rw [hk2], rfl, ?_⟩
        (conv => whnf)
        have e : (α 9 i).toNatClampNeg = k := by rw [hk2, nI_clamp (by omega)]
        refine And.intro (fun f => ?_) (fun f => ?_)
        · (conv => whnf)
          exact hQ (nI i) (Or.inr ⟨hb, Or.inl ⟨i, hlt, ⟨d, by rw [e]; exact f⟩, hno, rfl⟩⟩)
        · (conv => whnf)
          exact ⟨40 - (i + 1), by omega, i + 1, ⟨rfl, rfl, zi1 rfl, trivial⟩, rfl, rfl, hb, hlt, hnext (fun q => f (by rw [← e]; exact q.2)), rfl, rfl, rfl⟩
      · (conv => whnf)
        refine And.intro (fun _ => ?_) (fun c => absurd (show _ from rfl) c)
        (conv => whnf)
        exact ⟨40 - (i + 1), by omega, i + 1, ⟨rfl, rfl, zi1 rfl, trivial⟩, rfl, rfl, hb, hlt, hnext (fun q => d q.1), rfl, rfl, rfl⟩
    · have hge : i = n := by
        have : ¬ i < n := fun h => c (nI_lt h (by omega))
        omega
      subst hge
      (conv => whnf)
      exact hQ (-1) (Or.inr ⟨hb, Or.inr ⟨hno, rfl⟩⟩)
/-- the finder behind a claim -/
def zfd (f : Nat → Int32) (x : Int32) : Int32 := if x = -1 then -1 else f x.toNatClampNeg
theorem zfd_m (f : Nat → Int32) : zfd f (-1) = -1 := rfl
theorem zfd_j (f : Nat → Int32) {j : Nat} (hj : j < 2 ^ 31) : zfd f (nI j) = f j := by
  unfold zfd
  rw [if_neg (nI_ne_m1 hj), nI_clamp hj]
def sp_X4_finderOfShape : zSpec := fun args w Q _ => ∃ α ν r c s, zCk α ν c ∧ args = [.ref 0, .int s] ∧ w = WX α ν r ∧ ∀ x, zHR α ν c s x → Q (some (.int (zfd (α 8) x))) (WX α ν r)
def pg_X4_finderOfShape : List zE := [(0, .aload_n 0, 1, []), (1, .iload_n 1, 1, []), (2, .invokevirtual 199, 3, []), (5, .istore_n 2, 1, []), (6, .iload_n 2, 1, []), (7, .iconst (-1), 1, []), (8, .if_icmp .ne 7, 3, [15]), (11, .iconst (-1), 1, []), (12, .goto 11, 3, [23]), (15, .aload_n 0, 1, []), (16, .getfield 26, 3, []), (19, .iload_n 2, 1, []), (20, .invokevirtual 196, 3, []), (23, .ireturn, 1, [])]
theorem hp_X4_finderOfShape : ∀ q ∈ pg_X4_finderOfShape, decode cX4_finderOfShape q.1 = .ok (q.2.1, q.2.2.1) ∧ ztg q.2.1 q.1 q.2.2.1 q.2.2.2 = true := zpg_of (by decide +kernel)
def cs_X4_finderOfShape : List (Nat × zCall) := [(199, 0, 2, some 5, 0, 0, false, sp_X4_claimOnShape), (196, 0, 2, some 2, 0, 0, false, sp_X1_finderOf)]
theorem hcs_X4_finderOfShape {l : Launch} (hl0 : l.stackTraces = false) : ∀ q ∈ cs_X4_finderOfShape, zCallable l RX4 5 q := List.forall_mem_cons.mpr ⟨zcV (C := (RX4, TX4, 6)) (ps := [420, 422, 5, 14, 423]) (c_X4_claimOnShape hl0) (by decide +kernel) rfl ⟨rfl, by decide +kernel, by decide +kernel, by decide +kernel⟩ (by decide) (by decide), List.forall_mem_cons.mpr ⟨zcV (C := (RX1, TX1, 4)) (ps := [440, 441, 442, 18, 443]) (c_X1_finderOf hl0) (by decide +kernel) rfl ⟨rfl, by decide +kernel, by decide +kernel, by decide +kernel⟩ (by decide) (by decide), fun _ h => absurd h List.not_mem_nil⟩⟩
def th_X4_finderOfShape : List (Nat × String) := []
theorem hth_X4_finderOfShape : ∀ q ∈ th_X4_finderOfShape, zThrow cX4_finderOfShape RX4 q := fun _ h => absurd h List.not_mem_nil
def kc_X4_finderOfShape : List (Nat × Int32) := []
theorem hkc_X4_finderOfShape : ∀ q ∈ kc_X4_finderOfShape, Cond.constant RX4 q.1 q.2 ∈ zTs := fun _ h => absurd h List.not_mem_nil
def nw_X4_finderOfShape : List (Nat × Nat × Nat × List Value) := []
theorem hnw_X4_finderOfShape : ∀ q ∈ nw_X4_finderOfShape, zNew RX4 q := fun _ h => absurd h List.not_mem_nil
set_option maxHeartbeats 4000000 in
set_option maxRecDepth 20000 in
theorem c_X4_finderOfShape {l : Launch} (hl0 : l.stackTraces = false) : CT l yX4_finderOfShape (.code yX4_finderOfShape cX4_finderOfShape 3 (some .int)) 5 0 0 false sp_X4_finderOfShape := by
  refine zCT_of hl0 (own := RX4) fl_RX4 cs_X4_finderOfShape nw_X4_finderOfShape th_X4_finderOfShape kc_X4_finderOfShape (fun _ => []) false pg_X4_finderOfShape rfl (by decide +kernel) hp_X4_finderOfShape ⟨_, _, rfl, rfl⟩ hfl_RX4 (fun h => nomatch h) (hcs_X4_finderOfShape hl0) hnw_X4_finderOfShape hth_X4_finderOfShape (fun _ _ h => absurd h List.not_mem_nil) hkc_X4_finderOfShape (fun args w Q X v0 hv0 h => ?_)
  obtain ⟨α, ν, r, n, s, hc, rfl, rfl, hQ⟩ := h
  refine ⟨Nat.le_of_ble_eq_true rfl, 60, [], ?_, fun q hq => absurd hq List.not_mem_nil⟩
  (conv => whnf)
  refine ⟨α, ν, r, n, s, hc, rfl, rfl, fun x hx => ?_⟩
  have h1 := hQ x hx
  rcases zHr_of hx with rfl | ⟨j, hj, rfl⟩
  · (conv => whnf)
    refine And.intro (fun _ => ?_) (fun c => absurd (show _ from rfl) c)
    (conv => whnf)
    exact h1
  · have hj2 : j < 2 ^ 31 := by have := hc.1; omega
    (conv => whnf)
    refine And.intro (fun c => absurd c (show ¬ _ from (nI_ne_m1 hj2))) (fun _ => ?_)
    (conv => whnf)
    refine ⟨α, ν, r, n, j, hc.1, hc.2.1, hj, rfl, rfl, ?_⟩
    (conv => whnf)
    rw [zfd_j _ hj2] at h1
    exact h1
/-- the sign of a name -/
def zsg (name : Int32) : Nat := if name = nI 1 then 82 else if name = nI 2 then 87 else if name = nI 3 then 84 else 78
theorem zsg_lt (name : Int32) : zsg name < 128 := by unfold zsg; split; decide; split; decide; split <;> decide
def sp_X4_signOf : zSpec := fun args w Q _ => ∃ name, args = [.int name] ∧ Q (some (.int (nI (zsg name)))) w
def pg_X4_signOf : List zE := [(0, .iload_n 0, 1, []), (1, .tableswitch 36 1 3 #[27, 30, 33], 27, [37, 28, 31, 34]), (28, .bipush 82, 2, [82]), (30, .ireturn, 1, []), (31, .bipush 87, 2, [87]), (33, .ireturn, 1, []), (34, .bipush 84, 2, [84]), (36, .ireturn, 1, []), (37, .bipush 78, 2, [78]), (39, .ireturn, 1, [])]
theorem hp_X4_signOf : ∀ q ∈ pg_X4_signOf, decode cX4_signOf q.1 = .ok (q.2.1, q.2.2.1) ∧ ztg q.2.1 q.1 q.2.2.1 q.2.2.2 = true := zpg_of (by decide +kernel)
def cs_X4_signOf : List (Nat × zCall) := []
theorem hcs_X4_signOf {l : Launch} (hl0 : l.stackTraces = false) : ∀ q ∈ cs_X4_signOf, zCallable l RX4 1 q := fun _ h => absurd h List.not_mem_nil
def th_X4_signOf : List (Nat × String) := []
theorem hth_X4_signOf : ∀ q ∈ th_X4_signOf, zThrow cX4_signOf RX4 q := fun _ h => absurd h List.not_mem_nil
def kc_X4_signOf : List (Nat × Int32) := []
theorem hkc_X4_signOf : ∀ q ∈ kc_X4_signOf, Cond.constant RX4 q.1 q.2 ∈ zTs := fun _ h => absurd h List.not_mem_nil
def nw_X4_signOf : List (Nat × Nat × Nat × List Value) := []
theorem hnw_X4_signOf : ∀ q ∈ nw_X4_signOf, zNew RX4 q := fun _ h => absurd h List.not_mem_nil
set_option maxHeartbeats 4000000 in
set_option maxRecDepth 20000 in
theorem c_X4_signOf {l : Launch} (hl0 : l.stackTraces = false) : CT l yX4_signOf (.code yX4_signOf cX4_signOf 1 (some .char)) 1 0 0 false sp_X4_signOf := by
  refine zCT_of hl0 (own := RX4) fl_RX4 cs_X4_signOf nw_X4_signOf th_X4_signOf kc_X4_signOf (fun _ => []) false pg_X4_signOf rfl (by decide +kernel) hp_X4_signOf ⟨_, _, rfl, rfl⟩ hfl_RX4 (fun h => nomatch h) (hcs_X4_signOf hl0) hnw_X4_signOf hth_X4_signOf (fun _ _ h => absurd h List.not_mem_nil) hkc_X4_signOf (fun args w Q X v0 hv0 h => ?_)
  obtain ⟨name, rfl, hQ⟩ := h
  refine ⟨Nat.le_of_ble_eq_true rfl, 20, [], ?_, fun q hq => absurd hq List.not_mem_nil⟩
  (conv => whnf)
  unfold zsg at hQ
  refine And.intro (fun c => ?_) (fun c => ?_)
  · (conv => whnf)
    rw [if_pos (show name = nI 1 from c)] at hQ
    exact ⟨by decide, hQ⟩
  · rw [if_neg (show ¬ name = nI 1 from c)] at hQ
    refine And.intro (fun d => ?_) (fun d => ?_)
    · (conv => whnf)
      rw [if_pos (show name = nI 2 from d)] at hQ
      exact ⟨by decide, hQ⟩
    · rw [if_neg (show ¬ name = nI 2 from d)] at hQ
      refine And.intro (fun e => ?_) (fun e => ?_)
      · (conv => whnf)
        rw [if_pos (show name = nI 3 from e)] at hQ
        exact ⟨by decide, hQ⟩
      · (conv => whnf)
        rw [if_neg (show ¬ name = nI 3 from e)] at hQ
        exact ⟨by decide, hQ⟩
/-- the title of shape s: its name, its lowest cell, its size, its finder -/
def zTtl (name : Int32) (s size : Nat) (fd : Option Nat) : List Nat := [zsg name] ++ zdg s ++ [120] ++ zdg size ++ (match fd with
  | some f => [102] ++ zdg f
  | none => [])
theorem zTtl_len (name : Int32) (s size f : Nat) (hf : f < 10) : (zTtl name s size (some f)).length ≤ 8 ∧ (zTtl name s size none).length ≤ 6 := by
  have h1 := zdg_len (n := s)
  have h2 := zdg_len (n := size)
  have h3 : (zdg f).length = 1 := by rw [zdg_1 hf]; rfl
  constructor <;> simp only [zTtl, List.length_append, List.length_cons, List.length_nil] <;> omega
def sp_X4_writeTitle : zSpec := fun args w Q _ => ∃ α ν r c s q, zCk α ν c ∧ (∀ j, j < c → ∃ f, f < 6 ∧ α 8 j = nI f) ∧ q ≤ 16 ∧ ν 6 = nI q ∧ s < 96 ∧ zcnt (α 3) (nI s) 96 < 100 ∧ args = [.ref 0, .int (nI s)] ∧ w = WX α ν r ∧
  ∀ x fd y, zHR α ν c (nI s) x → ((x = -1 ∧ fd = none) ∨ ∃ j f, j < c ∧ f < 6 ∧ x = nI j ∧ α 8 j = nI f ∧ fd = some f) → Q none (WX (zu α 14 (zwr (α 14) 0 (zTtl (zNm α (nI s)) s (zcnt (α 3) (nI s) 96) fd))) (zu (zu ν 7 y) 6 (nI (zTtl (zNm α (nI s)) s (zcnt (α 3) (nI s) 96) fd).length)) r)
def pg_X4_writeTitle : List zE := [(0, .aload_n 0, 1, []), (1, .getfield 40, 3, []), (4, .iconst 0, 1, [0]), (5, .invokevirtual 218, 3, []), (8, .aload_n 0, 1, []), (9, .getfield 40, 3, []), (12, .aload_n 0, 1, []), (13, .getfield 12, 3, []), (16, .iload_n 1, 1, []), (17, .invokevirtual 86, 3, []), (20, .invokestatic 221, 3, []), (23, .invokevirtual 224, 3, []), (26, .pop, 1, []), (27, .aload_n 0, 1, []), (28, .getfield 40, 3, []), (31, .iload_n 1, 1, []), (32, .invokevirtual 228, 3, []), (35, .pop, 1, []), (36, .aload_n 0, 1, []), (37, .getfield 40, 3, []), (40, .bipush 120, 2, [120]), (42, .invokevirtual 224, 3, []), (45, .pop, 1, []), (46, .aload_n 0, 1, []), (47, .getfield 40, 3, []), (50, .aload_n 0, 1, []), (51, .getfield 12, 3, []), (54, .iload_n 1, 1, []), (55, .invokevirtual 80, 3, []), (58, .invokevirtual 228, 3, []), (61, .pop, 1, []), (62, .aload_n 0, 1, []), (63, .iload_n 1, 1, []), (64, .invokevirtual 132, 3, []), (67, .istore_n 2, 1, []), (68, .iload_n 2, 1, []), (69, .iconst (-1), 1, []), (70, .if_icmp .eq 22, 3, [92]), (73, .aload_n 0, 1, []), (74, .getfield 40, 3, []), (77, .bipush 102, 2, [102]), (79, .invokevirtual 224, 3, []), (82, .pop, 1, []), (83, .aload_n 0, 1, []), (84, .getfield 40, 3, []), (87, .iload_n 2, 1, []), (88, .invokevirtual 228, 3, []), (91, .pop, 1, []), (92, .return_, 1, [])]
theorem hp_X4_writeTitle : ∀ q ∈ pg_X4_writeTitle, decode cX4_writeTitle q.1 = .ok (q.2.1, q.2.2.1) ∧ ztg q.2.1 q.1 q.2.2.1 q.2.2.2 = true := zpg_of (by decide +kernel)
def cs_X4_writeTitle : List (Nat × zCall) := [(218, 0, 2, some 0, 0, 0, false, sp_J4_setLength_d00df), (86, 0, 2, some 1, 0, 0, false, sp_X0_nameOfShape), (221, 1, 1, none, 0, 0, false, sp_X4_signOf), (224, 0, 2, some 0, 0, 0, false, sp_J4_append_cf468), (228, 0, 2, some 0, 0, 0, false, sp_J4_append_bf812), (80, 0, 2, some 1, 0, 0, false, sp_X0_countCells), (132, 0, 2, some 5, 0, 0, false, sp_X4_finderOfShape)]
theorem hcs_X4_writeTitle {l : Launch} (hl0 : l.stackTraces = false) : ∀ q ∈ cs_X4_writeTitle, zCallable l RX4 6 q := List.forall_mem_cons.mpr ⟨zcV (C := (RJ4, TJ4, 4)) (ps := [644, 645, 646, 21, 647]) (c_J4_setLength_d00df hl0) (by decide +kernel) rfl ⟨rfl, by decide +kernel, by decide +kernel, by decide +kernel⟩ (by decide) (by decide), List.forall_mem_cons.mpr ⟨zcV (C := (RX0, TX0, 8)) (ps := [338, 339, 340, 15, 341]) (c_X0_nameOfShape hl0) (by decide +kernel) rfl ⟨rfl, by decide +kernel, by decide +kernel, by decide +kernel⟩ (by decide) (by decide), List.forall_mem_cons.mpr ⟨zcS (ps := [702, 703, 14, 704]) (c_X4_signOf hl0) (by decide +kernel) ⟨by decide +kernel, by decide +kernel, by decide +kernel⟩ (by decide) (by decide), List.forall_mem_cons.mpr ⟨zcV (C := (RJ4, TJ4, 4)) (ps := [705, 706, 707, 21, 708]) (c_J4_append_cf468 hl0) (by decide +kernel) rfl ⟨rfl, by decide +kernel, by decide +kernel, by decide +kernel⟩ (by decide) (by decide), List.forall_mem_cons.mpr ⟨zcV (C := (RJ4, TJ4, 4)) (ps := [760, 761, 762, 21, 763]) (c_J4_append_bf812 hl0) (by decide +kernel) rfl ⟨rfl, by decide +kernel, by decide +kernel, by decide +kernel⟩ (by decide) (by decide), List.forall_mem_cons.mpr ⟨zcV (C := (RX0, TX0, 8)) (ps := [622, 623, 624, 15, 625]) (c_X0_countCells hl0) (by decide +kernel) rfl ⟨rfl, by decide +kernel, by decide +kernel, by decide +kernel⟩ (by decide) (by decide), List.forall_mem_cons.mpr ⟨zcV (C := (RX4, TX4, 6)) (ps := [416, 418, 4, 14, 419]) (c_X4_finderOfShape hl0) (by decide +kernel) rfl ⟨rfl, by decide +kernel, by decide +kernel, by decide +kernel⟩ (by decide) (by decide), fun _ h => absurd h List.not_mem_nil⟩⟩⟩⟩⟩⟩⟩
def th_X4_writeTitle : List (Nat × String) := []
theorem hth_X4_writeTitle : ∀ q ∈ th_X4_writeTitle, zThrow cX4_writeTitle RX4 q := fun _ h => absurd h List.not_mem_nil
def kc_X4_writeTitle : List (Nat × Int32) := []
theorem hkc_X4_writeTitle : ∀ q ∈ kc_X4_writeTitle, Cond.constant RX4 q.1 q.2 ∈ zTs := fun _ h => absurd h List.not_mem_nil
def nw_X4_writeTitle : List (Nat × Nat × Nat × List Value) := []
theorem hnw_X4_writeTitle : ∀ q ∈ nw_X4_writeTitle, zNew RX4 q := fun _ h => absurd h List.not_mem_nil
set_option maxHeartbeats 4000000 in
set_option maxRecDepth 20000 in
theorem c_X4_writeTitle {l : Launch} (hl0 : l.stackTraces = false) : CT l yX4_writeTitle (.code yX4_writeTitle cX4_writeTitle 3 none) 6 0 0 false sp_X4_writeTitle := by
  refine zCT_of hl0 (own := RX4) fl_RX4 cs_X4_writeTitle nw_X4_writeTitle th_X4_writeTitle kc_X4_writeTitle (fun _ => []) false pg_X4_writeTitle rfl (by decide +kernel) hp_X4_writeTitle ⟨_, _, rfl, rfl⟩ hfl_RX4 (fun h => nomatch h) (hcs_X4_writeTitle hl0) hnw_X4_writeTitle hth_X4_writeTitle (fun _ _ h => absurd h List.not_mem_nil) hkc_X4_writeTitle (fun args w Q X v0 hv0 h => ?_)
  obtain ⟨α, ν, r, c, s, q, hc, hf, hq, hν, hs, hz, rfl, rfl, hQ⟩ := h
  have hd1 := zdg_len (n := s)
  have hd2 := zdg_len (n := zcnt (α 3) (nI s) 96)
  refine ⟨Nat.le_of_ble_eq_true rfl, 60, [], ?_, fun q hq => absurd hq List.not_mem_nil⟩
  (conv => whnf)
  refine ⟨α, ν, r, q, by omega, hν, rfl, rfl, fun y => ?_⟩
  (conv => whnf)
  refine ⟨α, zu (zu ν 7 y) 6 (nI 0), r, nI s, rfl, rfl, ?_⟩
  (conv => whnf)
  refine ⟨_, rfl, ?_⟩
  (conv => whnf)
  refine ⟨α, zu (zu ν 7 y) 6 (nI 0), r, 0, zsg (zNm α (nI s)), by decide, rfl, zsg_lt _, rfl, rfl, ?_⟩
  (conv => whnf)
  refine ⟨zu α 14 (zwr (α 14) 0 [zsg (zNm α (nI s))]), zu (zu ν 7 y) 6 (nI 1), r, 1, s, by omega, by omega, rfl, rfl, rfl, ?_⟩
  (conv => whnf)
  refine ⟨zu α 14 (zwr (zwr (α 14) 0 [zsg (zNm α (nI s))]) 1 (zdg s)), zu (zu ν 7 y) 6 (nI (1 + (zdg s).length)), r, 1 + (zdg s).length, 120, by omega, rfl, by decide, rfl, rfl, ?_⟩
  (conv => whnf)
  refine ⟨zu α 14 (zwr (zwr (zwr (α 14) 0 [zsg (zNm α (nI s))]) 1 (zdg s)) (1 + (zdg s).length) [120]), zu (zu ν 7 y) 6 (nI (1 + (zdg s).length + 1)), r, nI s, rfl, rfl, ?_⟩
  (conv => whnf)
  refine ⟨zu α 14 (zwr (zwr (zwr (α 14) 0 [zsg (zNm α (nI s))]) 1 (zdg s)) (1 + (zdg s).length) [120]), zu (zu ν 7 y) 6 (nI (1 + (zdg s).length + 1)), r, 1 + (zdg s).length + 1, zcnt (α 3) (nI s) 96, hz, by omega, rfl, rfl, rfl, ?_⟩
  (conv => whnf)
  refine ⟨zu α 14 (zwr (zwr (zwr (zwr (α 14) 0 [zsg (zNm α (nI s))]) 1 (zdg s)) (1 + (zdg s).length) [120]) (1 + (zdg s).length + 1) (zdg (zcnt (α 3) (nI s) 96))), zu (zu ν 7 y) 6 (nI (1 + (zdg s).length + 1 + (zdg (zcnt (α 3) (nI s) 96)).length)), r, c, nI s, hc, rfl, rfl, fun x hx => ?_⟩
  have hx2 : zHR α ν c (nI s) x := hx
  have hw4 : ∀ f : Nat → Int32, zwr (zwr (zwr (zwr f 0 [zsg (zNm α (nI s))]) 1 (zdg s)) (1 + (zdg s).length) [120]) (1 + (zdg s).length + 1) (zdg (zcnt (α 3) (nI s) 96)) = zwr f 0 ([zsg (zNm α (nI s))] ++ zdg s ++ [120] ++ zdg (zcnt (α 3) (nI s) 96)) := fun f => by
    rw [zwr_app, zwr_app, zwr_app]
    simp only [List.length_append, List.length_cons, List.length_nil, Nat.zero_add]
  have hl4 : 1 + (zdg s).length + 1 + (zdg (zcnt (α 3) (nI s) 96)).length = ([zsg (zNm α (nI s))] ++ zdg s ++ [120] ++ zdg (zcnt (α 3) (nI s) 96)).length := by
    simp only [List.length_append, List.length_cons, List.length_nil, Nat.zero_add]
  have hQ2 := hQ x
  rw [hw4, hl4]
  have hl5 : ([zsg (zNm α (nI s))] ++ zdg s ++ [120] ++ zdg (zcnt (α 3) (nI s) 96)).length ≤ 6 := by rw [← hl4]; omega
  unfold zTtl at hQ2
  generalize [zsg (zNm α (nI s))] ++ zdg s ++ [120] ++ zdg (zcnt (α 3) (nI s) 96) = T4 at hQ2 hl5 ⊢
  rcases zHr_of hx2 with rfl | ⟨j, hj, rfl⟩
  · rw [show zfd (zu α 14 (zwr (α 14) 0 T4) 8) (-1) = -1 from rfl]
    (conv => whnf)
    refine And.intro (fun _ => ?_) (fun c => absurd (show _ from rfl) c)
    (conv => whnf)
    have h9 := hQ2 none y hx2 (Or.inl ⟨rfl, rfl⟩)
    rw [List.append_nil] at h9
    exact h9
  · have hj2 : j < 2 ^ 31 := by have := hc.1; omega
    obtain ⟨f, f1, f2⟩ := hf j hj
    rw [show zfd (zu α 14 (zwr (α 14) 0 T4) 8) (nI j) = nI f from (zfd_j _ hj2).trans f2]
    (conv => whnf)
    refine And.intro (fun c => absurd c (show ¬ _ from (nI_ne_m1 (show f < 2 ^ 31 by omega)))) (fun _ => ?_)
    (conv => whnf)
    refine ⟨zu α 14 (zwr (α 14) 0 T4), zu (zu ν 7 y) 6 (nI T4.length), r, T4.length, 102, by omega, rfl, by decide, rfl, rfl, ?_⟩
    (conv => whnf)
    have h3 : (zdg f).length = 1 := by rw [zdg_1 (by omega)]; rfl
    refine ⟨zu α 14 (zwr (zwr (α 14) 0 T4) T4.length [102]), zu (zu ν 7 y) 6 (nI (T4.length + 1)), r, T4.length + 1, f, by omega, by omega, rfl, rfl, rfl, ?_⟩
    (conv => whnf)
    have h9 := hQ2 (some f) y hx2 (Or.inr ⟨j, f, hj, f1, rfl, f2, rfl⟩)
    have e5 : zwr (α 14) 0 (T4 ++ ([102] ++ zdg f)) = zwr (zwr (zwr (α 14) 0 T4) T4.length [102]) (T4.length + 1) (zdg f) := by
      rw [zwr_app, zwr_app, Nat.zero_add]
      rfl
    have e6 : (T4 ++ ([102] ++ zdg f)).length = T4.length + 1 + (zdg f).length := by simp; omega
    have h9' : Q none (WX (zu α 14 (zwr (α 14) 0 (T4 ++ ([102] ++ zdg f)))) (zu (zu ν 7 y) 6 (nI (T4 ++ ([102] ++ zdg f)).length)) r) := h9
    rw [e5, e6] at h9'
    exact h9'
end
section
/-! ===== EchoRegistry: its calls ===== -/
theorem zcnt_le (f : Nat → Int32) (s : Int32) : ∀ n, zcnt f s n ≤ n
  | 0 => Nat.le_refl 0
  | n + 1 => by
    have ih := zcnt_le f s n
    by_cases h : s ≠ -1 ∧ f n = s
    · rw [zcnt_t h]; omega
    · rw [zcnt_f h]; omega
/-- the outings: how many there were -/
def zOu (α : Nat → Nat → Int32) (ν : Nat → Int32) (o : Nat) : Prop := o + 97 < 2 ^ 31 ∧ ν 2 = nI o ∧ ∀ c, c < 96 → ∃ t, α 5 c = nI t ∧ t ≤ o
def sp_X4_sound : zSpec := fun args w Q X => ∃ α ν r o x h, zOu α ν o ∧ args = [.ref 0, .int x, .int h] ∧ w = WX α ν r ∧ (¬ vp_in x 96 → X zIOO (WX α ν r)) ∧
  ∀ k, k < 96 → x = nI k → (h < nI 0 ∨ nI 9 < h → X zIAE (WX α ν r)) ∧ (¬ h < nI 0 → ¬ nI 9 < h → ∀ f a4 a5 o', zLow (upd (α 0) k h) f → o' ≤ o + 96 → (∀ c, c < 96 → ∃ t, a5 c = nI t ∧ t ≤ o') →
    Q (some (.int (α 0 k))) (WX (zu (zu (zu (zu α 0 (upd (α 0) k h)) 5 a5) 4 a4) 3 f) (zu ν 2 (nI o')) r))
def pg_X4_sound : List zE := [(0, .iload_n 1, 1, []), (1, .invokestatic 48, 3, []), (4, .iload_n 2, 1, []), (5, .invokestatic 52, 3, []), (8, .aload_n 0, 1, []), (9, .getfield 12, 3, []), (12, .iload_n 1, 1, []), (13, .invokevirtual 55, 3, []), (16, .istore_n 3, 1, []), (17, .aload_n 0, 1, []), (18, .getfield 12, 3, []), (21, .iload_n 1, 1, []), (22, .iload_n 2, 1, []), (23, .invokevirtual 59, 3, []), (26, .aload_n 0, 1, []), (27, .getfield 12, 3, []), (30, .invokevirtual 63, 3, []), (33, .iload_n 3, 1, []), (34, .ireturn, 1, [])]
theorem hp_X4_sound : ∀ q ∈ pg_X4_sound, decode cX4_sound q.1 = .ok (q.2.1, q.2.2.1) ∧ ztg q.2.1 q.1 q.2.2.1 q.2.2.2 = true := zpg_of (by decide +kernel)
def cs_X4_sound : List (Nat × zCall) := [(48, 1, 1, none, 1, 6, false, sp_X4_requireCell), (52, 1, 1, none, 1, 6, false, sp_X4_requireHeight), (55, 0, 2, some 1, 0, 0, false, sp_X0_heightAt), (59, 0, 3, some 1, 0, 0, false, sp_X0_setHeight), (63, 0, 1, some 1, 0, 0, false, sp_X0_joinShapes)]
theorem hcs_X4_sound {l : Launch} (hl0 : l.stackTraces = false) : ∀ q ∈ cs_X4_sound, zCallable l RX4 5 q := List.forall_mem_cons.mpr ⟨zcS (ps := [190, 191, 14, 192]) (c_X4_requireCell hl0) (by decide +kernel) ⟨by decide +kernel, by decide +kernel, by decide +kernel⟩ (by decide) (by decide), List.forall_mem_cons.mpr ⟨zcS (ps := [263, 264, 14, 265]) (c_X4_requireHeight hl0) (by decide +kernel) ⟨by decide +kernel, by decide +kernel, by decide +kernel⟩ (by decide) (by decide), List.forall_mem_cons.mpr ⟨zcV (C := (RX0, TX0, 8)) (ps := [285, 286, 287, 15, 288]) (c_X0_heightAt hl0) (by decide +kernel) rfl ⟨rfl, by decide +kernel, by decide +kernel, by decide +kernel⟩ (by decide) (by decide), List.forall_mem_cons.mpr ⟨zcV (C := (RX0, TX0, 8)) (ps := [290, 291, 292, 15, 293]) (c_X0_setHeight hl0) (by decide +kernel) rfl ⟨rfl, by decide +kernel, by decide +kernel, by decide +kernel⟩ (by decide) (by decide), List.forall_mem_cons.mpr ⟨zcV (C := (RX0, TX0, 8)) (ps := [294, 295, 296, 15, 297]) (c_X0_joinShapes hl0) (by decide +kernel) rfl ⟨rfl, by decide +kernel, by decide +kernel, by decide +kernel⟩ (by decide) (by decide), fun _ h => absurd h List.not_mem_nil⟩⟩⟩⟩⟩
def th_X4_sound : List (Nat × String) := []
theorem hth_X4_sound : ∀ q ∈ th_X4_sound, zThrow cX4_sound RX4 q := fun _ h => absurd h List.not_mem_nil
def kc_X4_sound : List (Nat × Int32) := []
theorem hkc_X4_sound : ∀ q ∈ kc_X4_sound, Cond.constant RX4 q.1 q.2 ∈ zTs := fun _ h => absurd h List.not_mem_nil
def nw_X4_sound : List (Nat × Nat × Nat × List Value) := []
theorem hnw_X4_sound : ∀ q ∈ nw_X4_sound, zNew RX4 q := fun _ h => absurd h List.not_mem_nil
set_option maxHeartbeats 4000000 in
set_option maxRecDepth 20000 in
theorem c_X4_sound {l : Launch} (hl0 : l.stackTraces = false) : CT l yX4_sound (.code yX4_sound cX4_sound 4 (some .int)) 5 2 12 false sp_X4_sound := by
  refine zCT_of hl0 (own := RX4) fl_RX4 cs_X4_sound nw_X4_sound th_X4_sound kc_X4_sound (fun _ => []) false pg_X4_sound rfl (by decide +kernel) hp_X4_sound ⟨_, _, rfl, rfl⟩ hfl_RX4 (fun h => nomatch h) (hcs_X4_sound hl0) hnw_X4_sound hth_X4_sound (fun _ _ h => absurd h List.not_mem_nil) hkc_X4_sound (fun args w Q X v0 hv0 h => ?_)
  obtain ⟨α, ν, r, o, x, h, ⟨ho, hν, h5⟩, rfl, rfl, h1, h2⟩ := h
  refine ⟨Nat.le_of_ble_eq_true rfl, 60, [], ?_, fun q hq => absurd hq List.not_mem_nil⟩
  (conv => whnf)
  refine ⟨_, rfl, fun c => ?_, fun c => ?_⟩
  · obtain ⟨k, hk, rfl⟩ := vp_in_of c (by decide)
    obtain ⟨h3, h4⟩ := h2 k hk rfl
    (conv => whnf)
    refine ⟨_, rfl, fun a b => ?_, fun a => ?_⟩
    · (conv => whnf)
      refine ⟨α, ν, r, k, hk, rfl, rfl, ?_⟩
      (conv => whnf)
      refine ⟨α, ν, r, k, h, hk, rfl, rfl, ?_⟩
      (conv => whnf)
      refine ⟨zu α 0 (upd (α 0) k h), ν, r, o, ho, hν, h5, rfl, rfl, fun f a4 a5 o' q1 q2 q3 => ?_⟩
      (conv => whnf)
      exact h4 a b f a4 a5 o' q1 q2 q3
    · (conv => whnf)
      exact h3 a
  · (conv => whnf)
    exact h1 c
/-- n cells from k on are v -/
def zsv (f : Nat → Int32) (k : Nat) (v : Int32) (n : Nat) : Nat → Int32 := fun j => if k ≤ j ∧ j < k + n then v else f j
theorem zsv_0 (f : Nat → Int32) (k : Nat) (v : Int32) : zsv f k v 0 = f := by
  funext j
  unfold zsv
  rw [if_neg (by omega)]
theorem zsv_s (f : Nat → Int32) (k : Nat) (v : Int32) (n : Nat) : upd (zsv f k v n) (k + n) v = zsv f k v (n + 1) := by
  funext j
  unfold upd zsv
  by_cases h1 : j = k + n
  · subst h1
    simp
  · by_cases h2 : k ≤ j ∧ j < k + n
    · have h3 : k ≤ j ∧ j < k + (n + 1) := by omega
      simp only [if_neg h1, if_pos h2, if_pos h3]
    · have h3 : ¬ (k ≤ j ∧ j < k + (n + 1)) := by omega
      simp only [if_neg h1, if_neg h2, if_neg h3]
def sp_X4_sweep : zSpec := fun args w Q X => ∃ α ν r o x m h, zOu α ν o ∧ args = [.ref 0, .int x, .int m, .int h] ∧ w = WX α ν r ∧ (¬ vp_in x 96 → X zIOO (WX α ν r)) ∧
  ∀ k, k < 96 → x = nI k → ((m < nI 1 ∨ nI (12 - k % 12) < m) ∨ (h < nI 0 ∨ nI 9 < h) → X zIAE (WX α ν r)) ∧ (∀ n, m = nI n → n ≤ 12 - k % 12 → ¬ m < nI 1 → ¬ nI (12 - k % 12) < m → ¬ h < nI 0 → ¬ nI 9 < h → ∀ f a4 a5 o', zLow (zsv (α 0) k h n) f → o' ≤ o + 96 → (∀ c, c < 96 → ∃ t, a5 c = nI t ∧ t ≤ o') →
    Q (some (.int (nI (zcs f 96)))) (WX (zu (zu (zu (zu α 0 (zsv (α 0) k h n)) 5 a5) 4 a4) 3 f) (zu ν 2 (nI o')) r))
theorem nI_le_of {m : Int32} {b : Nat} (hb : b < 2 ^ 31) (h1 : ¬ m < nI 1) (h2 : ¬ nI b < m) : ∃ n, m = nI n ∧ n ≤ b := by
  have h0 : ¬ m < 0 := fun h => h1 (by
    have a := Int32.lt_iff_toInt_lt.mp h
    apply Int32.lt_iff_toInt_lt.mpr
    rw [nI_toInt (by decide)]
    have e : (0 : Int32).toInt = 0 := by decide
    omega)
  obtain ⟨n, hn, rfl⟩ := nI_of h0
  refine ⟨n, rfl, ?_⟩
  apply Classical.byContradiction
  intro h
  exact h2 (nI_lt (by omega) hn)
def pg_X4_sweep : List zE := [(0, .iload_n 1, 1, []), (1, .invokestatic 48, 3, []), (4, .iload_n 2, 1, []), (5, .iconst 1, 1, [1]), (6, .bipush 12, 2, [12]), (8, .iload_n 1, 1, []), (9, .invokestatic 66, 3, []), (12, .isub, 1, []), (13, .invokestatic 69, 3, []), (16, .iload_n 3, 1, []), (17, .invokestatic 52, 3, []), (20, .iconst 0, 1, [0]), (21, .istore 4, 2, []), (23, .iload 4, 2, []), (25, .iload_n 2, 1, []), (26, .if_icmp .ge 21, 3, [47]), (29, .aload_n 0, 1, []), (30, .getfield 12, 3, []), (33, .iload_n 1, 1, []), (34, .iload 4, 2, []), (36, .iadd, 1, []), (37, .iload_n 3, 1, []), (38, .invokevirtual 59, 3, []), (41, .iinc 4 1, 3, [1]), (44, .goto (-21), 3, [23]), (47, .aload_n 0, 1, []), (48, .getfield 12, 3, []), (51, .invokevirtual 63, 3, []), (54, .aload_n 0, 1, []), (55, .getfield 12, 3, []), (58, .invokevirtual 73, 3, []), (61, .ireturn, 1, [])]
theorem hp_X4_sweep : ∀ q ∈ pg_X4_sweep, decode cX4_sweep q.1 = .ok (q.2.1, q.2.2.1) ∧ ztg q.2.1 q.1 q.2.2.1 q.2.2.2 = true := zpg_of (by decide +kernel)
def cs_X4_sweep : List (Nat × zCall) := [(48, 1, 1, none, 1, 6, false, sp_X4_requireCell), (66, 1, 1, none, 0, 0, false, sp_X4_columnOf), (69, 1, 3, none, 1, 6, false, sp_X4_requireWithin), (52, 1, 1, none, 1, 6, false, sp_X4_requireHeight), (59, 0, 3, some 1, 0, 0, false, sp_X0_setHeight), (63, 0, 1, some 1, 0, 0, false, sp_X0_joinShapes), (73, 0, 1, some 1, 0, 0, false, sp_X0_countShapes)]
theorem hcs_X4_sweep {l : Launch} (hl0 : l.stackTraces = false) : ∀ q ∈ cs_X4_sweep, zCallable l RX4 5 q := List.forall_mem_cons.mpr ⟨zcS (ps := [190, 191, 14, 192]) (c_X4_requireCell hl0) (by decide +kernel) ⟨by decide +kernel, by decide +kernel, by decide +kernel⟩ (by decide) (by decide), List.forall_mem_cons.mpr ⟨zcS (ps := [317, 307, 14, 308]) (c_X4_columnOf hl0) (by decide +kernel) ⟨by decide +kernel, by decide +kernel, by decide +kernel⟩ (by decide) (by decide), List.forall_mem_cons.mpr ⟨zcS (ps := [266, 267, 14, 268]) (c_X4_requireWithin hl0) (by decide +kernel) ⟨by decide +kernel, by decide +kernel, by decide +kernel⟩ (by decide) (by decide), List.forall_mem_cons.mpr ⟨zcS (ps := [263, 264, 14, 265]) (c_X4_requireHeight hl0) (by decide +kernel) ⟨by decide +kernel, by decide +kernel, by decide +kernel⟩ (by decide) (by decide), List.forall_mem_cons.mpr ⟨zcV (C := (RX0, TX0, 8)) (ps := [290, 291, 292, 15, 293]) (c_X0_setHeight hl0) (by decide +kernel) rfl ⟨rfl, by decide +kernel, by decide +kernel, by decide +kernel⟩ (by decide) (by decide), List.forall_mem_cons.mpr ⟨zcV (C := (RX0, TX0, 8)) (ps := [294, 295, 296, 15, 297]) (c_X0_joinShapes hl0) (by decide +kernel) rfl ⟨rfl, by decide +kernel, by decide +kernel, by decide +kernel⟩ (by decide) (by decide), List.forall_mem_cons.mpr ⟨zcV (C := (RX0, TX0, 8)) (ps := [318, 319, 320, 15, 321]) (c_X0_countShapes hl0) (by decide +kernel) rfl ⟨rfl, by decide +kernel, by decide +kernel, by decide +kernel⟩ (by decide) (by decide), fun _ h => absurd h List.not_mem_nil⟩⟩⟩⟩⟩⟩⟩
def th_X4_sweep : List (Nat × String) := []
theorem hth_X4_sweep : ∀ q ∈ th_X4_sweep, zThrow cX4_sweep RX4 q := fun _ h => absurd h List.not_mem_nil
def kc_X4_sweep : List (Nat × Int32) := []
theorem hkc_X4_sweep : ∀ q ∈ kc_X4_sweep, Cond.constant RX4 q.1 q.2 ∈ zTs := fun _ h => absurd h List.not_mem_nil
def nw_X4_sweep : List (Nat × Nat × Nat × List Value) := []
theorem hnw_X4_sweep : ∀ q ∈ nw_X4_sweep, zNew RX4 q := fun _ h => absurd h List.not_mem_nil
set_option maxHeartbeats 4000000 in
set_option maxRecDepth 20000 in
theorem c_X4_sweep {l : Launch} (hl0 : l.stackTraces = false) : CT l yX4_sweep (.code yX4_sweep cX4_sweep 5 (some .int)) 5 3 18 false sp_X4_sweep := by
  refine zCT_of hl0 (own := RX4) fl_RX4 cs_X4_sweep nw_X4_sweep th_X4_sweep kc_X4_sweep (fun _ => []) false pg_X4_sweep rfl (by decide +kernel) hp_X4_sweep ⟨_, _, rfl, rfl⟩ hfl_RX4 (fun h => nomatch h) (hcs_X4_sweep hl0) hnw_X4_sweep hth_X4_sweep (fun _ _ h => absurd h List.not_mem_nil) hkc_X4_sweep (fun args w Q X v0 hv0 h => ?_)
  obtain ⟨α, ν, r, o, x, m, h, ⟨ho, hν, h5⟩, rfl, rfl, h1, h2⟩ := h
  by_cases hc : vp_in x 96
  · obtain ⟨k, hk, rfl⟩ := vp_in_of hc (by decide)
    obtain ⟨h3, h4⟩ := h2 k hk rfl
    refine ⟨Nat.le_of_ble_eq_true rfl, 60, [(23, fun ms L S w' cu su => ∃ n i, zsub [(0, .ref 0), (1, .int (nI k)), (2, .int m), (3, .int h), (4, .int (nI i))] L ∧ S = [] ∧ w' = WX (zu α 0 (zsv (α 0) k h i)) ν r ∧ m = nI n ∧ n ≤ 12 - k % 12 ∧ i ≤ n ∧ ¬ m < nI 1 ∧ ¬ nI (12 - k % 12) < m ∧ ¬ h < nI 0 ∧ ¬ nI 9 < h ∧ ms = 12 - i ∧ cu = 3 ∧ su = 18)], ?_, zone ?_⟩
    · (conv => whnf)
      refine ⟨_, rfl, fun _ => ?_, fun c => absurd hc c⟩
      (conv => whnf)
      refine ⟨k, hk, rfl, ?_⟩
      (conv => whnf)
      refine ⟨m, nI 1, nI (12 - k % 12), by rw [← pk_sub (show k % 12 ≤ 12 by omega)]; rfl, fun a b => ?_, fun a => ?_⟩
      · obtain ⟨n, hn1, hn2⟩ := nI_le_of (by omega) a b
        (conv => whnf)
        refine ⟨_, rfl, fun a' b' => ?_, fun a' => ?_⟩
        · (conv => whnf)
          refine ⟨12, n, 0, ⟨rfl, rfl, rfl, rfl, rfl, trivial⟩, rfl, ?_, hn1, hn2, Nat.zero_le _, a, b, a', b', rfl, rfl, rfl⟩
          rw [zsv_0]
          rfl
        · (conv => whnf)
          exact h3 (Or.inr a')
      · (conv => whnf)
        exact h3 (Or.inl a)
    · rintro ms L S w' cu su ⟨n, i, hL, rfl, rfl, hm, hn, hi, a, b, a', b', rfl, rfl, rfl⟩
      refine ⟨_, hL, ?_⟩
      subst hm
      (conv => whnf)
      refine And.intro (fun c => ?_) (fun c => ?_)
      · have hlt : i < n := (nI_ltI (by omega) (by omega)).mp c
        (conv => whnf)
        refine ⟨zu α 0 (zsv (α 0) k h i), ν, r, k + i, h, by omega, by rw [← nI_add], rfl, ?_⟩
        (conv => whnf)
        refine ⟨12 - (i + 1), by omega, n, i + 1, ⟨rfl, rfl, rfl, rfl, zi1 rfl, trivial⟩, rfl, ?_, rfl, hn, hlt, a, b, a', b', rfl, rfl, rfl⟩
        have e : zu (zu α 0 (zsv (α 0) k h i)) 0 (upd (zu α 0 (zsv (α 0) k h i) 0) (k + i) h) = zu (zu α 0 (zsv (α 0) k h i)) 0 (zsv (α 0) k h (i + 1)) := by rw [← zsv_s]; rfl
        rw [e]
        rfl
      · have hge : i = n := by
          have : ¬ i < n := fun h => c (nI_lt h (by omega))
          omega
        subst hge
        (conv => whnf)
        refine ⟨zu α 0 (zsv (α 0) k h i), ν, r, o, ho, hν, h5, rfl, rfl, fun f a4 a5 o' q1 q2 q3 => ?_⟩
        (conv => whnf)
        refine ⟨_, _, _, rfl, rfl, ?_⟩
        (conv => whnf)
        exact h4 i rfl hn a b a' b' f a4 a5 o' q1 q2 q3
  · refine ⟨Nat.le_of_ble_eq_true rfl, 20, [], ?_, fun q hq => absurd hq List.not_mem_nil⟩
    (conv => whnf)
    refine ⟨_, rfl, fun c => absurd c hc, fun c => ?_⟩
    (conv => whnf)
    exact h1 c
def sp_X4_shapes : zSpec := fun args w Q _ => ∃ α ν r, args = [.ref 0] ∧ w = WX α ν r ∧ Q (some (.int (nI (zcs (α 3) 96)))) (WX α ν r)
def pg_X4_shapes : List zE := [(0, .aload_n 0, 1, []), (1, .getfield 12, 3, []), (4, .invokevirtual 73, 3, []), (7, .ireturn, 1, [])]
theorem hp_X4_shapes : ∀ q ∈ pg_X4_shapes, decode cX4_shapes q.1 = .ok (q.2.1, q.2.2.1) ∧ ztg q.2.1 q.1 q.2.2.1 q.2.2.2 = true := zpg_of (by decide +kernel)
def cs_X4_shapes : List (Nat × zCall) := [(73, 0, 1, some 1, 0, 0, false, sp_X0_countShapes)]
theorem hcs_X4_shapes {l : Launch} (hl0 : l.stackTraces = false) : ∀ q ∈ cs_X4_shapes, zCallable l RX4 2 q := List.forall_mem_cons.mpr ⟨zcV (C := (RX0, TX0, 8)) (ps := [318, 319, 320, 15, 321]) (c_X0_countShapes hl0) (by decide +kernel) rfl ⟨rfl, by decide +kernel, by decide +kernel, by decide +kernel⟩ (by decide) (by decide), fun _ h => absurd h List.not_mem_nil⟩
def th_X4_shapes : List (Nat × String) := []
theorem hth_X4_shapes : ∀ q ∈ th_X4_shapes, zThrow cX4_shapes RX4 q := fun _ h => absurd h List.not_mem_nil
def kc_X4_shapes : List (Nat × Int32) := []
theorem hkc_X4_shapes : ∀ q ∈ kc_X4_shapes, Cond.constant RX4 q.1 q.2 ∈ zTs := fun _ h => absurd h List.not_mem_nil
def nw_X4_shapes : List (Nat × Nat × Nat × List Value) := []
theorem hnw_X4_shapes : ∀ q ∈ nw_X4_shapes, zNew RX4 q := fun _ h => absurd h List.not_mem_nil
set_option maxHeartbeats 4000000 in
set_option maxRecDepth 20000 in
theorem c_X4_shapes {l : Launch} (hl0 : l.stackTraces = false) : CT l yX4_shapes (.code yX4_shapes cX4_shapes 1 (some .int)) 2 0 0 false sp_X4_shapes := by
  refine zCT_of hl0 (own := RX4) fl_RX4 cs_X4_shapes nw_X4_shapes th_X4_shapes kc_X4_shapes (fun _ => []) false pg_X4_shapes rfl (by decide +kernel) hp_X4_shapes ⟨_, _, rfl, rfl⟩ hfl_RX4 (fun h => nomatch h) (hcs_X4_shapes hl0) hnw_X4_shapes hth_X4_shapes (fun _ _ h => absurd h List.not_mem_nil) hkc_X4_shapes (fun args w Q X v0 hv0 h => ?_)
  obtain ⟨α, ν, r, rfl, rfl, hQ⟩ := h
  refine ⟨Nat.le_of_ble_eq_true rfl, 20, [], ?_, fun q hq => absurd hq List.not_mem_nil⟩
  (conv => whnf)
  refine ⟨α, ν, r, rfl, rfl, ?_⟩
  (conv => whnf)
  exact hQ
/-- a call that asks of a cell -/
def zAsk (g : (Nat → Nat → Int32) → Nat → Int32) : zSpec := fun args w Q X => ∃ α ν r x, args = [.ref 0, .int x] ∧ w = WX α ν r ∧ (¬ vp_in x 96 → X zIOO (WX α ν r)) ∧ ∀ k, k < 96 → x = nI k → Q (some (.int (g α k))) (WX α ν r)
def sp_X4_shapeOf : zSpec := zAsk (fun α k => α 3 k)
def pg_X4_shapeOf : List zE := [(0, .iload_n 1, 1, []), (1, .invokestatic 48, 3, []), (4, .aload_n 0, 1, []), (5, .getfield 12, 3, []), (8, .iload_n 1, 1, []), (9, .invokevirtual 77, 3, []), (12, .ireturn, 1, [])]
theorem hp_X4_shapeOf : ∀ q ∈ pg_X4_shapeOf, decode cX4_shapeOf q.1 = .ok (q.2.1, q.2.2.1) ∧ ztg q.2.1 q.1 q.2.2.1 q.2.2.2 = true := zpg_of (by decide +kernel)
def cs_X4_shapeOf : List (Nat × zCall) := [(48, 1, 1, none, 1, 6, false, sp_X4_requireCell), (77, 0, 2, some 1, 0, 0, false, sp_X0_shapeAt)]
theorem hcs_X4_shapeOf {l : Launch} (hl0 : l.stackTraces = false) : ∀ q ∈ cs_X4_shapeOf, zCallable l RX4 3 q := List.forall_mem_cons.mpr ⟨zcS (ps := [190, 191, 14, 192]) (c_X4_requireCell hl0) (by decide +kernel) ⟨by decide +kernel, by decide +kernel, by decide +kernel⟩ (by decide) (by decide), List.forall_mem_cons.mpr ⟨zcV (C := (RX0, TX0, 8)) (ps := [330, 331, 332, 15, 333]) (c_X0_shapeAt hl0) (by decide +kernel) rfl ⟨rfl, by decide +kernel, by decide +kernel, by decide +kernel⟩ (by decide) (by decide), fun _ h => absurd h List.not_mem_nil⟩⟩
def th_X4_shapeOf : List (Nat × String) := []
theorem hth_X4_shapeOf : ∀ q ∈ th_X4_shapeOf, zThrow cX4_shapeOf RX4 q := fun _ h => absurd h List.not_mem_nil
def kc_X4_shapeOf : List (Nat × Int32) := []
theorem hkc_X4_shapeOf : ∀ q ∈ kc_X4_shapeOf, Cond.constant RX4 q.1 q.2 ∈ zTs := fun _ h => absurd h List.not_mem_nil
def nw_X4_shapeOf : List (Nat × Nat × Nat × List Value) := []
theorem hnw_X4_shapeOf : ∀ q ∈ nw_X4_shapeOf, zNew RX4 q := fun _ h => absurd h List.not_mem_nil
set_option maxHeartbeats 4000000 in
set_option maxRecDepth 20000 in
theorem c_X4_shapeOf {l : Launch} (hl0 : l.stackTraces = false) : CT l yX4_shapeOf (.code yX4_shapeOf cX4_shapeOf 2 (some .int)) 3 1 6 false sp_X4_shapeOf := by
  refine zCT_of hl0 (own := RX4) fl_RX4 cs_X4_shapeOf nw_X4_shapeOf th_X4_shapeOf kc_X4_shapeOf (fun _ => []) false pg_X4_shapeOf rfl (by decide +kernel) hp_X4_shapeOf ⟨_, _, rfl, rfl⟩ hfl_RX4 (fun h => nomatch h) (hcs_X4_shapeOf hl0) hnw_X4_shapeOf hth_X4_shapeOf (fun _ _ h => absurd h List.not_mem_nil) hkc_X4_shapeOf (fun args w Q X v0 hv0 h => ?_)
  obtain ⟨α, ν, r, x, rfl, rfl, h1, h2⟩ := h
  refine ⟨Nat.le_of_ble_eq_true rfl, 20, [], ?_, fun q hq => absurd hq List.not_mem_nil⟩
  (conv => whnf)
  refine ⟨_, rfl, fun c => ?_, fun c => ?_⟩
  · obtain ⟨k, hk, rfl⟩ := vp_in_of c (by decide)
    (conv => whnf)
    refine ⟨α, ν, r, k, hk, rfl, rfl, ?_⟩
    (conv => whnf)
    exact h2 k hk rfl
  · (conv => whnf)
    exact h1 c
def sp_X4_size : zSpec := zAsk (fun α k => nI (zcnt (α 3) (α 3 k) 96))
def pg_X4_size : List zE := [(0, .iload_n 1, 1, []), (1, .invokestatic 48, 3, []), (4, .aload_n 0, 1, []), (5, .getfield 12, 3, []), (8, .aload_n 0, 1, []), (9, .getfield 12, 3, []), (12, .iload_n 1, 1, []), (13, .invokevirtual 77, 3, []), (16, .invokevirtual 80, 3, []), (19, .ireturn, 1, [])]
theorem hp_X4_size : ∀ q ∈ pg_X4_size, decode cX4_size q.1 = .ok (q.2.1, q.2.2.1) ∧ ztg q.2.1 q.1 q.2.2.1 q.2.2.2 = true := zpg_of (by decide +kernel)
def cs_X4_size : List (Nat × zCall) := [(48, 1, 1, none, 1, 6, false, sp_X4_requireCell), (77, 0, 2, some 1, 0, 0, false, sp_X0_shapeAt), (80, 0, 2, some 1, 0, 0, false, sp_X0_countCells)]
theorem hcs_X4_size {l : Launch} (hl0 : l.stackTraces = false) : ∀ q ∈ cs_X4_size, zCallable l RX4 4 q := List.forall_mem_cons.mpr ⟨zcS (ps := [190, 191, 14, 192]) (c_X4_requireCell hl0) (by decide +kernel) ⟨by decide +kernel, by decide +kernel, by decide +kernel⟩ (by decide) (by decide), List.forall_mem_cons.mpr ⟨zcV (C := (RX0, TX0, 8)) (ps := [330, 331, 332, 15, 333]) (c_X0_shapeAt hl0) (by decide +kernel) rfl ⟨rfl, by decide +kernel, by decide +kernel, by decide +kernel⟩ (by decide) (by decide), List.forall_mem_cons.mpr ⟨zcV (C := (RX0, TX0, 8)) (ps := [622, 623, 624, 15, 625]) (c_X0_countCells hl0) (by decide +kernel) rfl ⟨rfl, by decide +kernel, by decide +kernel, by decide +kernel⟩ (by decide) (by decide), fun _ h => absurd h List.not_mem_nil⟩⟩⟩
def th_X4_size : List (Nat × String) := []
theorem hth_X4_size : ∀ q ∈ th_X4_size, zThrow cX4_size RX4 q := fun _ h => absurd h List.not_mem_nil
def kc_X4_size : List (Nat × Int32) := []
theorem hkc_X4_size : ∀ q ∈ kc_X4_size, Cond.constant RX4 q.1 q.2 ∈ zTs := fun _ h => absurd h List.not_mem_nil
def nw_X4_size : List (Nat × Nat × Nat × List Value) := []
theorem hnw_X4_size : ∀ q ∈ nw_X4_size, zNew RX4 q := fun _ h => absurd h List.not_mem_nil
set_option maxHeartbeats 4000000 in
set_option maxRecDepth 20000 in
theorem c_X4_size {l : Launch} (hl0 : l.stackTraces = false) : CT l yX4_size (.code yX4_size cX4_size 2 (some .int)) 4 1 6 false sp_X4_size := by
  refine zCT_of hl0 (own := RX4) fl_RX4 cs_X4_size nw_X4_size th_X4_size kc_X4_size (fun _ => []) false pg_X4_size rfl (by decide +kernel) hp_X4_size ⟨_, _, rfl, rfl⟩ hfl_RX4 (fun h => nomatch h) (hcs_X4_size hl0) hnw_X4_size hth_X4_size (fun _ _ h => absurd h List.not_mem_nil) hkc_X4_size (fun args w Q X v0 hv0 h => ?_)
  obtain ⟨α, ν, r, x, rfl, rfl, h1, h2⟩ := h
  refine ⟨Nat.le_of_ble_eq_true rfl, 20, [], ?_, fun q hq => absurd hq List.not_mem_nil⟩
  (conv => whnf)
  refine ⟨_, rfl, fun c => ?_, fun c => ?_⟩
  · obtain ⟨k, hk, rfl⟩ := vp_in_of c (by decide)
    (conv => whnf)
    refine ⟨α, ν, r, k, hk, rfl, rfl, ?_⟩
    (conv => whnf)
    refine ⟨α, ν, r, _, rfl, rfl, ?_⟩
    (conv => whnf)
    exact h2 k hk rfl
  · (conv => whnf)
    exact h1 c
def sp_X4_top : zSpec := zAsk (fun α k => zmx (α 3) (α 0) (α 3 k) 96)
def pg_X4_top : List zE := [(0, .iload_n 1, 1, []), (1, .invokestatic 48, 3, []), (4, .aload_n 0, 1, []), (5, .getfield 12, 3, []), (8, .aload_n 0, 1, []), (9, .getfield 12, 3, []), (12, .iload_n 1, 1, []), (13, .invokevirtual 77, 3, []), (16, .invokevirtual 83, 3, []), (19, .ireturn, 1, [])]
theorem hp_X4_top : ∀ q ∈ pg_X4_top, decode cX4_top q.1 = .ok (q.2.1, q.2.2.1) ∧ ztg q.2.1 q.1 q.2.2.1 q.2.2.2 = true := zpg_of (by decide +kernel)
def cs_X4_top : List (Nat × zCall) := [(48, 1, 1, none, 1, 6, false, sp_X4_requireCell), (77, 0, 2, some 1, 0, 0, false, sp_X0_shapeAt), (83, 0, 2, some 1, 0, 0, false, sp_X0_greatestHeight)]
theorem hcs_X4_top {l : Launch} (hl0 : l.stackTraces = false) : ∀ q ∈ cs_X4_top, zCallable l RX4 4 q := List.forall_mem_cons.mpr ⟨zcS (ps := [190, 191, 14, 192]) (c_X4_requireCell hl0) (by decide +kernel) ⟨by decide +kernel, by decide +kernel, by decide +kernel⟩ (by decide) (by decide), List.forall_mem_cons.mpr ⟨zcV (C := (RX0, TX0, 8)) (ps := [330, 331, 332, 15, 333]) (c_X0_shapeAt hl0) (by decide +kernel) rfl ⟨rfl, by decide +kernel, by decide +kernel, by decide +kernel⟩ (by decide) (by decide), List.forall_mem_cons.mpr ⟨zcV (C := (RX0, TX0, 8)) (ps := [630, 631, 632, 15, 633]) (c_X0_greatestHeight hl0) (by decide +kernel) rfl ⟨rfl, by decide +kernel, by decide +kernel, by decide +kernel⟩ (by decide) (by decide), fun _ h => absurd h List.not_mem_nil⟩⟩⟩
def th_X4_top : List (Nat × String) := []
theorem hth_X4_top : ∀ q ∈ th_X4_top, zThrow cX4_top RX4 q := fun _ h => absurd h List.not_mem_nil
def kc_X4_top : List (Nat × Int32) := []
theorem hkc_X4_top : ∀ q ∈ kc_X4_top, Cond.constant RX4 q.1 q.2 ∈ zTs := fun _ h => absurd h List.not_mem_nil
def nw_X4_top : List (Nat × Nat × Nat × List Value) := []
theorem hnw_X4_top : ∀ q ∈ nw_X4_top, zNew RX4 q := fun _ h => absurd h List.not_mem_nil
set_option maxHeartbeats 4000000 in
set_option maxRecDepth 20000 in
theorem c_X4_top {l : Launch} (hl0 : l.stackTraces = false) : CT l yX4_top (.code yX4_top cX4_top 2 (some .int)) 4 1 6 false sp_X4_top := by
  refine zCT_of hl0 (own := RX4) fl_RX4 cs_X4_top nw_X4_top th_X4_top kc_X4_top (fun _ => []) false pg_X4_top rfl (by decide +kernel) hp_X4_top ⟨_, _, rfl, rfl⟩ hfl_RX4 (fun h => nomatch h) (hcs_X4_top hl0) hnw_X4_top hth_X4_top (fun _ _ h => absurd h List.not_mem_nil) hkc_X4_top (fun args w Q X v0 hv0 h => ?_)
  obtain ⟨α, ν, r, x, rfl, rfl, h1, h2⟩ := h
  refine ⟨Nat.le_of_ble_eq_true rfl, 20, [], ?_, fun q hq => absurd hq List.not_mem_nil⟩
  (conv => whnf)
  refine ⟨_, rfl, fun c => ?_, fun c => ?_⟩
  · obtain ⟨k, hk, rfl⟩ := vp_in_of c (by decide)
    (conv => whnf)
    refine ⟨α, ν, r, k, hk, rfl, rfl, ?_⟩
    (conv => whnf)
    refine ⟨α, ν, r, _, rfl, rfl, ?_⟩
    (conv => whnf)
    exact h2 k hk rfl
  · (conv => whnf)
    exact h1 c
def sp_X4_nameOf : zSpec := zAsk (fun α k => zNm α (α 3 k))
def pg_X4_nameOf : List zE := [(0, .iload_n 1, 1, []), (1, .invokestatic 48, 3, []), (4, .aload_n 0, 1, []), (5, .getfield 12, 3, []), (8, .aload_n 0, 1, []), (9, .getfield 12, 3, []), (12, .iload_n 1, 1, []), (13, .invokevirtual 77, 3, []), (16, .invokevirtual 86, 3, []), (19, .ireturn, 1, [])]
theorem hp_X4_nameOf : ∀ q ∈ pg_X4_nameOf, decode cX4_nameOf q.1 = .ok (q.2.1, q.2.2.1) ∧ ztg q.2.1 q.1 q.2.2.1 q.2.2.2 = true := zpg_of (by decide +kernel)
def cs_X4_nameOf : List (Nat × zCall) := [(48, 1, 1, none, 1, 6, false, sp_X4_requireCell), (77, 0, 2, some 1, 0, 0, false, sp_X0_shapeAt), (86, 0, 2, some 1, 0, 0, false, sp_X0_nameOfShape)]
theorem hcs_X4_nameOf {l : Launch} (hl0 : l.stackTraces = false) : ∀ q ∈ cs_X4_nameOf, zCallable l RX4 4 q := List.forall_mem_cons.mpr ⟨zcS (ps := [190, 191, 14, 192]) (c_X4_requireCell hl0) (by decide +kernel) ⟨by decide +kernel, by decide +kernel, by decide +kernel⟩ (by decide) (by decide), List.forall_mem_cons.mpr ⟨zcV (C := (RX0, TX0, 8)) (ps := [330, 331, 332, 15, 333]) (c_X0_shapeAt hl0) (by decide +kernel) rfl ⟨rfl, by decide +kernel, by decide +kernel, by decide +kernel⟩ (by decide) (by decide), List.forall_mem_cons.mpr ⟨zcV (C := (RX0, TX0, 8)) (ps := [338, 339, 340, 15, 341]) (c_X0_nameOfShape hl0) (by decide +kernel) rfl ⟨rfl, by decide +kernel, by decide +kernel, by decide +kernel⟩ (by decide) (by decide), fun _ h => absurd h List.not_mem_nil⟩⟩⟩
def th_X4_nameOf : List (Nat × String) := []
theorem hth_X4_nameOf : ∀ q ∈ th_X4_nameOf, zThrow cX4_nameOf RX4 q := fun _ h => absurd h List.not_mem_nil
def kc_X4_nameOf : List (Nat × Int32) := []
theorem hkc_X4_nameOf : ∀ q ∈ kc_X4_nameOf, Cond.constant RX4 q.1 q.2 ∈ zTs := fun _ h => absurd h List.not_mem_nil
def nw_X4_nameOf : List (Nat × Nat × Nat × List Value) := []
theorem hnw_X4_nameOf : ∀ q ∈ nw_X4_nameOf, zNew RX4 q := fun _ h => absurd h List.not_mem_nil
set_option maxHeartbeats 4000000 in
set_option maxRecDepth 20000 in
theorem c_X4_nameOf {l : Launch} (hl0 : l.stackTraces = false) : CT l yX4_nameOf (.code yX4_nameOf cX4_nameOf 2 (some .int)) 4 1 6 false sp_X4_nameOf := by
  refine zCT_of hl0 (own := RX4) fl_RX4 cs_X4_nameOf nw_X4_nameOf th_X4_nameOf kc_X4_nameOf (fun _ => []) false pg_X4_nameOf rfl (by decide +kernel) hp_X4_nameOf ⟨_, _, rfl, rfl⟩ hfl_RX4 (fun h => nomatch h) (hcs_X4_nameOf hl0) hnw_X4_nameOf hth_X4_nameOf (fun _ _ h => absurd h List.not_mem_nil) hkc_X4_nameOf (fun args w Q X v0 hv0 h => ?_)
  obtain ⟨α, ν, r, x, rfl, rfl, h1, h2⟩ := h
  refine ⟨Nat.le_of_ble_eq_true rfl, 20, [], ?_, fun q hq => absurd hq List.not_mem_nil⟩
  (conv => whnf)
  refine ⟨_, rfl, fun c => ?_, fun c => ?_⟩
  · obtain ⟨k, hk, rfl⟩ := vp_in_of c (by decide)
    (conv => whnf)
    refine ⟨α, ν, r, k, hk, rfl, rfl, ?_⟩
    (conv => whnf)
    refine ⟨α, ν, r, _, rfl, rfl, ?_⟩
    (conv => whnf)
    exact h2 k hk rfl
  · (conv => whnf)
    exact h1 c
/-- a sign of a title -/
def zTat (T : List Nat) (p : Int32) : Int32 := if p < nI T.length then nI (T.getD p.toNatClampNeg 0) else -1
def zTt (α : Nat → Nat → Int32) (s : Nat) (fd : Option Nat) : List Nat := zTtl (zNm α (nI s)) s (zcnt (α 3) (nI s) 96) fd
/-- who finds shape s: claim x, finder fd -/
def zFd (α : Nat → Nat → Int32) (ν : Nat → Int32) (c : Nat) (s : Int32) (fd : Option Nat) : Prop := ∃ x, zHR α ν c s x ∧ ((x = -1 ∧ fd = none) ∨ ∃ j f, j < c ∧ f < 6 ∧ x = nI j ∧ α 8 j = nI f ∧ fd = some f)
theorem zdg_b {n : Nat} (hn : n < 100) : ∀ x ∈ zdg n, x < 128 := by
  intro x hx
  unfold zdg at hx
  split at hx
  · have : x = 48 + n := by simpa using hx
    omega
  · have : x = 48 + n / 10 ∨ x = 48 + n % 10 := by simpa using hx
    omega
theorem zTtl_b {name : Int32} {s z : Nat} {fd : Option Nat} (hs : s < 100) (hz : z < 100) (hf : ∀ f, fd = some f → f < 6) : ∀ x ∈ zTtl name s z fd, x < 128 := by
  intro x hx
  unfold zTtl at hx
  simp only [List.mem_append, List.mem_singleton] at hx
  rcases hx with (((rfl | hx) | rfl) | hx) | hx
  · exact zsg_lt name
  · exact zdg_b hs x hx
  · decide
  · exact zdg_b hz x hx
  · cases fd with
    | none => cases hx
    | some f =>
      simp only [List.mem_append, List.mem_singleton] at hx
      rcases hx with rfl | hx
      · decide
      · exact zdg_b (by have := hf f rfl; omega) x hx
theorem zTtl_l {name : Int32} {s z : Nat} {fd : Option Nat} (hf : ∀ f, fd = some f → f < 6) : (zTtl name s z fd).length ≤ 8 := by
  cases fd with
  | none => have := (zTtl_len name s z 0 (by decide)).2; omega
  | some f => exact (zTtl_len name s z f (by have := hf f rfl; omega)).1
def sp_X4_titleAt : zSpec := fun args w Q X => ∃ α ν r c q x p, zCk α ν c ∧ (∀ j, j < c → ∃ f, f < 6 ∧ α 8 j = nI f) ∧ q ≤ 16 ∧ ν 6 = nI q ∧ zLow (α 0) (α 3) ∧ args = [.ref 0, .int x, .int p] ∧ w = WX α ν r ∧ (¬ vp_in x 96 ∨ p < 0 → X zIOO (WX α ν r)) ∧
  ∀ k, k < 96 → x = nI k → ¬ p < 0 → (α 3 k = -1 → Q (some (.int (-1))) (WX α ν r)) ∧
    ∀ s fd y, s < 96 → α 3 k = nI s → zFd α ν c (nI s) fd → Q (some (.int (zTat (zTt α s fd) p))) (WX (zu α 14 (zwr (α 14) 0 (zTt α s fd))) (zu (zu ν 7 y) 6 (nI (zTt α s fd).length)) r)
theorem zLow_v {h f : Nat → Int32} (q : zLow h f) {k : Nat} (hk : k < 96) : f k = -1 ∨ ∃ s, s < 96 ∧ f k = nI s := by
  rcases q k hk with ⟨_, e⟩ | ⟨_, j, e, g, _⟩
  · exact Or.inl e
  · exact Or.inr ⟨j, (zcon_beg g).1, e⟩
def pg_X4_titleAt : List zE := [(0, .iload_n 1, 1, []), (1, .invokestatic 48, 3, []), (4, .iload_n 2, 1, []), (5, .ifCond .ge 13, 3, [18]), (8, .new 89, 3, []), (18, .aload_n 0, 1, []), (19, .getfield 12, 3, []), (22, .iload_n 1, 1, []), (23, .invokevirtual 77, 3, []), (26, .istore_n 3, 1, []), (27, .iload_n 3, 1, []), (28, .iconst (-1), 1, []), (29, .if_icmp .ne 5, 3, [34]), (32, .iconst (-1), 1, []), (33, .ireturn, 1, []), (34, .aload_n 0, 1, []), (35, .iload_n 3, 1, []), (36, .invokevirtual 96, 3, []), (39, .iload_n 2, 1, []), (40, .aload_n 0, 1, []), (41, .getfield 40, 3, []), (44, .invokevirtual 99, 3, []), (47, .if_icmp .lt 5, 3, [52]), (50, .iconst (-1), 1, []), (51, .ireturn, 1, []), (52, .aload_n 0, 1, []), (53, .getfield 40, 3, []), (56, .iload_n 2, 1, []), (57, .invokevirtual 102, 3, []), (60, .ireturn, 1, [])]
theorem hp_X4_titleAt : ∀ q ∈ pg_X4_titleAt, decode cX4_titleAt q.1 = .ok (q.2.1, q.2.2.1) ∧ ztg q.2.1 q.1 q.2.2.1 q.2.2.2 = true := zpg_of (by decide +kernel)
def cs_X4_titleAt : List (Nat × zCall) := [(48, 1, 1, none, 1, 6, false, sp_X4_requireCell), (77, 0, 2, some 1, 0, 0, false, sp_X0_shapeAt), (96, 0, 2, some 5, 0, 0, false, sp_X4_writeTitle), (99, 0, 1, some 0, 0, 0, false, sp_J4_length_8abf5), (102, 0, 2, some 0, 0, 0, false, sp_J4_charAt_5068e)]
theorem hcs_X4_titleAt {l : Launch} (hl0 : l.stackTraces = false) : ∀ q ∈ cs_X4_titleAt, zCallable l RX4 7 q := List.forall_mem_cons.mpr ⟨zcS (ps := [190, 191, 14, 192]) (c_X4_requireCell hl0) (by decide +kernel) ⟨by decide +kernel, by decide +kernel, by decide +kernel⟩ (by decide) (by decide), List.forall_mem_cons.mpr ⟨zcV (C := (RX0, TX0, 8)) (ps := [330, 331, 332, 15, 333]) (c_X0_shapeAt hl0) (by decide +kernel) rfl ⟨rfl, by decide +kernel, by decide +kernel, by decide +kernel⟩ (by decide) (by decide), List.forall_mem_cons.mpr ⟨zcV (C := (RX4, TX4, 6)) (ps := [640, 642, 12, 14, 643]) (c_X4_writeTitle hl0) (by decide +kernel) rfl ⟨rfl, by decide +kernel, by decide +kernel, by decide +kernel⟩ (by decide) (by decide), List.forall_mem_cons.mpr ⟨zcV (C := (RJ4, TJ4, 4)) (ps := [794, 795, 796, 21, 797]) (c_J4_length_8abf5 hl0) (by decide +kernel) rfl ⟨rfl, by decide +kernel, by decide +kernel, by decide +kernel⟩ (by decide) (by decide), List.forall_mem_cons.mpr ⟨zcV (C := (RJ4, TJ4, 4)) (ps := [801, 802, 803, 21, 804]) (c_J4_charAt_5068e hl0) (by decide +kernel) rfl ⟨rfl, by decide +kernel, by decide +kernel, by decide +kernel⟩ (by decide) (by decide), fun _ h => absurd h List.not_mem_nil⟩⟩⟩⟩⟩
def th_X4_titleAt : List (Nat × String) := [(8, "java/lang/IndexOutOfBoundsException")]
theorem hth_X4_titleAt : ∀ q ∈ th_X4_titleAt, zThrow cX4_titleAt RX4 q := List.forall_mem_cons.mpr ⟨⟨"no such place", 89, 91, 93, [196, 27], by decide +kernel, by decide +kernel, by decide +kernel, thw_RX4_93, by decide +kernel, by decide +kernel, Or.inl ⟨by decide +kernel, by decide +kernel, by decide +kernel⟩⟩, fun _ h => absurd h List.not_mem_nil⟩
def kc_X4_titleAt : List (Nat × Int32) := []
theorem hkc_X4_titleAt : ∀ q ∈ kc_X4_titleAt, Cond.constant RX4 q.1 q.2 ∈ zTs := fun _ h => absurd h List.not_mem_nil
def nw_X4_titleAt : List (Nat × Nat × Nat × List Value) := []
theorem hnw_X4_titleAt : ∀ q ∈ nw_X4_titleAt, zNew RX4 q := fun _ h => absurd h List.not_mem_nil
set_option maxHeartbeats 4000000 in
set_option maxRecDepth 20000 in
theorem c_X4_titleAt {l : Launch} (hl0 : l.stackTraces = false) : CT l yX4_titleAt (.code yX4_titleAt cX4_titleAt 4 (some .int)) 7 2 12 false sp_X4_titleAt := by
  refine zCT_of hl0 (own := RX4) fl_RX4 cs_X4_titleAt nw_X4_titleAt th_X4_titleAt kc_X4_titleAt (fun _ => []) false pg_X4_titleAt rfl (by decide +kernel) hp_X4_titleAt ⟨_, _, rfl, rfl⟩ hfl_RX4 (fun h => nomatch h) (hcs_X4_titleAt hl0) hnw_X4_titleAt hth_X4_titleAt (fun _ _ h => absurd h List.not_mem_nil) hkc_X4_titleAt (fun args w Q X v0 hv0 h => ?_)
  obtain ⟨α, ν, r, c, q, x, p, hc, hf, hq, hν, hl, rfl, rfl, h1, h2⟩ := h
  refine ⟨Nat.le_of_ble_eq_true rfl, 60, [], ?_, fun q hq => absurd hq List.not_mem_nil⟩
  (conv => whnf)
  refine ⟨_, rfl, fun cc => ?_, fun cc => ?_⟩
  · obtain ⟨k, hk, rfl⟩ := vp_in_of cc (by decide)
    (conv => whnf)
    refine And.intro (fun d => ?_) (fun d => ?_) <;> dsimp only at d
    · (conv => whnf)
      exact h1 (Or.inr d)
    · obtain ⟨h3, h4⟩ := h2 k hk rfl d
      (conv => whnf)
      refine ⟨α, ν, r, k, hk, rfl, rfl, ?_⟩
      rcases zLow_v hl hk with e | ⟨s, hs, e⟩
      · rw [e]
        (conv => whnf)
        refine And.intro (fun _ => ?_) (fun c => absurd (show _ from rfl) c)
        (conv => whnf)
        exact h3 e
      · rw [e]
        (conv => whnf)
        refine And.intro (fun c => absurd c (show ¬ _ from (nI_ne_m1 (show s < 2 ^ 31 by omega)))) (fun _ => ?_)
        (conv => whnf)
        have hz : zcnt (α 3) (nI s) 96 < 100 := by have := zcnt_le (α 3) (nI s) 96; omega
        refine ⟨α, ν, r, c, s, q, hc, hf, hq, hν, hs, hz, rfl, rfl, fun x fd y g1 g2 => ?_⟩
        have h5 := h4 s fd y hs e ⟨x, g1, g2⟩
        have hfd : ∀ f, fd = some f → f < 6 := fun f e => by
          rcases g2 with ⟨_, g⟩ | ⟨j, f', _, g, _, _, g'⟩
          · rw [g] at e; cases e
          · rw [g'] at e; cases e; exact g
        have hb := zTtl_b (name := zNm α (nI s)) (s := s) (z := zcnt (α 3) (nI s) 96) (fd := fd) (by omega) hz hfd
        have hl8 := zTtl_l (name := zNm α (nI s)) (s := s) (z := zcnt (α 3) (nI s) 96) (fd := fd) hfd
        obtain ⟨j, hj, rfl⟩ := nI_of d
        unfold zTt zTat at h5
        (conv => whnf)
        refine ⟨_, _, _, rfl, rfl, ?_⟩
        generalize zTtl (zNm α (nI s)) s (zcnt (α 3) (nI s) 96) fd = T at h5 hb hl8 ⊢
        (conv => whnf)
        refine And.intro (fun g => ?_) (fun g => ?_)
        · have hjl : j < T.length := (nI_ltI hj (by omega)).mp g
          have eg : T.getD j 0 = T[j] := by rw [List.getD_eq_getElem?_getD, List.getElem?_eq_getElem hjl]; rfl
          rw [if_pos (show nI j < nI T.length from g), nI_clamp hj, eg] at h5
          (conv => whnf)
          refine ⟨zu α 14 (zwr (α 14) 0 T), zu (zu ν 7 y) 6 (nI T.length), r, T.length, j, T[j], hjl, by omega, rfl, hb _ (List.getElem_mem hjl), ?_, rfl, rfl, ?_⟩
          · have := zwr_get T (α 14) 0 j hjl
            rw [Nat.zero_add] at this
            exact this
          · (conv => whnf)
            exact h5
        · rw [if_neg (show ¬ nI j < nI T.length from g)] at h5
          (conv => whnf)
          exact h5
  · (conv => whnf)
    exact h1 (Or.inl cc)
def sp_X4_name : zSpec := fun args w Q X => ∃ α ν r x y m n, args = [.ref 0, .int x, .int y, .int m, .int n] ∧ w = WX α ν r ∧ (¬ vp_in x 4 ∨ ¬ vp_in y 96 → X zIOO (WX α ν r)) ∧
  ∀ d k, d < 4 → k < 96 → x = nI d → y = nI k → ((m < nI 5 ∨ nI 60 < m) ∨ (n < nI 1 ∨ nI 3 < n) → X zIAE (WX α ν r)) ∧
    ∀ j, j ≤ 60 → m = nI j → ¬ m < nI 5 → ¬ nI 60 < m → ¬ n < nI 1 → ¬ nI 3 < n → (¬ zDv α ν d k j → X zISE (WX α ν r)) ∧ (zDv α ν d k j →
      Q (some (.int (znm (α 3) (upd (α 2) k (ν 1 + nI 1)) (upd (α 1) k n) (α 3 k) 96).2)) (WX (zu (zu (zu (zu α 6 (upd (α 6) d (α 6 d - nI (j * zau k)))) 7 (upd (α 7) d (ν 0 + nI j + nI (j * (10 * (k / 12 + 1)) / 20)))) 1 (upd (α 1) k n)) 2 (upd (α 2) k (ν 1 + nI 1))) (zu ν 1 (ν 1 + nI 1)) r))
theorem nI_le_of5 {m : Int32} {a b : Nat} (ha : 0 < a) (ha2 : a < 2 ^ 31) (hb : b < 2 ^ 31) (h1 : ¬ m < nI a) (h2 : ¬ nI b < m) : ∃ n, n ≤ b ∧ m = nI n := by
  have h0 : ¬ m < nI 1 := fun h => h1 (by
    have q := Int32.lt_iff_toInt_lt.mp h
    apply Int32.lt_iff_toInt_lt.mpr
    rw [nI_toInt (by decide)] at q
    rw [nI_toInt ha2]
    omega)
  obtain ⟨n, e, h⟩ := nI_le_of hb h0 h2
  exact ⟨n, h, e⟩
def pg_X4_name : List zE := [(0, .iload_n 1, 1, []), (1, .invokestatic 106, 3, []), (4, .iload_n 2, 1, []), (5, .invokestatic 48, 3, []), (8, .iload_n 3, 1, []), (9, .iconst 5, 1, [5]), (10, .bipush 60, 2, [60]), (12, .invokestatic 69, 3, []), (15, .iload 4, 2, []), (17, .iconst 1, 1, [1]), (18, .iconst 3, 1, [3]), (19, .invokestatic 69, 3, []), (22, .aload_n 0, 1, []), (23, .iload_n 1, 1, []), (24, .iload_n 2, 1, []), (25, .iload_n 3, 1, []), (26, .invokevirtual 109, 3, []), (29, .aload_n 0, 1, []), (30, .getfield 19, 3, []), (33, .iload_n 1, 1, []), (34, .iload_n 2, 1, []), (35, .iload_n 3, 1, []), (36, .aload_n 0, 1, []), (37, .getfield 44, 3, []), (40, .invokevirtual 112, 3, []), (43, .aload_n 0, 1, []), (44, .getfield 12, 3, []), (47, .iload_n 2, 1, []), (48, .iload 4, 2, []), (50, .invokevirtual 116, 3, []), (53, .aload_n 0, 1, []), (54, .getfield 12, 3, []), (57, .aload_n 0, 1, []), (58, .getfield 12, 3, []), (61, .iload_n 2, 1, []), (62, .invokevirtual 77, 3, []), (65, .invokevirtual 86, 3, []), (68, .ireturn, 1, [])]
theorem hp_X4_name : ∀ q ∈ pg_X4_name, decode cX4_name q.1 = .ok (q.2.1, q.2.2.1) ∧ ztg q.2.1 q.1 q.2.2.1 q.2.2.2 = true := zpg_of (by decide +kernel)
def cs_X4_name : List (Nat × zCall) := [(106, 1, 1, none, 1, 6, false, sp_X4_requireDiver), (48, 1, 1, none, 1, 6, false, sp_X4_requireCell), (69, 1, 3, none, 1, 6, false, sp_X4_requireWithin), (109, 0, 4, some 5, 2, 12, false, sp_X4_requireDive), (112, 0, 5, some 3, 0, 0, false, sp_X2_dive), (116, 0, 3, some 1, 0, 0, false, sp_X0_layMark), (77, 0, 2, some 1, 0, 0, false, sp_X0_shapeAt), (86, 0, 2, some 1, 0, 0, false, sp_X0_nameOfShape)]
theorem hcs_X4_name {l : Launch} (hl0 : l.stackTraces = false) : ∀ q ∈ cs_X4_name, zCallable l RX4 6 q := List.forall_mem_cons.mpr ⟨zcS (ps := [350, 351, 14, 352]) (c_X4_requireDiver hl0) (by decide +kernel) ⟨by decide +kernel, by decide +kernel, by decide +kernel⟩ (by decide) (by decide), List.forall_mem_cons.mpr ⟨zcS (ps := [190, 191, 14, 192]) (c_X4_requireCell hl0) (by decide +kernel) ⟨by decide +kernel, by decide +kernel, by decide +kernel⟩ (by decide) (by decide), List.forall_mem_cons.mpr ⟨zcS (ps := [266, 267, 14, 268]) (c_X4_requireWithin hl0) (by decide +kernel) ⟨by decide +kernel, by decide +kernel, by decide +kernel⟩ (by decide) (by decide), List.forall_mem_cons.mpr ⟨zcV (C := (RX4, TX4, 6)) (ps := [512, 514, 8, 14, 515]) (c_X4_requireDive hl0) (by decide +kernel) rfl ⟨rfl, by decide +kernel, by decide +kernel, by decide +kernel⟩ (by decide) (by decide), List.forall_mem_cons.mpr ⟨zcV (C := (RX2, TX2, 2)) (ps := [528, 529, 530, 17, 531]) (c_X2_dive hl0) (by decide +kernel) rfl ⟨rfl, by decide +kernel, by decide +kernel, by decide +kernel⟩ (by decide) (by decide), List.forall_mem_cons.mpr ⟨zcV (C := (RX0, TX0, 8)) (ps := [532, 533, 534, 15, 535]) (c_X0_layMark hl0) (by decide +kernel) rfl ⟨rfl, by decide +kernel, by decide +kernel, by decide +kernel⟩ (by decide) (by decide), List.forall_mem_cons.mpr ⟨zcV (C := (RX0, TX0, 8)) (ps := [330, 331, 332, 15, 333]) (c_X0_shapeAt hl0) (by decide +kernel) rfl ⟨rfl, by decide +kernel, by decide +kernel, by decide +kernel⟩ (by decide) (by decide), List.forall_mem_cons.mpr ⟨zcV (C := (RX0, TX0, 8)) (ps := [338, 339, 340, 15, 341]) (c_X0_nameOfShape hl0) (by decide +kernel) rfl ⟨rfl, by decide +kernel, by decide +kernel, by decide +kernel⟩ (by decide) (by decide), fun _ h => absurd h List.not_mem_nil⟩⟩⟩⟩⟩⟩⟩⟩
def th_X4_name : List (Nat × String) := []
theorem hth_X4_name : ∀ q ∈ th_X4_name, zThrow cX4_name RX4 q := fun _ h => absurd h List.not_mem_nil
def kc_X4_name : List (Nat × Int32) := []
theorem hkc_X4_name : ∀ q ∈ kc_X4_name, Cond.constant RX4 q.1 q.2 ∈ zTs := fun _ h => absurd h List.not_mem_nil
def nw_X4_name : List (Nat × Nat × Nat × List Value) := []
theorem hnw_X4_name : ∀ q ∈ nw_X4_name, zNew RX4 q := fun _ h => absurd h List.not_mem_nil
set_option maxHeartbeats 4000000 in
set_option maxRecDepth 20000 in
theorem c_X4_name {l : Launch} (hl0 : l.stackTraces = false) : CT l yX4_name (.code yX4_name cX4_name 5 (some .int)) 6 6 36 false sp_X4_name := by
  refine zCT_of hl0 (own := RX4) fl_RX4 cs_X4_name nw_X4_name th_X4_name kc_X4_name (fun _ => []) false pg_X4_name rfl (by decide +kernel) hp_X4_name ⟨_, _, rfl, rfl⟩ hfl_RX4 (fun h => nomatch h) (hcs_X4_name hl0) hnw_X4_name hth_X4_name (fun _ _ h => absurd h List.not_mem_nil) hkc_X4_name (fun args w Q X v0 hv0 h => ?_)
  obtain ⟨α, ν, r, x, y, m, n, rfl, rfl, h1, h2⟩ := h
  refine ⟨Nat.le_of_ble_eq_true rfl, 60, [], ?_, fun q hq => absurd hq List.not_mem_nil⟩
  (conv => whnf)
  refine ⟨_, rfl, fun c => ?_, fun c => ?_⟩
  · obtain ⟨d, hd, rfl⟩ := vp_in_of c (by decide)
    (conv => whnf)
    refine ⟨_, rfl, fun c => ?_, fun c => ?_⟩
    · obtain ⟨k, hk, rfl⟩ := vp_in_of c (by decide)
      obtain ⟨h3, h4⟩ := h2 d k hd hk rfl rfl
      (conv => whnf)
      refine ⟨m, nI 5, nI 60, rfl, fun a b => ?_, fun a => ?_⟩
      · obtain ⟨j, hj, rfl⟩ := nI_le_of5 (by decide) (by decide) (by decide) a b
        (conv => whnf)
        refine ⟨n, nI 1, nI 3, rfl, fun a' b' => ?_, fun a' => ?_⟩
        · obtain ⟨h5, h6⟩ := h4 j hj rfl a b a' b'
          (conv => whnf)
          refine ⟨α, ν, r, d, k, j, hd, hk, hj, rfl, rfl, fun e => ?_, fun e => ?_⟩
          · (conv => whnf)
            refine ⟨α, ν, r, d, k, j, ν 0, hd, hk, hj, rfl, rfl, ?_⟩
            (conv => whnf)
            refine ⟨_, ν, r, k, n, hk, rfl, rfl, ?_⟩
            (conv => whnf)
            refine ⟨_, _, r, k, hk, rfl, rfl, ?_⟩
            (conv => whnf)
            refine ⟨_, _, r, _, rfl, rfl, ?_⟩
            (conv => whnf)
            exact h6 e
          · (conv => whnf)
            exact h5 e
        · (conv => whnf)
          exact h3 (Or.inr a')
      · (conv => whnf)
        exact h3 (Or.inl a)
    · (conv => whnf)
      exact h1 (Or.inr c)
  · (conv => whnf)
    exact h1 (Or.inl c)
def sp_X4_fill : zSpec := fun args w Q X => ∃ α ν r x, args = [.ref 0, .int x] ∧ w = WX α ν r ∧ (¬ vp_in x 4 → X zIOO (WX α ν r)) ∧
  ∀ d, d < 4 → x = nI d → (¬ zrst (α 7 d) (ν 0) = 0 → X zISE (WX α ν r)) ∧ (zrst (α 7 d) (ν 0) = 0 → Q (some (.int (nI 200 - α 6 d))) (WX (zu α 6 (upd (α 6) d (nI 200))) ν r))
def pg_X4_fill : List zE := [(0, .iload_n 1, 1, []), (1, .invokestatic 106, 3, []), (4, .aload_n 0, 1, []), (5, .iload_n 1, 1, []), (6, .invokevirtual 139, 3, []), (9, .aload_n 0, 1, []), (10, .getfield 19, 3, []), (13, .iload_n 1, 1, []), (14, .invokevirtual 142, 3, []), (17, .ireturn, 1, [])]
theorem hp_X4_fill : ∀ q ∈ pg_X4_fill, decode cX4_fill q.1 = .ok (q.2.1, q.2.2.1) ∧ ztg q.2.1 q.1 q.2.2.1 q.2.2.2 = true := zpg_of (by decide +kernel)
def cs_X4_fill : List (Nat × zCall) := [(106, 1, 1, none, 1, 6, false, sp_X4_requireDiver), (139, 0, 2, some 5, 1, 6, false, sp_X4_requireFree), (142, 0, 2, some 3, 0, 0, false, sp_X2_fillBottle)]
theorem hcs_X4_fill {l : Launch} (hl0 : l.stackTraces = false) : ∀ q ∈ cs_X4_fill, zCallable l RX4 5 q := List.forall_mem_cons.mpr ⟨zcS (ps := [350, 351, 14, 352]) (c_X4_requireDiver hl0) (by decide +kernel) ⟨by decide +kernel, by decide +kernel, by decide +kernel⟩ (by decide) (by decide), List.forall_mem_cons.mpr ⟨zcV (C := (RX4, TX4, 6)) (ps := [516, 518, 9, 14, 519]) (c_X4_requireFree hl0) (by decide +kernel) rfl ⟨rfl, by decide +kernel, by decide +kernel, by decide +kernel⟩ (by decide) (by decide), List.forall_mem_cons.mpr ⟨zcV (C := (RX2, TX2, 2)) (ps := [577, 578, 579, 17, 580]) (c_X2_fillBottle hl0) (by decide +kernel) rfl ⟨rfl, by decide +kernel, by decide +kernel, by decide +kernel⟩ (by decide) (by decide), fun _ h => absurd h List.not_mem_nil⟩⟩⟩
def th_X4_fill : List (Nat × String) := []
theorem hth_X4_fill : ∀ q ∈ th_X4_fill, zThrow cX4_fill RX4 q := fun _ h => absurd h List.not_mem_nil
def kc_X4_fill : List (Nat × Int32) := []
theorem hkc_X4_fill : ∀ q ∈ kc_X4_fill, Cond.constant RX4 q.1 q.2 ∈ zTs := fun _ h => absurd h List.not_mem_nil
def nw_X4_fill : List (Nat × Nat × Nat × List Value) := []
theorem hnw_X4_fill : ∀ q ∈ nw_X4_fill, zNew RX4 q := fun _ h => absurd h List.not_mem_nil
set_option maxHeartbeats 4000000 in
set_option maxRecDepth 20000 in
theorem c_X4_fill {l : Launch} (hl0 : l.stackTraces = false) : CT l yX4_fill (.code yX4_fill cX4_fill 2 (some .int)) 5 2 12 false sp_X4_fill := by
  refine zCT_of hl0 (own := RX4) fl_RX4 cs_X4_fill nw_X4_fill th_X4_fill kc_X4_fill (fun _ => []) false pg_X4_fill rfl (by decide +kernel) hp_X4_fill ⟨_, _, rfl, rfl⟩ hfl_RX4 (fun h => nomatch h) (hcs_X4_fill hl0) hnw_X4_fill hth_X4_fill (fun _ _ h => absurd h List.not_mem_nil) hkc_X4_fill (fun args w Q X v0 hv0 h => ?_)
  obtain ⟨α, ν, r, x, rfl, rfl, h1, h2⟩ := h
  refine ⟨Nat.le_of_ble_eq_true rfl, 20, [], ?_, fun q hq => absurd hq List.not_mem_nil⟩
  (conv => whnf)
  refine ⟨_, rfl, fun c => ?_, fun c => ?_⟩
  · obtain ⟨d, hd, rfl⟩ := vp_in_of c (by decide)
    obtain ⟨h3, h4⟩ := h2 d hd rfl
    (conv => whnf)
    refine ⟨α, ν, r, d, hd, rfl, rfl, fun e => ?_, fun e => ?_⟩
    · (conv => whnf)
      refine ⟨α, ν, r, d, hd, rfl, rfl, ?_⟩
      (conv => whnf)
      exact h4 e
    · (conv => whnf)
      exact h3 e
  · (conv => whnf)
    exact h1 c
def sp_X4_air : zSpec := fun args w Q X => ∃ α ν r x, args = [.ref 0, .int x] ∧ w = WX α ν r ∧ (¬ vp_in x 4 → X zIOO (WX α ν r)) ∧ ∀ d, d < 4 → x = nI d → Q (some (.int (α 6 d))) (WX α ν r)
def pg_X4_air : List zE := [(0, .iload_n 1, 1, []), (1, .invokestatic 106, 3, []), (4, .aload_n 0, 1, []), (5, .getfield 19, 3, []), (8, .iload_n 1, 1, []), (9, .invokevirtual 145, 3, []), (12, .ireturn, 1, [])]
theorem hp_X4_air : ∀ q ∈ pg_X4_air, decode cX4_air q.1 = .ok (q.2.1, q.2.2.1) ∧ ztg q.2.1 q.1 q.2.2.1 q.2.2.2 = true := zpg_of (by decide +kernel)
def cs_X4_air : List (Nat × zCall) := [(106, 1, 1, none, 1, 6, false, sp_X4_requireDiver), (145, 0, 2, some 3, 0, 0, false, sp_X2_airOf)]
theorem hcs_X4_air {l : Launch} (hl0 : l.stackTraces = false) : ∀ q ∈ cs_X4_air, zCallable l RX4 3 q := List.forall_mem_cons.mpr ⟨zcS (ps := [350, 351, 14, 352]) (c_X4_requireDiver hl0) (by decide +kernel) ⟨by decide +kernel, by decide +kernel, by decide +kernel⟩ (by decide) (by decide), List.forall_mem_cons.mpr ⟨zcV (C := (RX2, TX2, 2)) (ps := [354, 355, 356, 17, 357]) (c_X2_airOf hl0) (by decide +kernel) rfl ⟨rfl, by decide +kernel, by decide +kernel, by decide +kernel⟩ (by decide) (by decide), fun _ h => absurd h List.not_mem_nil⟩⟩
def th_X4_air : List (Nat × String) := []
theorem hth_X4_air : ∀ q ∈ th_X4_air, zThrow cX4_air RX4 q := fun _ h => absurd h List.not_mem_nil
def kc_X4_air : List (Nat × Int32) := []
theorem hkc_X4_air : ∀ q ∈ kc_X4_air, Cond.constant RX4 q.1 q.2 ∈ zTs := fun _ h => absurd h List.not_mem_nil
def nw_X4_air : List (Nat × Nat × Nat × List Value) := []
theorem hnw_X4_air : ∀ q ∈ nw_X4_air, zNew RX4 q := fun _ h => absurd h List.not_mem_nil
set_option maxHeartbeats 4000000 in
set_option maxRecDepth 20000 in
theorem c_X4_air {l : Launch} (hl0 : l.stackTraces = false) : CT l yX4_air (.code yX4_air cX4_air 2 (some .int)) 3 1 6 false sp_X4_air := by
  refine zCT_of hl0 (own := RX4) fl_RX4 cs_X4_air nw_X4_air th_X4_air kc_X4_air (fun _ => []) false pg_X4_air rfl (by decide +kernel) hp_X4_air ⟨_, _, rfl, rfl⟩ hfl_RX4 (fun h => nomatch h) (hcs_X4_air hl0) hnw_X4_air hth_X4_air (fun _ _ h => absurd h List.not_mem_nil) hkc_X4_air (fun args w Q X v0 hv0 h => ?_)
  obtain ⟨α, ν, r, x, rfl, rfl, h1, h2⟩ := h
  refine ⟨Nat.le_of_ble_eq_true rfl, 20, [], ?_, fun q hq => absurd hq List.not_mem_nil⟩
  (conv => whnf)
  refine ⟨_, rfl, fun c => ?_, fun c => ?_⟩
  · obtain ⟨d, hd, rfl⟩ := vp_in_of c (by decide)
    (conv => whnf)
    refine ⟨α, ν, r, d, hd, rfl, rfl, ?_⟩
    (conv => whnf)
    exact h2 d hd rfl
  · (conv => whnf)
    exact h1 c
def sp_X4_rest : zSpec := fun args w Q X => ∃ α ν r x, args = [.ref 0, .int x] ∧ w = WX α ν r ∧ (¬ vp_in x 4 → X zIOO (WX α ν r)) ∧ ∀ d, d < 4 → x = nI d → Q (some (.int (zrst (α 7 d) (ν 0)))) (WX α ν r)
def pg_X4_rest : List zE := [(0, .iload_n 1, 1, []), (1, .invokestatic 106, 3, []), (4, .aload_n 0, 1, []), (5, .getfield 19, 3, []), (8, .iload_n 1, 1, []), (9, .aload_n 0, 1, []), (10, .getfield 44, 3, []), (13, .invokevirtual 148, 3, []), (16, .ireturn, 1, [])]
theorem hp_X4_rest : ∀ q ∈ pg_X4_rest, decode cX4_rest q.1 = .ok (q.2.1, q.2.2.1) ∧ ztg q.2.1 q.1 q.2.2.1 q.2.2.2 = true := zpg_of (by decide +kernel)
def cs_X4_rest : List (Nat × zCall) := [(106, 1, 1, none, 1, 6, false, sp_X4_requireDiver), (148, 0, 3, some 3, 0, 0, false, sp_X2_minutesUntilFree)]
theorem hcs_X4_rest {l : Launch} (hl0 : l.stackTraces = false) : ∀ q ∈ cs_X4_rest, zCallable l RX4 3 q := List.forall_mem_cons.mpr ⟨zcS (ps := [350, 351, 14, 352]) (c_X4_requireDiver hl0) (by decide +kernel) ⟨by decide +kernel, by decide +kernel, by decide +kernel⟩ (by decide) (by decide), List.forall_mem_cons.mpr ⟨zcV (C := (RX2, TX2, 2)) (ps := [365, 366, 367, 17, 368]) (c_X2_minutesUntilFree hl0) (by decide +kernel) rfl ⟨rfl, by decide +kernel, by decide +kernel, by decide +kernel⟩ (by decide) (by decide), fun _ h => absurd h List.not_mem_nil⟩⟩
def th_X4_rest : List (Nat × String) := []
theorem hth_X4_rest : ∀ q ∈ th_X4_rest, zThrow cX4_rest RX4 q := fun _ h => absurd h List.not_mem_nil
def kc_X4_rest : List (Nat × Int32) := []
theorem hkc_X4_rest : ∀ q ∈ kc_X4_rest, Cond.constant RX4 q.1 q.2 ∈ zTs := fun _ h => absurd h List.not_mem_nil
def nw_X4_rest : List (Nat × Nat × Nat × List Value) := []
theorem hnw_X4_rest : ∀ q ∈ nw_X4_rest, zNew RX4 q := fun _ h => absurd h List.not_mem_nil
set_option maxHeartbeats 4000000 in
set_option maxRecDepth 20000 in
theorem c_X4_rest {l : Launch} (hl0 : l.stackTraces = false) : CT l yX4_rest (.code yX4_rest cX4_rest 2 (some .int)) 3 1 6 false sp_X4_rest := by
  refine zCT_of hl0 (own := RX4) fl_RX4 cs_X4_rest nw_X4_rest th_X4_rest kc_X4_rest (fun _ => []) false pg_X4_rest rfl (by decide +kernel) hp_X4_rest ⟨_, _, rfl, rfl⟩ hfl_RX4 (fun h => nomatch h) (hcs_X4_rest hl0) hnw_X4_rest hth_X4_rest (fun _ _ h => absurd h List.not_mem_nil) hkc_X4_rest (fun args w Q X v0 hv0 h => ?_)
  obtain ⟨α, ν, r, x, rfl, rfl, h1, h2⟩ := h
  refine ⟨Nat.le_of_ble_eq_true rfl, 20, [], ?_, fun q hq => absurd hq List.not_mem_nil⟩
  (conv => whnf)
  refine ⟨_, rfl, fun c => ?_, fun c => ?_⟩
  · obtain ⟨d, hd, rfl⟩ := vp_in_of c (by decide)
    (conv => whnf)
    refine ⟨α, ν, r, d, ν 0, hd, rfl, rfl, ?_⟩
    (conv => whnf)
    exact h2 d hd rfl
  · (conv => whnf)
    exact h1 c
def sp_X4_longest : zSpec := fun args w Q X => ∃ α ν r x y, (∀ d, d < 4 → ∃ a, a ≤ 200 ∧ α 6 d = nI a) ∧ args = [.ref 0, .int x, .int y] ∧ w = WX α ν r ∧ (¬ vp_in x 4 ∨ ¬ vp_in y 96 → X zIOO (WX α ν r)) ∧
  ∀ d k a, d < 4 → k < 96 → x = nI d → y = nI k → a ≤ 200 → α 6 d = nI a → Q (some (.int (nI (min (a / zau k) 60)))) (WX α ν r)
def pg_X4_longest : List zE := [(0, .iload_n 1, 1, []), (1, .invokestatic 106, 3, []), (4, .iload_n 2, 1, []), (5, .invokestatic 48, 3, []), (8, .aload_n 0, 1, []), (9, .getfield 19, 3, []), (12, .iload_n 1, 1, []), (13, .iload_n 2, 1, []), (14, .invokevirtual 152, 3, []), (17, .ireturn, 1, [])]
theorem hp_X4_longest : ∀ q ∈ pg_X4_longest, decode cX4_longest q.1 = .ok (q.2.1, q.2.2.1) ∧ ztg q.2.1 q.1 q.2.2.1 q.2.2.2 = true := zpg_of (by decide +kernel)
def cs_X4_longest : List (Nat × zCall) := [(106, 1, 1, none, 1, 6, false, sp_X4_requireDiver), (48, 1, 1, none, 1, 6, false, sp_X4_requireCell), (152, 0, 3, some 3, 0, 0, false, sp_X2_longestDive)]
theorem hcs_X4_longest {l : Launch} (hl0 : l.stackTraces = false) : ∀ q ∈ cs_X4_longest, zCallable l RX4 4 q := List.forall_mem_cons.mpr ⟨zcS (ps := [350, 351, 14, 352]) (c_X4_requireDiver hl0) (by decide +kernel) ⟨by decide +kernel, by decide +kernel, by decide +kernel⟩ (by decide) (by decide), List.forall_mem_cons.mpr ⟨zcS (ps := [190, 191, 14, 192]) (c_X4_requireCell hl0) (by decide +kernel) ⟨by decide +kernel, by decide +kernel, by decide +kernel⟩ (by decide) (by decide), List.forall_mem_cons.mpr ⟨zcV (C := (RX2, TX2, 2)) (ps := [376, 377, 378, 17, 379]) (c_X2_longestDive hl0) (by decide +kernel) rfl ⟨rfl, by decide +kernel, by decide +kernel, by decide +kernel⟩ (by decide) (by decide), fun _ h => absurd h List.not_mem_nil⟩⟩⟩
def th_X4_longest : List (Nat × String) := []
theorem hth_X4_longest : ∀ q ∈ th_X4_longest, zThrow cX4_longest RX4 q := fun _ h => absurd h List.not_mem_nil
def kc_X4_longest : List (Nat × Int32) := []
theorem hkc_X4_longest : ∀ q ∈ kc_X4_longest, Cond.constant RX4 q.1 q.2 ∈ zTs := fun _ h => absurd h List.not_mem_nil
def nw_X4_longest : List (Nat × Nat × Nat × List Value) := []
theorem hnw_X4_longest : ∀ q ∈ nw_X4_longest, zNew RX4 q := fun _ h => absurd h List.not_mem_nil
set_option maxHeartbeats 4000000 in
set_option maxRecDepth 20000 in
theorem c_X4_longest {l : Launch} (hl0 : l.stackTraces = false) : CT l yX4_longest (.code yX4_longest cX4_longest 3 (some .int)) 4 2 12 false sp_X4_longest := by
  refine zCT_of hl0 (own := RX4) fl_RX4 cs_X4_longest nw_X4_longest th_X4_longest kc_X4_longest (fun _ => []) false pg_X4_longest rfl (by decide +kernel) hp_X4_longest ⟨_, _, rfl, rfl⟩ hfl_RX4 (fun h => nomatch h) (hcs_X4_longest hl0) hnw_X4_longest hth_X4_longest (fun _ _ h => absurd h List.not_mem_nil) hkc_X4_longest (fun args w Q X v0 hv0 h => ?_)
  obtain ⟨α, ν, r, x, y, ha, rfl, rfl, h1, h2⟩ := h
  refine ⟨Nat.le_of_ble_eq_true rfl, 20, [], ?_, fun q hq => absurd hq List.not_mem_nil⟩
  (conv => whnf)
  refine ⟨_, rfl, fun c => ?_, fun c => ?_⟩
  · obtain ⟨d, hd, rfl⟩ := vp_in_of c (by decide)
    obtain ⟨a, ha1, ha2⟩ := ha d hd
    (conv => whnf)
    refine ⟨_, rfl, fun c => ?_, fun c => ?_⟩
    · obtain ⟨k, hk, rfl⟩ := vp_in_of c (by decide)
      (conv => whnf)
      refine ⟨α, ν, r, d, k, a, hd, hk, ha1, ha2, rfl, rfl, ?_⟩
      (conv => whnf)
      exact h2 d k a hd hk rfl rfl ha1 ha2
    · (conv => whnf)
      exact h1 (Or.inr c)
  · (conv => whnf)
    exact h1 (Or.inl c)
def sp_X4_claim : zSpec := fun args w Q X => ∃ α ν r c x y, zCk α ν c ∧ (∀ j, j < c → ∃ f, f < 6 ∧ α 8 j = nI f) ∧ args = [.ref 0, .int x, .int y] ∧ w = WX α ν r ∧ (¬ vp_in x 6 ∨ ¬ vp_in y 96 → X zIOO (WX α ν r)) ∧
  ∀ f k, f < 6 → k < 96 → x = nI f → y = nI k → ∀ z, zHR α ν c (α 3 k) z → (zBad α (α 3 k) ∨ z ≠ -1 ∨ c = 40 → X zISE (WX α ν r)) ∧ (¬ zBad α (α 3 k) → z = -1 → c < 40 →
    Q (some (.int (nI c))) (WX (zu (zu (zu α 8 (upd (α 8) c (nI f))) 9 (upd (α 9) c (nI k))) 10 (upd (α 10) c (ν 0 + nI 28800))) (zu ν 3 (nI (c + 1))) r))
def pg_X4_claim : List zE := [(0, .iload_n 1, 1, []), (1, .invokestatic 155, 3, []), (4, .iload_n 2, 1, []), (5, .invokestatic 48, 3, []), (8, .aload_n 0, 1, []), (9, .getfield 12, 3, []), (12, .iload_n 2, 1, []), (13, .invokevirtual 77, 3, []), (16, .istore_n 3, 1, []), (17, .aload_n 0, 1, []), (18, .iload_n 3, 1, []), (19, .invokevirtual 120, 3, []), (22, .aload_n 0, 1, []), (23, .iload_n 3, 1, []), (24, .invokevirtual 132, 3, []), (27, .iconst (-1), 1, []), (28, .if_icmp .eq 13, 3, [41]), (31, .new 127, 3, []), (41, .aload_n 0, 1, []), (42, .getfield 26, 3, []), (45, .invokevirtual 160, 3, []), (48, .ifCond .eq 13, 3, [61]), (51, .new 127, 3, []), (61, .aload_n 0, 1, []), (62, .getfield 26, 3, []), (65, .iload_n 1, 1, []), (66, .iload_n 2, 1, []), (67, .aload_n 0, 1, []), (68, .getfield 44, 3, []), (71, .invokevirtual 163, 3, []), (74, .ireturn, 1, [])]
theorem hp_X4_claim : ∀ q ∈ pg_X4_claim, decode cX4_claim q.1 = .ok (q.2.1, q.2.2.1) ∧ ztg q.2.1 q.1 q.2.2.1 q.2.2.2 = true := zpg_of (by decide +kernel)
def cs_X4_claim : List (Nat × zCall) := [(155, 1, 1, none, 1, 6, false, sp_X4_requireFinder), (48, 1, 1, none, 1, 6, false, sp_X4_requireCell), (77, 0, 2, some 1, 0, 0, false, sp_X0_shapeAt), (120, 0, 2, some 5, 2, 12, false, sp_X4_requireOpenShape), (132, 0, 2, some 5, 0, 0, false, sp_X4_finderOfShape), (160, 0, 1, some 2, 0, 0, false, sp_X1_isFull), (163, 0, 4, some 2, 0, 0, false, sp_X1_enter)]
theorem hcs_X4_claim {l : Launch} (hl0 : l.stackTraces = false) : ∀ q ∈ cs_X4_claim, zCallable l RX4 6 q := List.forall_mem_cons.mpr ⟨zcS (ps := [588, 589, 14, 590]) (c_X4_requireFinder hl0) (by decide +kernel) ⟨by decide +kernel, by decide +kernel, by decide +kernel⟩ (by decide) (by decide), List.forall_mem_cons.mpr ⟨zcS (ps := [190, 191, 14, 192]) (c_X4_requireCell hl0) (by decide +kernel) ⟨by decide +kernel, by decide +kernel, by decide +kernel⟩ (by decide) (by decide), List.forall_mem_cons.mpr ⟨zcV (C := (RX0, TX0, 8)) (ps := [330, 331, 332, 15, 333]) (c_X0_shapeAt hl0) (by decide +kernel) rfl ⟨rfl, by decide +kernel, by decide +kernel, by decide +kernel⟩ (by decide) (by decide), List.forall_mem_cons.mpr ⟨zcV (C := (RX4, TX4, 6)) (ps := [544, 546, 10, 14, 547]) (c_X4_requireOpenShape hl0) (by decide +kernel) rfl ⟨rfl, by decide +kernel, by decide +kernel, by decide +kernel⟩ (by decide) (by decide), List.forall_mem_cons.mpr ⟨zcV (C := (RX4, TX4, 6)) (ps := [416, 418, 4, 14, 419]) (c_X4_finderOfShape hl0) (by decide +kernel) rfl ⟨rfl, by decide +kernel, by decide +kernel, by decide +kernel⟩ (by decide) (by decide), List.forall_mem_cons.mpr ⟨zcV (C := (RX1, TX1, 4)) (ps := [593, 594, 595, 18, 596]) (c_X1_isFull hl0) (by decide +kernel) rfl ⟨rfl, by decide +kernel, by decide +kernel, by decide +kernel⟩ (by decide) (by decide), List.forall_mem_cons.mpr ⟨zcV (C := (RX1, TX1, 4)) (ps := [598, 599, 600, 18, 601]) (c_X1_enter hl0) (by decide +kernel) rfl ⟨rfl, by decide +kernel, by decide +kernel, by decide +kernel⟩ (by decide) (by decide), fun _ h => absurd h List.not_mem_nil⟩⟩⟩⟩⟩⟩⟩
def th_X4_claim : List (Nat × String) := [(31, "java/lang/IllegalStateException"), (51, "java/lang/IllegalStateException")]
theorem hth_X4_claim : ∀ q ∈ th_X4_claim, zThrow cX4_claim RX4 q := List.forall_mem_cons.mpr ⟨⟨"the shape has a finder", 127, 158, 131, [392, 30], by decide +kernel, by decide +kernel, by decide +kernel, thw_RX4_131, by decide +kernel, by decide +kernel, Or.inl ⟨by decide +kernel, by decide +kernel, by decide +kernel⟩⟩, List.forall_mem_cons.mpr ⟨⟨"no room for a claim", 127, 161, 131, [392, 30], by decide +kernel, by decide +kernel, by decide +kernel, thw_RX4_131, by decide +kernel, by decide +kernel, Or.inl ⟨by decide +kernel, by decide +kernel, by decide +kernel⟩⟩, fun _ h => absurd h List.not_mem_nil⟩⟩
def kc_X4_claim : List (Nat × Int32) := []
theorem hkc_X4_claim : ∀ q ∈ kc_X4_claim, Cond.constant RX4 q.1 q.2 ∈ zTs := fun _ h => absurd h List.not_mem_nil
def nw_X4_claim : List (Nat × Nat × Nat × List Value) := []
theorem hnw_X4_claim : ∀ q ∈ nw_X4_claim, zNew RX4 q := fun _ h => absurd h List.not_mem_nil
set_option maxHeartbeats 4000000 in
set_option maxRecDepth 20000 in
theorem c_X4_claim {l : Launch} (hl0 : l.stackTraces = false) : CT l yX4_claim (.code yX4_claim cX4_claim 4 (some .int)) 6 6 36 false sp_X4_claim := by
  refine zCT_of hl0 (own := RX4) fl_RX4 cs_X4_claim nw_X4_claim th_X4_claim kc_X4_claim (fun _ => []) false pg_X4_claim rfl (by decide +kernel) hp_X4_claim ⟨_, _, rfl, rfl⟩ hfl_RX4 (fun h => nomatch h) (hcs_X4_claim hl0) hnw_X4_claim hth_X4_claim (fun _ _ h => absurd h List.not_mem_nil) hkc_X4_claim (fun args w Q X v0 hv0 h => ?_)
  obtain ⟨α, ν, r, c, x, y, hc, hf8, rfl, rfl, h1, h2⟩ := h
  refine ⟨Nat.le_of_ble_eq_true rfl, 60, [], ?_, fun q hq => absurd hq List.not_mem_nil⟩
  (conv => whnf)
  refine ⟨_, rfl, fun q => ?_, fun q => ?_⟩
  · obtain ⟨f, hf, rfl⟩ := vp_in_of q (by decide)
    (conv => whnf)
    refine ⟨_, rfl, fun q => ?_, fun q => ?_⟩
    · obtain ⟨k, hk, rfl⟩ := vp_in_of q (by decide)
      have h3 := h2 f k hf hk rfl rfl
      (conv => whnf)
      refine ⟨α, ν, r, k, hk, rfl, rfl, ?_⟩
      (conv => whnf)
      refine ⟨α, ν, r, α 3 k, rfl, rfl, fun b => ?_, fun b => ?_⟩
      · (conv => whnf)
        refine ⟨α, ν, r, c, α 3 k, hc, rfl, rfl, fun z hz => ?_⟩
        obtain ⟨h4, h5⟩ := h3 z hz
        have hz1 : zfd (α 8) z = -1 ↔ z = -1 := by
          rcases zHr_of hz with rfl | ⟨j, hj, rfl⟩
          · exact ⟨fun _ => rfl, fun _ => rfl⟩
          · have hj2 : j < 2 ^ 31 := by have := hc.1; omega
            obtain ⟨g, g1, g2⟩ := hf8 j hj
            rw [zfd_j _ hj2, g2]
            exact ⟨fun e => absurd e (nI_ne_m1 (by omega)), fun e => absurd e (nI_ne_m1 hj2)⟩
        (conv => whnf)
        refine And.intro (fun e => ?_) (fun e => ?_)
        · have e2 : z = -1 := hz1.mp e
          (conv => whnf)
          refine ⟨α, ν, r, c, hc.1, hc.2.1, rfl, rfl, fun g => ?_, fun g => ?_⟩
          · (conv => whnf)
            refine And.intro (fun c => absurd c (show ¬ _ from (by decide))) (fun _ => ?_)
            (conv => whnf)
            exact h4 (Or.inr (Or.inr g))
          · (conv => whnf)
            refine And.intro (fun _ => ?_) (fun c => absurd (show _ from rfl) c)
            (conv => whnf)
            refine ⟨α, ν, r, c, nI f, nI k, ν 0, by have := hc.1; omega, hc.2.1, rfl, rfl, ?_⟩
            (conv => whnf)
            exact h5 b e2 (by have := hc.1; omega)
        · (conv => whnf)
          exact h4 (Or.inr (Or.inl (fun g => e (hz1.mpr g))))
      · obtain ⟨z, hz⟩ : ∃ z, zHR α ν c (α 3 k) z := ⟨-1, Or.inl ⟨b, rfl⟩⟩
        (conv => whnf)
        exact (h3 z hz).1 (Or.inl b)
    · (conv => whnf)
      exact h1 (Or.inr q)
  · (conv => whnf)
    exact h1 (Or.inl q)
def sp_X4_renew : zSpec := fun args w Q X => ∃ α ν r c x, c ≤ 40 ∧ ν 3 = nI c ∧ args = [.ref 0, .int x] ∧ w = WX α ν r ∧ (¬ vp_in x c → X zIOO (WX α ν r)) ∧
  ∀ j, j < c → x = nI j → (¬ ν 0 < α 10 j → X zISE (WX α ν r)) ∧ (ν 0 < α 10 j → Q (some (.int (α 10 j - ν 0))) (WX (zu α 10 (upd (α 10) j (ν 0 + nI 28800))) ν r))
def pg_X4_renew : List zE := [(0, .aload_n 0, 1, []), (1, .iload_n 1, 1, []), (2, .invokevirtual 166, 3, []), (5, .aload_n 0, 1, []), (6, .getfield 26, 3, []), (9, .iload_n 1, 1, []), (10, .aload_n 0, 1, []), (11, .getfield 44, 3, []), (14, .invokevirtual 169, 3, []), (17, .ifCond .ne 13, 3, [30]), (20, .new 127, 3, []), (30, .aload_n 0, 1, []), (31, .getfield 26, 3, []), (34, .iload_n 1, 1, []), (35, .aload_n 0, 1, []), (36, .getfield 44, 3, []), (39, .invokevirtual 175, 3, []), (42, .ireturn, 1, [])]
theorem hp_X4_renew : ∀ q ∈ pg_X4_renew, decode cX4_renew q.1 = .ok (q.2.1, q.2.2.1) ∧ ztg q.2.1 q.1 q.2.2.1 q.2.2.2 = true := zpg_of (by decide +kernel)
def cs_X4_renew : List (Nat × zCall) := [(166, 0, 2, some 5, 1, 6, false, sp_X4_requireClaim), (169, 0, 3, some 2, 0, 0, false, sp_X1_isRunning), (175, 0, 3, some 2, 0, 0, false, sp_X1_startTerm)]
theorem hcs_X4_renew {l : Launch} (hl0 : l.stackTraces = false) : ∀ q ∈ cs_X4_renew, zCallable l RX4 3 q := List.forall_mem_cons.mpr ⟨zcV (C := (RX4, TX4, 6)) (ps := [452, 454, 6, 14, 455]) (c_X4_requireClaim hl0) (by decide +kernel) rfl ⟨rfl, by decide +kernel, by decide +kernel, by decide +kernel⟩ (by decide) (by decide), List.forall_mem_cons.mpr ⟨zcV (C := (RX1, TX1, 4)) (ps := [428, 429, 430, 18, 431]) (c_X1_isRunning hl0) (by decide +kernel) rfl ⟨rfl, by decide +kernel, by decide +kernel, by decide +kernel⟩ (by decide) (by decide), List.forall_mem_cons.mpr ⟨zcV (C := (RX1, TX1, 4)) (ps := [611, 612, 613, 18, 614]) (c_X1_startTerm hl0) (by decide +kernel) rfl ⟨rfl, by decide +kernel, by decide +kernel, by decide +kernel⟩ (by decide) (by decide), fun _ h => absurd h List.not_mem_nil⟩⟩⟩
def th_X4_renew : List (Nat × String) := [(20, "java/lang/IllegalStateException")]
theorem hth_X4_renew : ∀ q ∈ th_X4_renew, zThrow cX4_renew RX4 q := List.forall_mem_cons.mpr ⟨⟨"the claim does not run", 127, 173, 131, [392, 30], by decide +kernel, by decide +kernel, by decide +kernel, thw_RX4_131, by decide +kernel, by decide +kernel, Or.inl ⟨by decide +kernel, by decide +kernel, by decide +kernel⟩⟩, fun _ h => absurd h List.not_mem_nil⟩
def kc_X4_renew : List (Nat × Int32) := []
theorem hkc_X4_renew : ∀ q ∈ kc_X4_renew, Cond.constant RX4 q.1 q.2 ∈ zTs := fun _ h => absurd h List.not_mem_nil
def nw_X4_renew : List (Nat × Nat × Nat × List Value) := []
theorem hnw_X4_renew : ∀ q ∈ nw_X4_renew, zNew RX4 q := fun _ h => absurd h List.not_mem_nil
set_option maxHeartbeats 4000000 in
set_option maxRecDepth 20000 in
theorem c_X4_renew {l : Launch} (hl0 : l.stackTraces = false) : CT l yX4_renew (.code yX4_renew cX4_renew 2 (some .int)) 3 2 12 false sp_X4_renew := by
  refine zCT_of hl0 (own := RX4) fl_RX4 cs_X4_renew nw_X4_renew th_X4_renew kc_X4_renew (fun _ => []) false pg_X4_renew rfl (by decide +kernel) hp_X4_renew ⟨_, _, rfl, rfl⟩ hfl_RX4 (fun h => nomatch h) (hcs_X4_renew hl0) hnw_X4_renew hth_X4_renew (fun _ _ h => absurd h List.not_mem_nil) hkc_X4_renew (fun args w Q X v0 hv0 h => ?_)
  obtain ⟨α, ν, r, c, x, hc, hν, rfl, rfl, h1, h2⟩ := h
  refine ⟨Nat.le_of_ble_eq_true rfl, 60, [], ?_, fun q hq => absurd hq List.not_mem_nil⟩
  (conv => whnf)
  refine ⟨α, ν, r, c, x, hc, hν, rfl, rfl, fun q => ?_, fun q => ?_⟩
  · obtain ⟨j, hj, rfl⟩ := vp_in_of q (by omega)
    obtain ⟨h3, h4⟩ := h2 j hj rfl
    (conv => whnf)
    refine ⟨α, ν, r, c, j, ν 0, hc, hν, hj, rfl, rfl, fun e => ?_, fun e => ?_⟩
    · (conv => whnf)
      refine And.intro (fun c => absurd c (show ¬ _ from (by decide))) (fun _ => ?_)
      (conv => whnf)
      refine ⟨α, ν, r, c, j, ν 0, hc, hν, hj, rfl, rfl, ?_⟩
      (conv => whnf)
      exact h4 e
    · (conv => whnf)
      refine And.intro (fun _ => ?_) (fun c => absurd (show _ from rfl) c)
      (conv => whnf)
      exact h3 e
  · (conv => whnf)
    exact h1 q
def sp_X4_advance : zSpec := fun args w Q X => ∃ α ν r t x, t ≤ 1000000 ∧ ν 0 = nI t ∧ args = [.ref 0, .int x] ∧ w = WX α ν r ∧ (x < nI 1 ∨ nI 14400 < x → X zIAE (WX α ν r)) ∧
  ∀ j, j ≤ 14400 → x = nI j → ¬ x < nI 1 → ¬ nI 14400 < x → (1000000 < t + j → X zISE (WX α ν r)) ∧ (¬ 1000000 < t + j → Q (some (.int (nI (t + j)))) (WX α (zu ν 0 (nI (t + j))) r))
def pg_X4_advance : List zE := [(0, .iload_n 1, 1, []), (1, .iconst 1, 1, [1]), (2, .sipush 14400, 3, [14400]), (5, .invokestatic 69, 3, []), (8, .iload_n 1, 1, []), (9, .ldc 178, 2, []), (11, .aload_n 0, 1, []), (12, .getfield 44, 3, []), (15, .isub, 1, []), (16, .if_icmp .le 13, 3, [29]), (19, .new 127, 3, []), (29, .aload_n 0, 1, []), (30, .dup, 1, []), (31, .getfield 44, 3, []), (34, .iload_n 1, 1, []), (35, .iadd, 1, []), (36, .putfield 44, 3, []), (39, .aload_n 0, 1, []), (40, .getfield 44, 3, []), (43, .ireturn, 1, [])]
theorem hp_X4_advance : ∀ q ∈ pg_X4_advance, decode cX4_advance q.1 = .ok (q.2.1, q.2.2.1) ∧ ztg q.2.1 q.1 q.2.2.1 q.2.2.2 = true := zpg_of (by decide +kernel)
def cs_X4_advance : List (Nat × zCall) := [(69, 1, 3, none, 1, 6, false, sp_X4_requireWithin)]
theorem hcs_X4_advance {l : Launch} (hl0 : l.stackTraces = false) : ∀ q ∈ cs_X4_advance, zCallable l RX4 3 q := List.forall_mem_cons.mpr ⟨zcS (ps := [266, 267, 14, 268]) (c_X4_requireWithin hl0) (by decide +kernel) ⟨by decide +kernel, by decide +kernel, by decide +kernel⟩ (by decide) (by decide), fun _ h => absurd h List.not_mem_nil⟩
def th_X4_advance : List (Nat × String) := [(19, "java/lang/IllegalStateException")]
theorem hth_X4_advance : ∀ q ∈ th_X4_advance, zThrow cX4_advance RX4 q := List.forall_mem_cons.mpr ⟨⟨"behind the last minute", 127, 179, 131, [392, 30], by decide +kernel, by decide +kernel, by decide +kernel, thw_RX4_131, by decide +kernel, by decide +kernel, Or.inl ⟨by decide +kernel, by decide +kernel, by decide +kernel⟩⟩, fun _ h => absurd h List.not_mem_nil⟩
def kc_X4_advance : List (Nat × Int32) := [(178, 1000000)]
theorem hkc_X4_advance : ∀ q ∈ kc_X4_advance, Cond.constant RX4 q.1 q.2 ∈ zTs := List.forall_mem_cons.mpr ⟨zmem (i := 391) (by decide +kernel) rfl, fun _ h => absurd h List.not_mem_nil⟩
def nw_X4_advance : List (Nat × Nat × Nat × List Value) := []
theorem hnw_X4_advance : ∀ q ∈ nw_X4_advance, zNew RX4 q := fun _ h => absurd h List.not_mem_nil
set_option maxHeartbeats 4000000 in
set_option maxRecDepth 20000 in
theorem c_X4_advance {l : Launch} (hl0 : l.stackTraces = false) : CT l yX4_advance (.code yX4_advance cX4_advance 2 (some .int)) 3 2 12 false sp_X4_advance := by
  refine zCT_of hl0 (own := RX4) fl_RX4 cs_X4_advance nw_X4_advance th_X4_advance kc_X4_advance (fun _ => []) false pg_X4_advance rfl (by decide +kernel) hp_X4_advance ⟨_, _, rfl, rfl⟩ hfl_RX4 (fun h => nomatch h) (hcs_X4_advance hl0) hnw_X4_advance hth_X4_advance (fun _ _ h => absurd h List.not_mem_nil) hkc_X4_advance (fun args w Q X v0 hv0 h => ?_)
  obtain ⟨α, ν, r, t, x, ht, hν, rfl, rfl, h1, h2⟩ := h
  refine ⟨Nat.le_of_ble_eq_true rfl, 60, [], ?_, fun q hq => absurd hq List.not_mem_nil⟩
  (conv => whnf)
  refine ⟨x, nI 1, nI 14400, rfl, fun a b => ?_, fun a => ?_⟩
  · obtain ⟨j, hj, rfl⟩ := nI_le_of5 (by decide) (by decide) (by decide) a b
    obtain ⟨h3, h4⟩ := h2 j hj rfl a b
    (conv => whnf)
    rw [hν]
    have e0 : (1000000 : Int32) - nI t = nI (1000000 - t) := pk_sub (a := 1000000) ht
    refine And.intro (fun e => ?_) (fun e => ?_)
    · have e1 : nI (1000000 - t) < nI j := by rw [← e0]; exact e
      have e2 := (nI_ltI (by omega) (by omega)).mp e1
      (conv => whnf)
      exact h3 (by omega)
    · have e2 : ¬ 1000000 - t < j := fun h => e (by
        show (1000000 : Int32) - nI t < nI j
        rw [e0]; exact nI_lt h (by omega))
      (conv => whnf)
      dsimp only [zkon]
      rw [hν, nI_add]
      exact h4 (by omega)
  · (conv => whnf)
    exact h1 a
def sp_X4_minute : zSpec := fun args w Q _ => ∃ α ν r, args = [.ref 0] ∧ w = WX α ν r ∧ Q (some (.int (ν 0))) (WX α ν r)
def pg_X4_minute : List zE := [(0, .aload_n 0, 1, []), (1, .getfield 44, 3, []), (4, .ireturn, 1, [])]
theorem hp_X4_minute : ∀ q ∈ pg_X4_minute, decode cX4_minute q.1 = .ok (q.2.1, q.2.2.1) ∧ ztg q.2.1 q.1 q.2.2.1 q.2.2.2 = true := zpg_of (by decide +kernel)
def cs_X4_minute : List (Nat × zCall) := []
theorem hcs_X4_minute {l : Launch} (hl0 : l.stackTraces = false) : ∀ q ∈ cs_X4_minute, zCallable l RX4 1 q := fun _ h => absurd h List.not_mem_nil
def th_X4_minute : List (Nat × String) := []
theorem hth_X4_minute : ∀ q ∈ th_X4_minute, zThrow cX4_minute RX4 q := fun _ h => absurd h List.not_mem_nil
def kc_X4_minute : List (Nat × Int32) := []
theorem hkc_X4_minute : ∀ q ∈ kc_X4_minute, Cond.constant RX4 q.1 q.2 ∈ zTs := fun _ h => absurd h List.not_mem_nil
def nw_X4_minute : List (Nat × Nat × Nat × List Value) := []
theorem hnw_X4_minute : ∀ q ∈ nw_X4_minute, zNew RX4 q := fun _ h => absurd h List.not_mem_nil
set_option maxHeartbeats 4000000 in
set_option maxRecDepth 20000 in
theorem c_X4_minute {l : Launch} (hl0 : l.stackTraces = false) : CT l yX4_minute (.code yX4_minute cX4_minute 1 (some .int)) 1 0 0 false sp_X4_minute := by
  refine zCT_of hl0 (own := RX4) fl_RX4 cs_X4_minute nw_X4_minute th_X4_minute kc_X4_minute (fun _ => []) false pg_X4_minute rfl (by decide +kernel) hp_X4_minute ⟨_, _, rfl, rfl⟩ hfl_RX4 (fun h => nomatch h) (hcs_X4_minute hl0) hnw_X4_minute hth_X4_minute (fun _ _ h => absurd h List.not_mem_nil) hkc_X4_minute (fun args w Q X v0 hv0 h => ?_)
  obtain ⟨α, ν, r, rfl, rfl, hQ⟩ := h
  refine ⟨Nat.le_of_ble_eq_true rfl, 20, [], ?_, fun q hq => absurd hq List.not_mem_nil⟩
  (conv => whnf)
  exact hQ
def sp_X4_finder : zSpec := fun args w Q X => ∃ α ν r c x, zCk α ν c ∧ args = [.ref 0, .int x] ∧ w = WX α ν r ∧ (¬ vp_in x 96 → X zIOO (WX α ν r)) ∧ ∀ k, k < 96 → x = nI k → ∀ z, zHR α ν c (α 3 k) z → Q (some (.int (zfd (α 8) z))) (WX α ν r)
def pg_X4_finder : List zE := [(0, .iload_n 1, 1, []), (1, .invokestatic 48, 3, []), (4, .aload_n 0, 1, []), (5, .aload_n 0, 1, []), (6, .getfield 12, 3, []), (9, .iload_n 1, 1, []), (10, .invokevirtual 77, 3, []), (13, .invokevirtual 132, 3, []), (16, .ireturn, 1, [])]
theorem hp_X4_finder : ∀ q ∈ pg_X4_finder, decode cX4_finder q.1 = .ok (q.2.1, q.2.2.1) ∧ ztg q.2.1 q.1 q.2.2.1 q.2.2.2 = true := zpg_of (by decide +kernel)
def cs_X4_finder : List (Nat × zCall) := [(48, 1, 1, none, 1, 6, false, sp_X4_requireCell), (77, 0, 2, some 1, 0, 0, false, sp_X0_shapeAt), (132, 0, 2, some 5, 0, 0, false, sp_X4_finderOfShape)]
theorem hcs_X4_finder {l : Launch} (hl0 : l.stackTraces = false) : ∀ q ∈ cs_X4_finder, zCallable l RX4 6 q := List.forall_mem_cons.mpr ⟨zcS (ps := [190, 191, 14, 192]) (c_X4_requireCell hl0) (by decide +kernel) ⟨by decide +kernel, by decide +kernel, by decide +kernel⟩ (by decide) (by decide), List.forall_mem_cons.mpr ⟨zcV (C := (RX0, TX0, 8)) (ps := [330, 331, 332, 15, 333]) (c_X0_shapeAt hl0) (by decide +kernel) rfl ⟨rfl, by decide +kernel, by decide +kernel, by decide +kernel⟩ (by decide) (by decide), List.forall_mem_cons.mpr ⟨zcV (C := (RX4, TX4, 6)) (ps := [416, 418, 4, 14, 419]) (c_X4_finderOfShape hl0) (by decide +kernel) rfl ⟨rfl, by decide +kernel, by decide +kernel, by decide +kernel⟩ (by decide) (by decide), fun _ h => absurd h List.not_mem_nil⟩⟩⟩
def th_X4_finder : List (Nat × String) := []
theorem hth_X4_finder : ∀ q ∈ th_X4_finder, zThrow cX4_finder RX4 q := fun _ h => absurd h List.not_mem_nil
def kc_X4_finder : List (Nat × Int32) := []
theorem hkc_X4_finder : ∀ q ∈ kc_X4_finder, Cond.constant RX4 q.1 q.2 ∈ zTs := fun _ h => absurd h List.not_mem_nil
def nw_X4_finder : List (Nat × Nat × Nat × List Value) := []
theorem hnw_X4_finder : ∀ q ∈ nw_X4_finder, zNew RX4 q := fun _ h => absurd h List.not_mem_nil
set_option maxHeartbeats 4000000 in
set_option maxRecDepth 20000 in
theorem c_X4_finder {l : Launch} (hl0 : l.stackTraces = false) : CT l yX4_finder (.code yX4_finder cX4_finder 2 (some .int)) 6 1 6 false sp_X4_finder := by
  refine zCT_of hl0 (own := RX4) fl_RX4 cs_X4_finder nw_X4_finder th_X4_finder kc_X4_finder (fun _ => []) false pg_X4_finder rfl (by decide +kernel) hp_X4_finder ⟨_, _, rfl, rfl⟩ hfl_RX4 (fun h => nomatch h) (hcs_X4_finder hl0) hnw_X4_finder hth_X4_finder (fun _ _ h => absurd h List.not_mem_nil) hkc_X4_finder (fun args w Q X v0 hv0 h => ?_)
  obtain ⟨α, ν, r, c, x, hc, rfl, rfl, h1, h2⟩ := h
  refine ⟨Nat.le_of_ble_eq_true rfl, 20, [], ?_, fun q hq => absurd hq List.not_mem_nil⟩
  (conv => whnf)
  refine ⟨_, rfl, fun q => ?_, fun q => ?_⟩
  · obtain ⟨k, hk, rfl⟩ := vp_in_of q (by decide)
    (conv => whnf)
    refine ⟨α, ν, r, k, hk, rfl, rfl, ?_⟩
    (conv => whnf)
    refine ⟨α, ν, r, c, _, hc, rfl, rfl, fun z hz => ?_⟩
    (conv => whnf)
    exact h2 k hk rfl z hz
  · (conv => whnf)
    exact h1 q
def sp_X4_claims : zSpec := fun args w Q _ => ∃ α ν r, args = [.ref 0] ∧ w = WX α ν r ∧ Q (some (.int (ν 3))) (WX α ν r)
def pg_X4_claims : List zE := [(0, .aload_n 0, 1, []), (1, .getfield 26, 3, []), (4, .invokevirtual 187, 3, []), (7, .ireturn, 1, [])]
theorem hp_X4_claims : ∀ q ∈ pg_X4_claims, decode cX4_claims q.1 = .ok (q.2.1, q.2.2.1) ∧ ztg q.2.1 q.1 q.2.2.1 q.2.2.2 = true := zpg_of (by decide +kernel)
def cs_X4_claims : List (Nat × zCall) := [(187, 0, 1, some 2, 0, 0, false, sp_X1_count)]
theorem hcs_X4_claims {l : Launch} (hl0 : l.stackTraces = false) : ∀ q ∈ cs_X4_claims, zCallable l RX4 2 q := List.forall_mem_cons.mpr ⟨zcV (C := (RX1, TX1, 4)) (ps := [424, 425, 426, 18, 427]) (c_X1_count hl0) (by decide +kernel) rfl ⟨rfl, by decide +kernel, by decide +kernel, by decide +kernel⟩ (by decide) (by decide), fun _ h => absurd h List.not_mem_nil⟩
def th_X4_claims : List (Nat × String) := []
theorem hth_X4_claims : ∀ q ∈ th_X4_claims, zThrow cX4_claims RX4 q := fun _ h => absurd h List.not_mem_nil
def kc_X4_claims : List (Nat × Int32) := []
theorem hkc_X4_claims : ∀ q ∈ kc_X4_claims, Cond.constant RX4 q.1 q.2 ∈ zTs := fun _ h => absurd h List.not_mem_nil
def nw_X4_claims : List (Nat × Nat × Nat × List Value) := []
theorem hnw_X4_claims : ∀ q ∈ nw_X4_claims, zNew RX4 q := fun _ h => absurd h List.not_mem_nil
set_option maxHeartbeats 4000000 in
set_option maxRecDepth 20000 in
theorem c_X4_claims {l : Launch} (hl0 : l.stackTraces = false) : CT l yX4_claims (.code yX4_claims cX4_claims 1 (some .int)) 2 0 0 false sp_X4_claims := by
  refine zCT_of hl0 (own := RX4) fl_RX4 cs_X4_claims nw_X4_claims th_X4_claims kc_X4_claims (fun _ => []) false pg_X4_claims rfl (by decide +kernel) hp_X4_claims ⟨_, _, rfl, rfl⟩ hfl_RX4 (fun h => nomatch h) (hcs_X4_claims hl0) hnw_X4_claims hth_X4_claims (fun _ _ h => absurd h List.not_mem_nil) hkc_X4_claims (fun args w Q X v0 hv0 h => ?_)
  obtain ⟨α, ν, r, rfl, rfl, hQ⟩ := h
  refine ⟨Nat.le_of_ble_eq_true rfl, 20, [], ?_, fun q hq => absurd hq List.not_mem_nil⟩
  (conv => whnf)
  refine ⟨α, ν, r, rfl, rfl, ?_⟩
  (conv => whnf)
  exact hQ
def sp_X4_runs : zSpec := fun args w Q X => ∃ α ν r c x, c ≤ 40 ∧ ν 3 = nI c ∧ args = [.ref 0, .int x] ∧ w = WX α ν r ∧ (¬ vp_in x c → X zIOO (WX α ν r)) ∧ ∀ j, j < c → x = nI j → zB Q (ν 0 < α 10 j) (WX α ν r)
def pg_X4_runs : List zE := [(0, .aload_n 0, 1, []), (1, .iload_n 1, 1, []), (2, .invokevirtual 166, 3, []), (5, .aload_n 0, 1, []), (6, .getfield 26, 3, []), (9, .iload_n 1, 1, []), (10, .aload_n 0, 1, []), (11, .getfield 44, 3, []), (14, .invokevirtual 169, 3, []), (17, .ireturn, 1, [])]
theorem hp_X4_runs : ∀ q ∈ pg_X4_runs, decode cX4_runs q.1 = .ok (q.2.1, q.2.2.1) ∧ ztg q.2.1 q.1 q.2.2.1 q.2.2.2 = true := zpg_of (by decide +kernel)
def cs_X4_runs : List (Nat × zCall) := [(166, 0, 2, some 5, 1, 6, false, sp_X4_requireClaim), (169, 0, 3, some 2, 0, 0, false, sp_X1_isRunning)]
theorem hcs_X4_runs {l : Launch} (hl0 : l.stackTraces = false) : ∀ q ∈ cs_X4_runs, zCallable l RX4 3 q := List.forall_mem_cons.mpr ⟨zcV (C := (RX4, TX4, 6)) (ps := [452, 454, 6, 14, 455]) (c_X4_requireClaim hl0) (by decide +kernel) rfl ⟨rfl, by decide +kernel, by decide +kernel, by decide +kernel⟩ (by decide) (by decide), List.forall_mem_cons.mpr ⟨zcV (C := (RX1, TX1, 4)) (ps := [428, 429, 430, 18, 431]) (c_X1_isRunning hl0) (by decide +kernel) rfl ⟨rfl, by decide +kernel, by decide +kernel, by decide +kernel⟩ (by decide) (by decide), fun _ h => absurd h List.not_mem_nil⟩⟩
def th_X4_runs : List (Nat × String) := []
theorem hth_X4_runs : ∀ q ∈ th_X4_runs, zThrow cX4_runs RX4 q := fun _ h => absurd h List.not_mem_nil
def kc_X4_runs : List (Nat × Int32) := []
theorem hkc_X4_runs : ∀ q ∈ kc_X4_runs, Cond.constant RX4 q.1 q.2 ∈ zTs := fun _ h => absurd h List.not_mem_nil
def nw_X4_runs : List (Nat × Nat × Nat × List Value) := []
theorem hnw_X4_runs : ∀ q ∈ nw_X4_runs, zNew RX4 q := fun _ h => absurd h List.not_mem_nil
set_option maxHeartbeats 4000000 in
set_option maxRecDepth 20000 in
theorem c_X4_runs {l : Launch} (hl0 : l.stackTraces = false) : CT l yX4_runs (.code yX4_runs cX4_runs 2 (some .boolean)) 3 1 6 false sp_X4_runs := by
  refine zCT_of hl0 (own := RX4) fl_RX4 cs_X4_runs nw_X4_runs th_X4_runs kc_X4_runs (fun _ => []) false pg_X4_runs rfl (by decide +kernel) hp_X4_runs ⟨_, _, rfl, rfl⟩ hfl_RX4 (fun h => nomatch h) (hcs_X4_runs hl0) hnw_X4_runs hth_X4_runs (fun _ _ h => absurd h List.not_mem_nil) hkc_X4_runs (fun args w Q X v0 hv0 h => ?_)
  obtain ⟨α, ν, r, c, x, hc, hν, rfl, rfl, h1, h2⟩ := h
  refine ⟨Nat.le_of_ble_eq_true rfl, 20, [], ?_, fun q hq => absurd hq List.not_mem_nil⟩
  (conv => whnf)
  refine ⟨α, ν, r, c, x, hc, hν, rfl, rfl, fun q => ?_, fun q => ?_⟩
  · obtain ⟨j, hj, rfl⟩ := vp_in_of q (by omega)
    obtain ⟨h3, h4⟩ := h2 j hj rfl
    (conv => whnf)
    refine ⟨α, ν, r, c, j, ν 0, hc, hν, hj, rfl, rfl, fun e => ?_, fun e => ?_⟩
    · (conv => whnf)
      exact ⟨Or.inr rfl, h3 e⟩
    · (conv => whnf)
      exact ⟨Or.inl rfl, h4 e⟩
  · (conv => whnf)
    exact h1 q
def sp_X4_holds : zSpec := fun args w Q X => ∃ α ν r c x, zCk α ν c ∧ args = [.ref 0, .int x] ∧ w = WX α ν r ∧ (¬ vp_in x c → X zIOO (WX α ν r)) ∧ ∀ j k, j < c → k < 96 → x = nI j → α 9 j = nI k → ∀ z, zHR α ν c (α 3 k) z → zB Q (z = nI j) (WX α ν r)
def pg_X4_holds : List zE := [(0, .aload_n 0, 1, []), (1, .iload_n 1, 1, []), (2, .invokevirtual 166, 3, []), (5, .aload_n 0, 1, []), (6, .aload_n 0, 1, []), (7, .getfield 12, 3, []), (10, .aload_n 0, 1, []), (11, .getfield 26, 3, []), (14, .iload_n 1, 1, []), (15, .invokevirtual 190, 3, []), (18, .invokevirtual 77, 3, []), (21, .invokevirtual 199, 3, []), (24, .iload_n 1, 1, []), (25, .if_icmp .ne 7, 3, [32]), (28, .iconst 1, 1, [1]), (29, .goto 4, 3, [33]), (32, .iconst 0, 1, [0]), (33, .ireturn, 1, [])]
theorem hp_X4_holds : ∀ q ∈ pg_X4_holds, decode cX4_holds q.1 = .ok (q.2.1, q.2.2.1) ∧ ztg q.2.1 q.1 q.2.2.1 q.2.2.2 = true := zpg_of (by decide +kernel)
def cs_X4_holds : List (Nat × zCall) := [(166, 0, 2, some 5, 1, 6, false, sp_X4_requireClaim), (190, 0, 2, some 2, 0, 0, false, sp_X1_cellOf), (77, 0, 2, some 1, 0, 0, false, sp_X0_shapeAt), (199, 0, 2, some 5, 0, 0, false, sp_X4_claimOnShape)]
theorem hcs_X4_holds {l : Launch} (hl0 : l.stackTraces = false) : ∀ q ∈ cs_X4_holds, zCallable l RX4 5 q := List.forall_mem_cons.mpr ⟨zcV (C := (RX4, TX4, 6)) (ps := [452, 454, 6, 14, 455]) (c_X4_requireClaim hl0) (by decide +kernel) rfl ⟨rfl, by decide +kernel, by decide +kernel, by decide +kernel⟩ (by decide) (by decide), List.forall_mem_cons.mpr ⟨zcV (C := (RX1, TX1, 4)) (ps := [436, 437, 438, 18, 439]) (c_X1_cellOf hl0) (by decide +kernel) rfl ⟨rfl, by decide +kernel, by decide +kernel, by decide +kernel⟩ (by decide) (by decide), List.forall_mem_cons.mpr ⟨zcV (C := (RX0, TX0, 8)) (ps := [330, 331, 332, 15, 333]) (c_X0_shapeAt hl0) (by decide +kernel) rfl ⟨rfl, by decide +kernel, by decide +kernel, by decide +kernel⟩ (by decide) (by decide), List.forall_mem_cons.mpr ⟨zcV (C := (RX4, TX4, 6)) (ps := [420, 422, 5, 14, 423]) (c_X4_claimOnShape hl0) (by decide +kernel) rfl ⟨rfl, by decide +kernel, by decide +kernel, by decide +kernel⟩ (by decide) (by decide), fun _ h => absurd h List.not_mem_nil⟩⟩⟩⟩
def th_X4_holds : List (Nat × String) := []
theorem hth_X4_holds : ∀ q ∈ th_X4_holds, zThrow cX4_holds RX4 q := fun _ h => absurd h List.not_mem_nil
def kc_X4_holds : List (Nat × Int32) := []
theorem hkc_X4_holds : ∀ q ∈ kc_X4_holds, Cond.constant RX4 q.1 q.2 ∈ zTs := fun _ h => absurd h List.not_mem_nil
def nw_X4_holds : List (Nat × Nat × Nat × List Value) := []
theorem hnw_X4_holds : ∀ q ∈ nw_X4_holds, zNew RX4 q := fun _ h => absurd h List.not_mem_nil
set_option maxHeartbeats 4000000 in
set_option maxRecDepth 20000 in
theorem c_X4_holds {l : Launch} (hl0 : l.stackTraces = false) : CT l yX4_holds (.code yX4_holds cX4_holds 2 (some .boolean)) 5 1 6 false sp_X4_holds := by
  refine zCT_of hl0 (own := RX4) fl_RX4 cs_X4_holds nw_X4_holds th_X4_holds kc_X4_holds (fun _ => []) false pg_X4_holds rfl (by decide +kernel) hp_X4_holds ⟨_, _, rfl, rfl⟩ hfl_RX4 (fun h => nomatch h) (hcs_X4_holds hl0) hnw_X4_holds hth_X4_holds (fun _ _ h => absurd h List.not_mem_nil) hkc_X4_holds (fun args w Q X v0 hv0 h => ?_)
  obtain ⟨α, ν, r, c, x, hc, rfl, rfl, h1, h2⟩ := h
  refine ⟨Nat.le_of_ble_eq_true rfl, 60, [], ?_, fun q hq => absurd hq List.not_mem_nil⟩
  (conv => whnf)
  refine ⟨α, ν, r, c, x, hc.1, hc.2.1, rfl, rfl, fun q => ?_, fun q => ?_⟩
  · obtain ⟨j, hj, rfl⟩ := vp_in_of q (by have := hc.1; omega)
    obtain ⟨k, hk, e⟩ := hc.2.2 j hj
    (conv => whnf)
    refine ⟨α, ν, r, c, j, hc.1, hc.2.1, hj, rfl, rfl, ?_⟩
    (conv => whnf)
    refine ⟨α, ν, r, k, hk, by rw [e], rfl, ?_⟩
    (conv => whnf)
    refine ⟨α, ν, r, c, _, hc, rfl, rfl, fun z hz => ?_⟩
    obtain ⟨h3, h4⟩ := h2 j k hj hk rfl e z hz
    (conv => whnf)
    refine And.intro (fun g => ?_) (fun g => ?_)
    · (conv => whnf)
      exact ⟨Or.inr rfl, h3 g⟩
    · (conv => whnf)
      exact ⟨Or.inl rfl, h4 g⟩
  · (conv => whnf)
    exact h1 q
def sp_X4_things : zSpec := fun args w Q _ => ∃ α ν r, args = [.ref 0] ∧ w = WX α ν r ∧ Q (some (.int (ν 4))) (WX α ν r)
def pg_X4_things : List zE := [(0, .aload_n 0, 1, []), (1, .getfield 33, 3, []), (4, .invokevirtual 202, 3, []), (7, .ireturn, 1, [])]
theorem hp_X4_things : ∀ q ∈ pg_X4_things, decode cX4_things q.1 = .ok (q.2.1, q.2.2.1) ∧ ztg q.2.1 q.1 q.2.2.1 q.2.2.2 = true := zpg_of (by decide +kernel)
def cs_X4_things : List (Nat × zCall) := [(202, 0, 1, some 4, 0, 0, false, sp_X3_count)]
theorem hcs_X4_things {l : Launch} (hl0 : l.stackTraces = false) : ∀ q ∈ cs_X4_things, zCallable l RX4 2 q := List.forall_mem_cons.mpr ⟨zcV (C := (RX3, TX3, 5)) (ps := [466, 467, 468, 19, 469]) (c_X3_count hl0) (by decide +kernel) rfl ⟨rfl, by decide +kernel, by decide +kernel, by decide +kernel⟩ (by decide) (by decide), fun _ h => absurd h List.not_mem_nil⟩
def th_X4_things : List (Nat × String) := []
theorem hth_X4_things : ∀ q ∈ th_X4_things, zThrow cX4_things RX4 q := fun _ h => absurd h List.not_mem_nil
def kc_X4_things : List (Nat × Int32) := []
theorem hkc_X4_things : ∀ q ∈ kc_X4_things, Cond.constant RX4 q.1 q.2 ∈ zTs := fun _ h => absurd h List.not_mem_nil
def nw_X4_things : List (Nat × Nat × Nat × List Value) := []
theorem hnw_X4_things : ∀ q ∈ nw_X4_things, zNew RX4 q := fun _ h => absurd h List.not_mem_nil
set_option maxHeartbeats 4000000 in
set_option maxRecDepth 20000 in
theorem c_X4_things {l : Launch} (hl0 : l.stackTraces = false) : CT l yX4_things (.code yX4_things cX4_things 1 (some .int)) 2 0 0 false sp_X4_things := by
  refine zCT_of hl0 (own := RX4) fl_RX4 cs_X4_things nw_X4_things th_X4_things kc_X4_things (fun _ => []) false pg_X4_things rfl (by decide +kernel) hp_X4_things ⟨_, _, rfl, rfl⟩ hfl_RX4 (fun h => nomatch h) (hcs_X4_things hl0) hnw_X4_things hth_X4_things (fun _ _ h => absurd h List.not_mem_nil) hkc_X4_things (fun args w Q X v0 hv0 h => ?_)
  obtain ⟨α, ν, r, rfl, rfl, hQ⟩ := h
  refine ⟨Nat.le_of_ble_eq_true rfl, 20, [], ?_, fun q hq => absurd hq List.not_mem_nil⟩
  (conv => whnf)
  refine ⟨α, ν, r, rfl, rfl, ?_⟩
  (conv => whnf)
  exact hQ
def zThg (i : Nat) : zSpec := fun args w Q X => ∃ α ν r c x, c ≤ 60 ∧ ν 4 = nI c ∧ args = [.ref 0, .int x] ∧ w = WX α ν r ∧ (¬ vp_in x c → X zIOO (WX α ν r)) ∧ ∀ j, j < c → x = nI j → Q (some (.int (α i j))) (WX α ν r)
def sp_X4_shapeOfThing : zSpec := zThg 11
def pg_X4_shapeOfThing : List zE := [(0, .aload_n 0, 1, []), (1, .iload_n 1, 1, []), (2, .invokevirtual 203, 3, []), (5, .aload_n 0, 1, []), (6, .getfield 33, 3, []), (9, .iload_n 1, 1, []), (10, .invokevirtual 206, 3, []), (13, .ireturn, 1, [])]
theorem hp_X4_shapeOfThing : ∀ q ∈ pg_X4_shapeOfThing, decode cX4_shapeOfThing q.1 = .ok (q.2.1, q.2.2.1) ∧ ztg q.2.1 q.1 q.2.2.1 q.2.2.2 = true := zpg_of (by decide +kernel)
def cs_X4_shapeOfThing : List (Nat × zCall) := [(203, 0, 2, some 5, 1, 6, false, sp_X4_requireThing), (206, 0, 2, some 4, 0, 0, false, sp_X3_shapeBehind)]
theorem hcs_X4_shapeOfThing {l : Launch} (hl0 : l.stackTraces = false) : ∀ q ∈ cs_X4_shapeOfThing, zCallable l RX4 3 q := List.forall_mem_cons.mpr ⟨zcV (C := (RX4, TX4, 6)) (ps := [474, 476, 7, 14, 477]) (c_X4_requireThing hl0) (by decide +kernel) rfl ⟨rfl, by decide +kernel, by decide +kernel, by decide +kernel⟩ (by decide) (by decide), List.forall_mem_cons.mpr ⟨zcV (C := (RX3, TX3, 5)) (ps := [483, 484, 485, 19, 486]) (c_X3_shapeBehind hl0) (by decide +kernel) rfl ⟨rfl, by decide +kernel, by decide +kernel, by decide +kernel⟩ (by decide) (by decide), fun _ h => absurd h List.not_mem_nil⟩⟩
def th_X4_shapeOfThing : List (Nat × String) := []
theorem hth_X4_shapeOfThing : ∀ q ∈ th_X4_shapeOfThing, zThrow cX4_shapeOfThing RX4 q := fun _ h => absurd h List.not_mem_nil
def kc_X4_shapeOfThing : List (Nat × Int32) := []
theorem hkc_X4_shapeOfThing : ∀ q ∈ kc_X4_shapeOfThing, Cond.constant RX4 q.1 q.2 ∈ zTs := fun _ h => absurd h List.not_mem_nil
def nw_X4_shapeOfThing : List (Nat × Nat × Nat × List Value) := []
theorem hnw_X4_shapeOfThing : ∀ q ∈ nw_X4_shapeOfThing, zNew RX4 q := fun _ h => absurd h List.not_mem_nil
set_option maxHeartbeats 4000000 in
set_option maxRecDepth 20000 in
theorem c_X4_shapeOfThing {l : Launch} (hl0 : l.stackTraces = false) : CT l yX4_shapeOfThing (.code yX4_shapeOfThing cX4_shapeOfThing 2 (some .int)) 3 1 6 false sp_X4_shapeOfThing := by
  refine zCT_of hl0 (own := RX4) fl_RX4 cs_X4_shapeOfThing nw_X4_shapeOfThing th_X4_shapeOfThing kc_X4_shapeOfThing (fun _ => []) false pg_X4_shapeOfThing rfl (by decide +kernel) hp_X4_shapeOfThing ⟨_, _, rfl, rfl⟩ hfl_RX4 (fun h => nomatch h) (hcs_X4_shapeOfThing hl0) hnw_X4_shapeOfThing hth_X4_shapeOfThing (fun _ _ h => absurd h List.not_mem_nil) hkc_X4_shapeOfThing (fun args w Q X v0 hv0 h => ?_)
  obtain ⟨α, ν, r, c, x, hc, hν, rfl, rfl, h1, h2⟩ := h
  refine ⟨Nat.le_of_ble_eq_true rfl, 20, [], ?_, fun q hq => absurd hq List.not_mem_nil⟩
  (conv => whnf)
  refine ⟨α, ν, r, c, x, hc, hν, rfl, rfl, fun q => ?_, fun q => ?_⟩
  · obtain ⟨j, hj, rfl⟩ := vp_in_of q (by omega)
    (conv => whnf)
    refine ⟨α, ν, r, c, j, hc, hν, hj, rfl, rfl, ?_⟩
    (conv => whnf)
    exact h2 j hj rfl
  · (conv => whnf)
    exact h1 q
def sp_X4_finderOfThing : zSpec := zThg 12
def pg_X4_finderOfThing : List zE := [(0, .aload_n 0, 1, []), (1, .iload_n 1, 1, []), (2, .invokevirtual 203, 3, []), (5, .aload_n 0, 1, []), (6, .getfield 33, 3, []), (9, .iload_n 1, 1, []), (10, .invokevirtual 209, 3, []), (13, .ireturn, 1, [])]
theorem hp_X4_finderOfThing : ∀ q ∈ pg_X4_finderOfThing, decode cX4_finderOfThing q.1 = .ok (q.2.1, q.2.2.1) ∧ ztg q.2.1 q.1 q.2.2.1 q.2.2.2 = true := zpg_of (by decide +kernel)
def cs_X4_finderOfThing : List (Nat × zCall) := [(203, 0, 2, some 5, 1, 6, false, sp_X4_requireThing), (209, 0, 2, some 4, 0, 0, false, sp_X3_finderBehind)]
theorem hcs_X4_finderOfThing {l : Launch} (hl0 : l.stackTraces = false) : ∀ q ∈ cs_X4_finderOfThing, zCallable l RX4 3 q := List.forall_mem_cons.mpr ⟨zcV (C := (RX4, TX4, 6)) (ps := [474, 476, 7, 14, 477]) (c_X4_requireThing hl0) (by decide +kernel) rfl ⟨rfl, by decide +kernel, by decide +kernel, by decide +kernel⟩ (by decide) (by decide), List.forall_mem_cons.mpr ⟨zcV (C := (RX3, TX3, 5)) (ps := [492, 493, 494, 19, 495]) (c_X3_finderBehind hl0) (by decide +kernel) rfl ⟨rfl, by decide +kernel, by decide +kernel, by decide +kernel⟩ (by decide) (by decide), fun _ h => absurd h List.not_mem_nil⟩⟩
def th_X4_finderOfThing : List (Nat × String) := []
theorem hth_X4_finderOfThing : ∀ q ∈ th_X4_finderOfThing, zThrow cX4_finderOfThing RX4 q := fun _ h => absurd h List.not_mem_nil
def kc_X4_finderOfThing : List (Nat × Int32) := []
theorem hkc_X4_finderOfThing : ∀ q ∈ kc_X4_finderOfThing, Cond.constant RX4 q.1 q.2 ∈ zTs := fun _ h => absurd h List.not_mem_nil
def nw_X4_finderOfThing : List (Nat × Nat × Nat × List Value) := []
theorem hnw_X4_finderOfThing : ∀ q ∈ nw_X4_finderOfThing, zNew RX4 q := fun _ h => absurd h List.not_mem_nil
set_option maxHeartbeats 4000000 in
set_option maxRecDepth 20000 in
theorem c_X4_finderOfThing {l : Launch} (hl0 : l.stackTraces = false) : CT l yX4_finderOfThing (.code yX4_finderOfThing cX4_finderOfThing 2 (some .int)) 3 1 6 false sp_X4_finderOfThing := by
  refine zCT_of hl0 (own := RX4) fl_RX4 cs_X4_finderOfThing nw_X4_finderOfThing th_X4_finderOfThing kc_X4_finderOfThing (fun _ => []) false pg_X4_finderOfThing rfl (by decide +kernel) hp_X4_finderOfThing ⟨_, _, rfl, rfl⟩ hfl_RX4 (fun h => nomatch h) (hcs_X4_finderOfThing hl0) hnw_X4_finderOfThing hth_X4_finderOfThing (fun _ _ h => absurd h List.not_mem_nil) hkc_X4_finderOfThing (fun args w Q X v0 hv0 h => ?_)
  obtain ⟨α, ν, r, c, x, hc, hν, rfl, rfl, h1, h2⟩ := h
  refine ⟨Nat.le_of_ble_eq_true rfl, 20, [], ?_, fun q hq => absurd hq List.not_mem_nil⟩
  (conv => whnf)
  refine ⟨α, ν, r, c, x, hc, hν, rfl, rfl, fun q => ?_, fun q => ?_⟩
  · obtain ⟨j, hj, rfl⟩ := vp_in_of q (by omega)
    (conv => whnf)
    refine ⟨α, ν, r, c, j, hc, hν, hj, rfl, rfl, ?_⟩
    (conv => whnf)
    exact h2 j hj rfl
  · (conv => whnf)
    exact h1 q
def sp_X4_reward : zSpec := fun args w Q X => ∃ α ν r x, args = [.ref 0, .int x] ∧ w = WX α ν r ∧ (¬ vp_in x 6 → X zIOO (WX α ν r)) ∧ ∀ j, j < 6 → x = nI j → Q (some (.int (α 13 j))) (WX α ν r)
def pg_X4_reward : List zE := [(0, .iload_n 1, 1, []), (1, .invokestatic 155, 3, []), (4, .aload_n 0, 1, []), (5, .getfield 33, 3, []), (8, .iload_n 1, 1, []), (9, .invokevirtual 212, 3, []), (12, .ireturn, 1, [])]
theorem hp_X4_reward : ∀ q ∈ pg_X4_reward, decode cX4_reward q.1 = .ok (q.2.1, q.2.2.1) ∧ ztg q.2.1 q.1 q.2.2.1 q.2.2.2 = true := zpg_of (by decide +kernel)
def cs_X4_reward : List (Nat × zCall) := [(155, 1, 1, none, 1, 6, false, sp_X4_requireFinder), (212, 0, 2, some 4, 0, 0, false, sp_X3_rewardOf)]
theorem hcs_X4_reward {l : Launch} (hl0 : l.stackTraces = false) : ∀ q ∈ cs_X4_reward, zCallable l RX4 3 q := List.forall_mem_cons.mpr ⟨zcS (ps := [588, 589, 14, 590]) (c_X4_requireFinder hl0) (by decide +kernel) ⟨by decide +kernel, by decide +kernel, by decide +kernel⟩ (by decide) (by decide), List.forall_mem_cons.mpr ⟨zcV (C := (RX3, TX3, 5)) (ps := [844, 845, 846, 19, 847]) (c_X3_rewardOf hl0) (by decide +kernel) rfl ⟨rfl, by decide +kernel, by decide +kernel, by decide +kernel⟩ (by decide) (by decide), fun _ h => absurd h List.not_mem_nil⟩⟩
def th_X4_reward : List (Nat × String) := []
theorem hth_X4_reward : ∀ q ∈ th_X4_reward, zThrow cX4_reward RX4 q := fun _ h => absurd h List.not_mem_nil
def kc_X4_reward : List (Nat × Int32) := []
theorem hkc_X4_reward : ∀ q ∈ kc_X4_reward, Cond.constant RX4 q.1 q.2 ∈ zTs := fun _ h => absurd h List.not_mem_nil
def nw_X4_reward : List (Nat × Nat × Nat × List Value) := []
theorem hnw_X4_reward : ∀ q ∈ nw_X4_reward, zNew RX4 q := fun _ h => absurd h List.not_mem_nil
set_option maxHeartbeats 4000000 in
set_option maxRecDepth 20000 in
theorem c_X4_reward {l : Launch} (hl0 : l.stackTraces = false) : CT l yX4_reward (.code yX4_reward cX4_reward 2 (some .int)) 3 1 6 false sp_X4_reward := by
  refine zCT_of hl0 (own := RX4) fl_RX4 cs_X4_reward nw_X4_reward th_X4_reward kc_X4_reward (fun _ => []) false pg_X4_reward rfl (by decide +kernel) hp_X4_reward ⟨_, _, rfl, rfl⟩ hfl_RX4 (fun h => nomatch h) (hcs_X4_reward hl0) hnw_X4_reward hth_X4_reward (fun _ _ h => absurd h List.not_mem_nil) hkc_X4_reward (fun args w Q X v0 hv0 h => ?_)
  obtain ⟨α, ν, r, x, rfl, rfl, h1, h2⟩ := h
  refine ⟨Nat.le_of_ble_eq_true rfl, 20, [], ?_, fun q hq => absurd hq List.not_mem_nil⟩
  (conv => whnf)
  refine ⟨_, rfl, fun q => ?_, fun q => ?_⟩
  · obtain ⟨j, hj, rfl⟩ := vp_in_of q (by decide)
    (conv => whnf)
    refine ⟨α, ν, r, j, hj, rfl, rfl, ?_⟩
    (conv => whnf)
    exact h2 j hj rfl
  · (conv => whnf)
    exact h1 q
def sp_X4_kept : zSpec := fun args w Q _ => ∃ α ν r, args = [.ref 0] ∧ w = WX α ν r ∧ Q (some (.int (ν 5))) (WX α ν r)
def pg_X4_kept : List zE := [(0, .aload_n 0, 1, []), (1, .getfield 33, 3, []), (4, .invokevirtual 215, 3, []), (7, .ireturn, 1, [])]
theorem hp_X4_kept : ∀ q ∈ pg_X4_kept, decode cX4_kept q.1 = .ok (q.2.1, q.2.2.1) ∧ ztg q.2.1 q.1 q.2.2.1 q.2.2.2 = true := zpg_of (by decide +kernel)
def cs_X4_kept : List (Nat × zCall) := [(215, 0, 1, some 4, 0, 0, false, sp_X3_keptByLaw)]
theorem hcs_X4_kept {l : Launch} (hl0 : l.stackTraces = false) : ∀ q ∈ cs_X4_kept, zCallable l RX4 2 q := List.forall_mem_cons.mpr ⟨zcV (C := (RX3, TX3, 5)) (ps := [836, 837, 838, 19, 839]) (c_X3_keptByLaw hl0) (by decide +kernel) rfl ⟨rfl, by decide +kernel, by decide +kernel, by decide +kernel⟩ (by decide) (by decide), fun _ h => absurd h List.not_mem_nil⟩
def th_X4_kept : List (Nat × String) := []
theorem hth_X4_kept : ∀ q ∈ th_X4_kept, zThrow cX4_kept RX4 q := fun _ h => absurd h List.not_mem_nil
def kc_X4_kept : List (Nat × Int32) := []
theorem hkc_X4_kept : ∀ q ∈ kc_X4_kept, Cond.constant RX4 q.1 q.2 ∈ zTs := fun _ h => absurd h List.not_mem_nil
def nw_X4_kept : List (Nat × Nat × Nat × List Value) := []
theorem hnw_X4_kept : ∀ q ∈ nw_X4_kept, zNew RX4 q := fun _ h => absurd h List.not_mem_nil
set_option maxHeartbeats 4000000 in
set_option maxRecDepth 20000 in
theorem c_X4_kept {l : Launch} (hl0 : l.stackTraces = false) : CT l yX4_kept (.code yX4_kept cX4_kept 1 (some .int)) 2 0 0 false sp_X4_kept := by
  refine zCT_of hl0 (own := RX4) fl_RX4 cs_X4_kept nw_X4_kept th_X4_kept kc_X4_kept (fun _ => []) false pg_X4_kept rfl (by decide +kernel) hp_X4_kept ⟨_, _, rfl, rfl⟩ hfl_RX4 (fun h => nomatch h) (hcs_X4_kept hl0) hnw_X4_kept hth_X4_kept (fun _ _ h => absurd h List.not_mem_nil) hkc_X4_kept (fun args w Q X v0 hv0 h => ?_)
  obtain ⟨α, ν, r, rfl, rfl, hQ⟩ := h
  refine ⟨Nat.le_of_ble_eq_true rfl, 20, [], ?_, fun q hq => absurd hq List.not_mem_nil⟩
  (conv => whnf)
  refine ⟨α, ν, r, rfl, rfl, ?_⟩
  (conv => whnf)
  exact hQ
end
section
/-! ===== EchoRegistry: raise, finderBySoundings ===== -/
def sp_X4_raise : zSpec := fun args w Q X => ∃ α ν r c n x y m v, zCk α ν c ∧ (∀ j, j < c → ∃ f, f < 6 ∧ α 8 j = nI f) ∧ n ≤ 60 ∧ ν 4 = nI n ∧ args = [.ref 0, .int x, .int y, .int m, .int v] ∧ w = WX α ν r ∧ (¬ vp_in x 4 ∨ ¬ vp_in y 96 → X zIOO (WX α ν r)) ∧
  ∀ d k, d < 4 → k < 96 → x = nI d → y = nI k → ((m < nI 10 ∨ nI 60 < m) ∨ (v < nI 1 ∨ nI 100000 < v) → X zIAE (WX α ν r)) ∧
    ∀ j u, j ≤ 60 → m = nI j → u ≤ 100000 → v = nI u → ¬ m < nI 10 → ¬ nI 60 < m → ¬ v < nI 1 → ¬ nI 100000 < v → (¬ zDv α ν d k j ∨ zBad α (α 3 k) ∨ n = 60 → X zISE (WX α ν r)) ∧ (zDv α ν d k j → ¬ zBad α (α 3 k) → n < 60 → ∀ z, zHR α ν c (α 3 k) z →
      (z = -1 → Q (some (.int (nI n))) (WX (zu (zu (zu (zu α 6 (upd (α 6) d (α 6 d - nI (j * zau k)))) 7 (upd (α 7) d (ν 0 + nI j + nI (j * (10 * (k / 12 + 1)) / 20)))) 11 (upd (α 11) n (α 3 k))) 12 (upd (α 12) n (-1))) (zu (zu ν 4 (nI (n + 1))) 5 (ν 5 + nI u)) r)) ∧
      (∀ i f, i < c → z = nI i → f < 6 → α 8 i = nI f → Q (some (.int (nI n))) (WX (zu (zu (zu (zu (zu α 6 (upd (α 6) d (α 6 d - nI (j * zau k)))) 7 (upd (α 7) d (ν 0 + nI j + nI (j * (10 * (k / 12 + 1)) / 20)))) 11 (upd (α 11) n (α 3 k))) 12 (upd (α 12) n (nI f))) 13 (upd (α 13) f (α 13 f + (nI u - nI (zlp u (zNm α (α 3 k))))))) (zu (zu ν 4 (nI (n + 1))) 5 (ν 5 + nI (zlp u (zNm α (α 3 k))))) r)))
def pg_X4_raise : List zE := [(0, .iload_n 1, 1, []), (1, .invokestatic 106, 3, []), (4, .iload_n 2, 1, []), (5, .invokestatic 48, 3, []), (8, .iload_n 3, 1, []), (9, .bipush 10, 2, [10]), (11, .bipush 60, 2, [60]), (13, .invokestatic 69, 3, []), (16, .iload 4, 2, []), (18, .iconst 1, 1, [1]), (19, .ldc 119, 2, []), (21, .invokestatic 69, 3, []), (24, .aload_n 0, 1, []), (25, .iload_n 1, 1, []), (26, .iload_n 2, 1, []), (27, .iload_n 3, 1, []), (28, .invokevirtual 109, 3, []), (31, .aload_n 0, 1, []), (32, .getfield 12, 3, []), (35, .iload_n 2, 1, []), (36, .invokevirtual 77, 3, []), (39, .istore 5, 2, []), (41, .aload_n 0, 1, []), (42, .iload 5, 2, []), (44, .invokevirtual 120, 3, []), (47, .aload_n 0, 1, []), (48, .getfield 33, 3, []), (51, .invokevirtual 123, 3, []), (54, .ifCond .eq 13, 3, [67]), (57, .new 127, 3, []), (67, .aload_n 0, 1, []), (68, .getfield 19, 3, []), (71, .iload_n 1, 1, []), (72, .iload_n 2, 1, []), (73, .iload_n 3, 1, []), (74, .aload_n 0, 1, []), (75, .getfield 44, 3, []), (78, .invokevirtual 112, 3, []), (81, .aload_n 0, 1, []), (82, .getfield 33, 3, []), (85, .iload 5, 2, []), (87, .aload_n 0, 1, []), (88, .iload 5, 2, []), (90, .invokevirtual 132, 3, []), (93, .iload 4, 2, []), (95, .aload_n 0, 1, []), (96, .getfield 12, 3, []), (99, .iload 5, 2, []), (101, .invokevirtual 86, 3, []), (104, .invokevirtual 135, 3, []), (107, .ireturn, 1, [])]
theorem hp_X4_raise : ∀ q ∈ pg_X4_raise, decode cX4_raise q.1 = .ok (q.2.1, q.2.2.1) ∧ ztg q.2.1 q.1 q.2.2.1 q.2.2.2 = true := zpg_of (by decide +kernel)
def cs_X4_raise : List (Nat × zCall) := [(106, 1, 1, none, 1, 6, false, sp_X4_requireDiver), (48, 1, 1, none, 1, 6, false, sp_X4_requireCell), (69, 1, 3, none, 1, 6, false, sp_X4_requireWithin), (109, 0, 4, some 5, 2, 12, false, sp_X4_requireDive), (77, 0, 2, some 1, 0, 0, false, sp_X0_shapeAt), (120, 0, 2, some 5, 2, 12, false, sp_X4_requireOpenShape), (123, 0, 1, some 4, 0, 0, false, sp_X3_isFull), (112, 0, 5, some 3, 0, 0, false, sp_X2_dive), (132, 0, 2, some 5, 0, 0, false, sp_X4_finderOfShape), (86, 0, 2, some 1, 0, 0, false, sp_X0_nameOfShape), (135, 0, 5, some 4, 0, 0, false, sp_X3_enter)]
theorem hcs_X4_raise {l : Launch} (hl0 : l.stackTraces = false) : ∀ q ∈ cs_X4_raise, zCallable l RX4 6 q := List.forall_mem_cons.mpr ⟨zcS (ps := [350, 351, 14, 352]) (c_X4_requireDiver hl0) (by decide +kernel) ⟨by decide +kernel, by decide +kernel, by decide +kernel⟩ (by decide) (by decide), List.forall_mem_cons.mpr ⟨zcS (ps := [190, 191, 14, 192]) (c_X4_requireCell hl0) (by decide +kernel) ⟨by decide +kernel, by decide +kernel, by decide +kernel⟩ (by decide) (by decide), List.forall_mem_cons.mpr ⟨zcS (ps := [266, 267, 14, 268]) (c_X4_requireWithin hl0) (by decide +kernel) ⟨by decide +kernel, by decide +kernel, by decide +kernel⟩ (by decide) (by decide), List.forall_mem_cons.mpr ⟨zcV (C := (RX4, TX4, 6)) (ps := [512, 514, 8, 14, 515]) (c_X4_requireDive hl0) (by decide +kernel) rfl ⟨rfl, by decide +kernel, by decide +kernel, by decide +kernel⟩ (by decide) (by decide), List.forall_mem_cons.mpr ⟨zcV (C := (RX0, TX0, 8)) (ps := [330, 331, 332, 15, 333]) (c_X0_shapeAt hl0) (by decide +kernel) rfl ⟨rfl, by decide +kernel, by decide +kernel, by decide +kernel⟩ (by decide) (by decide), List.forall_mem_cons.mpr ⟨zcV (C := (RX4, TX4, 6)) (ps := [544, 546, 10, 14, 547]) (c_X4_requireOpenShape hl0) (by decide +kernel) rfl ⟨rfl, by decide +kernel, by decide +kernel, by decide +kernel⟩ (by decide) (by decide), List.forall_mem_cons.mpr ⟨zcV (C := (RX3, TX3, 5)) (ps := [550, 551, 552, 19, 553]) (c_X3_isFull hl0) (by decide +kernel) rfl ⟨rfl, by decide +kernel, by decide +kernel, by decide +kernel⟩ (by decide) (by decide), List.forall_mem_cons.mpr ⟨zcV (C := (RX2, TX2, 2)) (ps := [528, 529, 530, 17, 531]) (c_X2_dive hl0) (by decide +kernel) rfl ⟨rfl, by decide +kernel, by decide +kernel, by decide +kernel⟩ (by decide) (by decide), List.forall_mem_cons.mpr ⟨zcV (C := (RX4, TX4, 6)) (ps := [416, 418, 4, 14, 419]) (c_X4_finderOfShape hl0) (by decide +kernel) rfl ⟨rfl, by decide +kernel, by decide +kernel, by decide +kernel⟩ (by decide) (by decide), List.forall_mem_cons.mpr ⟨zcV (C := (RX0, TX0, 8)) (ps := [338, 339, 340, 15, 341]) (c_X0_nameOfShape hl0) (by decide +kernel) rfl ⟨rfl, by decide +kernel, by decide +kernel, by decide +kernel⟩ (by decide) (by decide), List.forall_mem_cons.mpr ⟨zcV (C := (RX3, TX3, 5)) (ps := [555, 556, 557, 19, 558]) (c_X3_enter hl0) (by decide +kernel) rfl ⟨rfl, by decide +kernel, by decide +kernel, by decide +kernel⟩ (by decide) (by decide), fun _ h => absurd h List.not_mem_nil⟩⟩⟩⟩⟩⟩⟩⟩⟩⟩⟩
def th_X4_raise : List (Nat × String) := [(57, "java/lang/IllegalStateException")]
theorem hth_X4_raise : ∀ q ∈ th_X4_raise, zThrow cX4_raise RX4 q := List.forall_mem_cons.mpr ⟨⟨"no room for a thing", 127, 129, 131, [392, 30], by decide +kernel, by decide +kernel, by decide +kernel, thw_RX4_131, by decide +kernel, by decide +kernel, Or.inl ⟨by decide +kernel, by decide +kernel, by decide +kernel⟩⟩, fun _ h => absurd h List.not_mem_nil⟩
def kc_X4_raise : List (Nat × Int32) := [(119, 100000)]
theorem hkc_X4_raise : ∀ q ∈ kc_X4_raise, Cond.constant RX4 q.1 q.2 ∈ zTs := List.forall_mem_cons.mpr ⟨zmem (i := 543) (by decide +kernel) rfl, fun _ h => absurd h List.not_mem_nil⟩
def nw_X4_raise : List (Nat × Nat × Nat × List Value) := []
theorem hnw_X4_raise : ∀ q ∈ nw_X4_raise, zNew RX4 q := fun _ h => absurd h List.not_mem_nil
set_option maxHeartbeats 4000000 in
set_option maxRecDepth 20000 in
theorem c_X4_raise {l : Launch} (hl0 : l.stackTraces = false) : CT l yX4_raise (.code yX4_raise cX4_raise 6 (some .int)) 6 9 54 false sp_X4_raise := by
  refine zCT_of hl0 (own := RX4) fl_RX4 cs_X4_raise nw_X4_raise th_X4_raise kc_X4_raise (fun _ => []) false pg_X4_raise rfl (by decide +kernel) hp_X4_raise ⟨_, _, rfl, rfl⟩ hfl_RX4 (fun h => nomatch h) (hcs_X4_raise hl0) hnw_X4_raise hth_X4_raise (fun _ _ h => absurd h List.not_mem_nil) hkc_X4_raise (fun args w Q X v0 hv0 h => ?_)
  obtain ⟨α, ν, r, c, n, x, y, m, v, hc, hf8, hn, hν4, rfl, rfl, h1, h2⟩ := h
  refine ⟨Nat.le_of_ble_eq_true rfl, 60, [], ?_, fun q hq => absurd hq List.not_mem_nil⟩
  (conv => whnf)
  refine ⟨_, rfl, fun q => ?_, fun q => ?_⟩
  · obtain ⟨d, hd, rfl⟩ := vp_in_of q (by decide)
    (conv => whnf)
    refine ⟨_, rfl, fun q => ?_, fun q => ?_⟩
    · obtain ⟨k, hk, rfl⟩ := vp_in_of q (by decide)
      obtain ⟨h3, h4⟩ := h2 d k hd hk rfl rfl
      (conv => whnf)
      refine ⟨m, nI 10, nI 60, rfl, fun a b => ?_, fun a => ?_⟩
      · obtain ⟨j, hj, rfl⟩ := nI_le_of5 (by decide) (by decide) (by decide) a b
        (conv => whnf)
        refine ⟨v, nI 1, nI 100000, rfl, fun a' b' => ?_, fun a' => ?_⟩
        · obtain ⟨u, hu, rfl⟩ := nI_le_of5 (by decide) (by decide) (by decide) a' b'
          obtain ⟨h5, h6⟩ := h4 j u hj rfl hu rfl a b a' b'
          (conv => whnf)
          refine ⟨α, ν, r, d, k, j, hd, hk, hj, rfl, rfl, fun e => ?_, fun e => ?_⟩
          · (conv => whnf)
            refine ⟨α, ν, r, k, hk, rfl, rfl, ?_⟩
            (conv => whnf)
            refine ⟨α, ν, r, _, rfl, rfl, fun b => ?_, fun b => ?_⟩
            · (conv => whnf)
              refine ⟨α, ν, r, n, hn, hν4, rfl, rfl, fun g => ?_, fun g => ?_⟩
              · (conv => whnf)
                refine And.intro (fun c => absurd c (show ¬ _ from (by decide))) (fun _ => ?_)
                (conv => whnf)
                exact h5 (Or.inr (Or.inr g))
              · (conv => whnf)
                refine And.intro (fun _ => ?_) (fun c => absurd (show _ from rfl) c)
                (conv => whnf)
                refine ⟨α, ν, r, d, k, j, ν 0, hd, hk, hj, rfl, rfl, ?_⟩
                (conv => whnf)
                refine ⟨zu (zu α 6 (upd (α 6) d (α 6 d - nI (j * zau k)))) 7 (upd (α 7) d (ν 0 + nI j + nI (j * (10 * (k / 12 + 1)) / 20))), ν, r, c, α 3 k, hc, rfl, rfl, fun z hz => ?_⟩
                obtain ⟨h7, h8⟩ := h6 e b (by omega) z hz
                (conv => whnf)
                refine ⟨_, ν, r, _, rfl, rfl, ?_⟩
                (conv => whnf)
                refine ⟨zu (zu α 6 (upd (α 6) d (α 6 d - nI (j * zau k)))) 7 (upd (α 7) d (ν 0 + nI j + nI (j * (10 * (k / 12 + 1)) / 20))), ν, r, n, α 3 k, zfd (α 8) z, u, zNm α (α 3 k), by omega, hν4, hu, rfl, rfl, fun f hf ef => ?_, fun hno => ?_⟩
                · rcases zHr_of hz with rfl | ⟨i, hi, rfl⟩
                  · rw [zfd_m] at ef
                    exact absurd ef.symm (nI_ne_m1 (by omega))
                  · have hi2 : i < 2 ^ 31 := by have := hc.1; omega
                    rw [zfd_j _ hi2] at ef
                    have h9 := h8 i f hi rfl hf ef
                    rw [zfd_j _ hi2, ef]
                    (conv => whnf)
                    exact h9
                · rcases zHr_of hz with rfl | ⟨i, hi, rfl⟩
                  · have h9 := h7 rfl
                    rw [zfd_m]
                    (conv => whnf)
                    exact h9
                  · have hi2 : i < 2 ^ 31 := by have := hc.1; omega
                    obtain ⟨f, f1, f2⟩ := hf8 i hi
                    rw [zfd_j _ hi2, f2] at hno
                    exact absurd (vp_in_nI f1 (by decide)) hno
            · (conv => whnf)
              exact h5 (Or.inr (Or.inl b))
          · (conv => whnf)
            exact h5 (Or.inl e)
        · (conv => whnf)
          exact h3 (Or.inr a')
      · (conv => whnf)
        exact h3 (Or.inl a)
    · (conv => whnf)
      exact h1 (Or.inr q)
  · (conv => whnf)
    exact h1 (Or.inl q)
/-- the last mark on the cells of S: its turn and its name -/
def zMxp (S : Nat → Prop) (t m : Nat → Int32) (p : Int32 × Int32) : Prop := ((∀ c, S c → ¬ 0 < t c) ∧ p = (0, 0)) ∨ ∃ c, S c ∧ 0 < t c ∧ p = (t c, m c) ∧ ∀ d, S d → ¬ t c < t d
theorem i32_antisymm {a b : Int32} (h1 : ¬ a < b) (h2 : ¬ b < a) : a = b := by
  apply Int32.toInt_inj.mp
  rw [Int32.lt_iff_toInt_lt] at h1 h2
  omega
theorem i32_trans {a b c : Int32} (h1 : a < b) (h2 : ¬ c < b) : a < c := by
  rw [Int32.lt_iff_toInt_lt] at h1 h2 ⊢
  omega
theorem i32_irrefl (a : Int32) : ¬ a < a := by
  rw [Int32.lt_iff_toInt_lt]
  omega
theorem zMxp_one {S S' : Nat → Prop} {t m : Nat → Int32} {p p' : Int32 × Int32} (e : ∀ c, S c ↔ S' c) (hd : ∀ c d, S c → S d → t c = t d → 0 < t c → c = d) (h : zMxp S t m p) (h' : zMxp S' t m p') : p = p' := by
  rcases h with ⟨a, rfl⟩ | ⟨c, a, b, rfl, g⟩
  · rcases h' with ⟨a', rfl⟩ | ⟨c', a', b', rfl, g'⟩
    · rfl
    · exact absurd b' (a c' ((e c').mpr a'))
  · rcases h' with ⟨a', rfl⟩ | ⟨c', a', b', rfl, g'⟩
    · exact absurd b (a' c ((e c).mp a))
    · have e2 : c = c' := hd c c' a ((e c').mpr a') (i32_antisymm (g c' ((e c').mpr a')) (g' c ((e c).mp a))) b
      rw [e2]
/-- one more cell -/
theorem zMxp_add {S S' : Nat → Prop} {t m : Nat → Int32} {p : Int32 × Int32} {k : Nat} (h : zMxp S t m p) (hs : ∀ c, S' c ↔ S c ∨ c = k) : zMxp S' t m (if p.1 < t k then (t k, m k) else p) := by
  rcases h with ⟨a, rfl⟩ | ⟨c, a, b, rfl, g⟩
  · by_cases h0 : (0 : Int32) < t k
    · rw [if_pos h0]
      refine Or.inr ⟨k, (hs k).mpr (Or.inr rfl), h0, rfl, fun d hd => ?_⟩
      rcases (hs d).mp hd with hd | rfl
      · have := a d hd
        intro q
        rw [Int32.lt_iff_toInt_lt] at *
        omega
      · exact i32_irrefl _
    · rw [if_neg h0]
      refine Or.inl ⟨fun d hd => ?_, rfl⟩
      rcases (hs d).mp hd with hd | rfl
      · exact a d hd
      · exact h0
  · by_cases h0 : t c < t k
    · rw [if_pos h0]
      refine Or.inr ⟨k, (hs k).mpr (Or.inr rfl), ?_, rfl, fun d hd => ?_⟩
      · rw [Int32.lt_iff_toInt_lt] at *
        omega
      · rcases (hs d).mp hd with hd | rfl
        · have := g d hd
          rw [Int32.lt_iff_toInt_lt] at *
          omega
        · exact i32_irrefl _
    · rw [if_neg h0]
      refine Or.inr ⟨c, (hs c).mpr (Or.inl a), b, rfl, fun d hd => ?_⟩
      rcases (hs d).mp hd with hd | rfl
      · exact g d hd
      · exact h0
theorem zMxp_same {S S' : Nat → Prop} {t m : Nat → Int32} {p : Int32 × Int32} (h : zMxp S t m p) (hs : ∀ c, S' c ↔ S c) : zMxp S' t m p := by
  rcases h with ⟨a, rfl⟩ | ⟨c, a, b, rfl, g⟩
  · exact Or.inl ⟨fun d hd => a d ((hs d).mp hd), rfl⟩
  · exact Or.inr ⟨c, (hs c).mpr a, b, rfl, fun d hd => g d ((hs d).mp hd)⟩
theorem znm_mxp (f t m : Nat → Int32) (s : Int32) : ∀ n, zMxp (fun c => c < n ∧ (s ≠ -1 ∧ f c = s)) t m (znm f t m s n)
  | 0 => Or.inl ⟨fun c h => absurd h.1 (Nat.not_lt_zero c), rfl⟩
  | n + 1 => by
    have ih := znm_mxp f t m s n
    by_cases h : s ≠ -1 ∧ f n = s
    · have h2 := zMxp_add (k := n) (S' := fun c => c < n + 1 ∧ (s ≠ -1 ∧ f c = s)) ih (fun c => ?_)
      · by_cases h3 : (znm f t m s n).1 < t n
        · rw [znm_t h h3]
          rw [if_pos h3] at h2
          exact h2
        · rw [znm_f (Or.inr h3)]
          rw [if_neg h3] at h2
          exact h2
      · constructor
        · rintro ⟨a, b⟩
          by_cases e : c = n
          · exact Or.inr e
          · exact Or.inl ⟨by omega, b⟩
        · rintro (⟨a, b⟩ | rfl)
          · exact ⟨by omega, b⟩
          · exact ⟨by omega, h⟩
    · rw [znm_f (Or.inl h)]
      refine zMxp_same ih (fun c => ⟨fun ⟨a, b⟩ => ⟨?_, b⟩, fun ⟨a, b⟩ => ⟨by omega, b⟩⟩)
      have : c ≠ n := fun e => h (e ▸ b)
      omega
theorem znr_mxp (ρ : Nat → Nat) (t m : Nat → Int32) : ∀ n, zMxp (fun c => ∃ j, j < n ∧ ρ j = c) t m (znr ρ t m n)
  | 0 => Or.inl ⟨fun c ⟨j, h, _⟩ => absurd h (Nat.not_lt_zero j), rfl⟩
  | n + 1 => by
    have ih := znr_mxp ρ t m n
    have h2 := zMxp_add (k := ρ n) (S' := fun c => ∃ j, j < n + 1 ∧ ρ j = c) ih (fun c => ?_)
    · by_cases h3 : (znr ρ t m n).1 < t (ρ n)
      · rw [znr_t h3]
        rw [if_pos h3] at h2
        exact h2
      · rw [znr_f h3]
        rw [if_neg h3] at h2
        exact h2
    · constructor
      · rintro ⟨j, a, b⟩
        by_cases e : j = n
        · subst e
          exact Or.inr b.symm
        · exact Or.inl ⟨j, by omega, b⟩
      · rintro (⟨j, a, b⟩ | rfl)
        · exact ⟨j, by omega, b⟩
        · exact ⟨n, by omega, rfl⟩
/-- the cells of a shape are those that an outing reaches -/
theorem zLow_set {h f : Nat → Int32} (hl : zLow h f) {k n : Nat} {ρ : Nat → Nat} (hk : k < 96) (g : zBF h k n n ρ) (c : Nat) : (c < 96 ∧ (f k ≠ -1 ∧ f c = f k)) ↔ ∃ j, j < n ∧ ρ j = c := by
  rw [← zBF_done g c]
  constructor
  · rintro ⟨a, b, e⟩
    rcases hl k hk with ⟨_, e1⟩ | ⟨_, j, e1, g1, m1⟩
    · exact absurd e1 b
    · rcases hl c a with ⟨_, e2⟩ | ⟨_, j2, e2, g2, m2⟩
      · exact absurd (e.symm.trans e2) b
      · have : j2 = j := nI_inj (by have := (zcon_beg g2).1; omega) (by have := (zcon_beg g1).1; omega) (e2.symm.trans (e.trans e1))
        subst this
        exact zcon_trans (zcon_symm g1) g2
  · intro q
    have hc := zcon_end q
    rcases hl k hk with ⟨e0, e1⟩ | ⟨_, j, e1, g1, m1⟩
    · exact absurd e0 (zcon_beg q).2
    · rcases hl c hc.1 with ⟨e0, e2⟩ | ⟨_, j2, e2, g2, m2⟩
      · exact absurd e0 hc.2
      · have h1 : j ≤ j2 := m1 j2 (zcon_trans g2 (zcon_symm q))
        have h2 : j2 ≤ j := m2 j (zcon_trans g1 q)
        have : j = j2 := by omega
        subst this
        exact ⟨hc.1, by rw [e1]; exact nI_ne_m1 (by have := (zcon_beg g1).1; omega), by rw [e1, e2]⟩
/-- turns: no two cells have one turn -/
def zTu (α : Nat → Nat → Int32) : Prop := ∀ c d, c < 96 → d < 96 → α 2 c = α 2 d → 0 < α 2 c → c = d
def sp_X4_finderBySoundings : zSpec := fun args w Q X => ∃ α ν r o c x, zOu α ν o ∧ zCk α ν c ∧ zLow (α 0) (α 3) ∧ zTu α ∧ args = [.ref 0, .int x] ∧ w = WX α ν r ∧ (¬ vp_in x 96 → X zIOO (WX α ν r)) ∧
  ∀ k, k < 96 → x = nI k → ∀ z a4 a5, zHR α ν c (α 3 k) z → (∀ c, c < 96 → ∃ t, a5 c = nI t ∧ t ≤ o + 1) → Q (some (.int (zfd (α 8) z))) (WX (zu (zu α 5 a5) 4 a4) (zu ν 2 (nI (o + 1))) r)
def pg_X4_finderBySoundings : List zE := [(0, .iload_n 1, 1, []), (1, .invokestatic 48, 3, []), (4, .aload_n 0, 1, []), (5, .getfield 12, 3, []), (8, .iload_n 1, 1, []), (9, .invokevirtual 181, 3, []), (12, .istore_n 2, 1, []), (13, .aload_n 0, 1, []), (14, .getfield 12, 3, []), (17, .iload_n 2, 1, []), (18, .invokevirtual 184, 3, []), (21, .iconst 1, 1, [1]), (22, .if_icmp .ne 5, 3, [27]), (25, .iconst (-1), 1, []), (26, .ireturn, 1, []), (27, .iconst 0, 1, [0]), (28, .istore_n 3, 1, []), (29, .iload_n 3, 1, []), (30, .aload_n 0, 1, []), (31, .getfield 26, 3, []), (34, .invokevirtual 187, 3, []), (37, .if_icmp .ge 52, 3, [89]), (40, .aload_n 0, 1, []), (41, .getfield 26, 3, []), (44, .iload_n 3, 1, []), (45, .aload_n 0, 1, []), (46, .getfield 44, 3, []), (49, .invokevirtual 169, 3, []), (52, .ifCond .eq 31, 3, [83]), (55, .aload_n 0, 1, []), (56, .getfield 12, 3, []), (59, .aload_n 0, 1, []), (60, .getfield 26, 3, []), (63, .iload_n 3, 1, []), (64, .invokevirtual 190, 3, []), (67, .iload_n 2, 1, []), (68, .invokevirtual 193, 3, []), (71, .ifCond .eq 12, 3, [83]), (74, .aload_n 0, 1, []), (75, .getfield 26, 3, []), (78, .iload_n 3, 1, []), (79, .invokevirtual 196, 3, []), (82, .ireturn, 1, []), (83, .iinc 3 1, 3, [1]), (86, .goto (-57), 3, [29]), (89, .iconst (-1), 1, []), (90, .ireturn, 1, [])]
theorem hp_X4_finderBySoundings : ∀ q ∈ pg_X4_finderBySoundings, decode cX4_finderBySoundings q.1 = .ok (q.2.1, q.2.2.1) ∧ ztg q.2.1 q.1 q.2.2.1 q.2.2.2 = true := zpg_of (by decide +kernel)
def cs_X4_finderBySoundings : List (Nat × zCall) := [(48, 1, 1, none, 1, 6, false, sp_X4_requireCell), (181, 0, 2, some 1, 0, 0, false, sp_X0_goOut), (184, 0, 2, some 1, 0, 0, false, sp_X0_nameOfReached), (187, 0, 1, some 2, 0, 0, false, sp_X1_count), (169, 0, 3, some 2, 0, 0, false, sp_X1_isRunning), (190, 0, 2, some 2, 0, 0, false, sp_X1_cellOf), (193, 0, 3, some 1, 0, 0, false, sp_X0_isReached), (196, 0, 2, some 2, 0, 0, false, sp_X1_finderOf)]
theorem hcs_X4_finderBySoundings {l : Launch} (hl0 : l.stackTraces = false) : ∀ q ∈ cs_X4_finderBySoundings, zCallable l RX4 4 q := List.forall_mem_cons.mpr ⟨zcS (ps := [190, 191, 14, 192]) (c_X4_requireCell hl0) (by decide +kernel) ⟨by decide +kernel, by decide +kernel, by decide +kernel⟩ (by decide) (by decide), List.forall_mem_cons.mpr ⟨zcV (C := (RX0, TX0, 8)) (ps := [817, 299, 300, 15, 301]) (c_X0_goOut hl0) (by decide +kernel) rfl ⟨rfl, by decide +kernel, by decide +kernel, by decide +kernel⟩ (by decide) (by decide), List.forall_mem_cons.mpr ⟨zcV (C := (RX0, TX0, 8)) (ps := [818, 819, 820, 15, 821]) (c_X0_nameOfReached hl0) (by decide +kernel) rfl ⟨rfl, by decide +kernel, by decide +kernel, by decide +kernel⟩ (by decide) (by decide), List.forall_mem_cons.mpr ⟨zcV (C := (RX1, TX1, 4)) (ps := [424, 425, 426, 18, 427]) (c_X1_count hl0) (by decide +kernel) rfl ⟨rfl, by decide +kernel, by decide +kernel, by decide +kernel⟩ (by decide) (by decide), List.forall_mem_cons.mpr ⟨zcV (C := (RX1, TX1, 4)) (ps := [428, 429, 430, 18, 431]) (c_X1_isRunning hl0) (by decide +kernel) rfl ⟨rfl, by decide +kernel, by decide +kernel, by decide +kernel⟩ (by decide) (by decide), List.forall_mem_cons.mpr ⟨zcV (C := (RX1, TX1, 4)) (ps := [436, 437, 438, 18, 439]) (c_X1_cellOf hl0) (by decide +kernel) rfl ⟨rfl, by decide +kernel, by decide +kernel, by decide +kernel⟩ (by decide) (by decide), List.forall_mem_cons.mpr ⟨zcV (C := (RX0, TX0, 8)) (ps := [822, 823, 824, 15, 825]) (c_X0_isReached hl0) (by decide +kernel) rfl ⟨rfl, by decide +kernel, by decide +kernel, by decide +kernel⟩ (by decide) (by decide), List.forall_mem_cons.mpr ⟨zcV (C := (RX1, TX1, 4)) (ps := [440, 441, 442, 18, 443]) (c_X1_finderOf hl0) (by decide +kernel) rfl ⟨rfl, by decide +kernel, by decide +kernel, by decide +kernel⟩ (by decide) (by decide), fun _ h => absurd h List.not_mem_nil⟩⟩⟩⟩⟩⟩⟩⟩
def th_X4_finderBySoundings : List (Nat × String) := []
theorem hth_X4_finderBySoundings : ∀ q ∈ th_X4_finderBySoundings, zThrow cX4_finderBySoundings RX4 q := fun _ h => absurd h List.not_mem_nil
def kc_X4_finderBySoundings : List (Nat × Int32) := []
theorem hkc_X4_finderBySoundings : ∀ q ∈ kc_X4_finderBySoundings, Cond.constant RX4 q.1 q.2 ∈ zTs := fun _ h => absurd h List.not_mem_nil
def nw_X4_finderBySoundings : List (Nat × Nat × Nat × List Value) := []
theorem hnw_X4_finderBySoundings : ∀ q ∈ nw_X4_finderBySoundings, zNew RX4 q := fun _ h => absurd h List.not_mem_nil
set_option maxHeartbeats 4000000 in
set_option maxRecDepth 20000 in
theorem c_X4_finderBySoundings {l : Launch} (hl0 : l.stackTraces = false) : CT l yX4_finderBySoundings (.code yX4_finderBySoundings cX4_finderBySoundings 4 (some .int)) 4 1 6 false sp_X4_finderBySoundings := by
  refine zCT_of hl0 (own := RX4) fl_RX4 cs_X4_finderBySoundings nw_X4_finderBySoundings th_X4_finderBySoundings kc_X4_finderBySoundings (fun _ => []) false pg_X4_finderBySoundings rfl (by decide +kernel) hp_X4_finderBySoundings ⟨_, _, rfl, rfl⟩ hfl_RX4 (fun h => nomatch h) (hcs_X4_finderBySoundings hl0) hnw_X4_finderBySoundings hth_X4_finderBySoundings (fun _ _ h => absurd h List.not_mem_nil) hkc_X4_finderBySoundings (fun args w Q X v0 hv0 h => ?_)
  obtain ⟨α, ν, r, o, c, x, ⟨ho, hν, h5⟩, hc, hl, ht, rfl, rfl, h1, h2⟩ := h
  by_cases hq : vp_in x 96
  · obtain ⟨k, hk, rfl⟩ := vp_in_of hq (by decide)
    have h2 := h2 k hk rfl
    refine ⟨Nat.le_of_ble_eq_true rfl, 60, [(29, fun ms L S w' cu su => ∃ n a4 a5 ρ i, zsub [(0, .ref 0), (2, .int (nI n)), (3, .int (nI i))] L ∧ S = [] ∧ w' = WX (zu (zu α 5 a5) 4 a4) (zu ν 2 (nI (o + 1))) r ∧ zBF (α 0) k n n ρ ∧ (∀ j, j < n → a4 j = nI (ρ j)) ∧ (∀ c, c < 96 → ∃ t, a5 c = nI t ∧ t ≤ o + 1) ∧ ¬ zNm α (α 3 k) = nI 1 ∧ i ≤ c ∧ (∀ j, j < i → ¬ (α 3 k ≠ -1 ∧ zP α ν (α 3 k) j)) ∧ ms = 40 - i ∧ cu = 1 ∧ su = 6)], ?_, zone ?_⟩
    · (conv => whnf)
      refine ⟨_, rfl, fun _ => ?_, fun q => absurd hq q⟩
      (conv => whnf)
      refine ⟨α, ν, r, k, o, hk, by omega, hν, h5, rfl, rfl, fun n a4 a5 hg => ?_⟩
      obtain ⟨ρ, g1, g2, g3, g4⟩ := hg
      have hn := zBF_le g1
      have hρ : ∀ j, j < n → ρ j < 96 ∧ a4 j = nI (ρ j) := fun j hj => ⟨(zcon_end (g1.2.1 j hj)).1, g2 j hj⟩
      have hnm : (znr ρ (α 2) (α 1) n) = znm (α 3) (α 2) (α 1) (α 3 k) 96 := zMxp_one (fun c => (zLow_set hl hk g1 c).symm) (fun c d ⟨j, hj, e⟩ ⟨j', hj', e'⟩ q q' => by
        have a1 := (hρ j hj).1
        have a2 := (hρ j' hj').1
        rw [e] at a1
        rw [e'] at a2
        exact ht c d a1 a2 q q') (znr_mxp ρ (α 2) (α 1) n) (znm_mxp (α 3) (α 2) (α 1) (α 3 k) 96)
      (conv => whnf)
      refine ⟨zu (zu α 5 a5) 4 a4, zu ν 2 (nI (o + 1)), r, n, ρ, hn, hρ, rfl, rfl, ?_⟩
      have e9 : (znr ρ (zu (zu α 5 a5) 4 a4 2) (zu (zu α 5 a5) 4 a4 1) n).2 = zNm α (α 3 k) := congrArg Prod.snd hnm
      rw [e9]
      (conv => whnf)
      refine And.intro (fun d => ?_) (fun d => ?_) <;> dsimp only at d
      · (conv => whnf)
        exact h2 (-1) a4 a5 (Or.inl ⟨Or.inr d, rfl⟩) g4
      · (conv => whnf)
        exact ⟨40, n, a4, a5, ρ, 0, ⟨rfl, rfl, rfl, trivial⟩, rfl, rfl, g1, g2, g4, d, Nat.zero_le _, fun j hj => absurd hj (Nat.not_lt_zero j), rfl, rfl, rfl⟩
    · rintro ms L S w' cu su ⟨n, a4, a5, ρ, i, hL, rfl, rfl, g1, g2, g4, hnm, hi, hno, rfl, rfl, rfl⟩
      refine ⟨_, hL, ?_⟩
      have hn := zBF_le g1
      obtain ⟨hc1, hc2, hc3⟩ := id hc
      (conv => whnf)
      refine ⟨_, _, r, rfl, rfl, ?_⟩
      have e3 : zu ν 2 (nI (o + 1)) 3 = nI c := hc2
      rw [e3]
      (conv => whnf)
      refine And.intro (fun q => ?_) (fun q => ?_)
      · have hlt : i < c := (nI_ltI (by omega) (by omega)).mp q
        obtain ⟨b, hb1, hb2⟩ := hc3 i hlt
        have hnext : ¬ (α 3 k ≠ -1 ∧ zP α ν (α 3 k) i) → ∀ j, j < i + 1 → ¬ (α 3 k ≠ -1 ∧ zP α ν (α 3 k) j) := fun h j hj => by
          by_cases e : j < i
          · exact hno j e
          · have : j = i := by omega
            rw [this]; exact h
        have hin : (∃ j, j < n ∧ a4 j = α 9 i) ↔ (α 3 k ≠ -1 ∧ α 3 (α 9 i).toNatClampNeg = α 3 k) := by
          have e : (α 9 i).toNatClampNeg = b := by rw [hb2, nI_clamp (by omega)]
          rw [e]
          constructor
          · rintro ⟨j, hj, e1⟩
            rw [g2 j hj, hb2] at e1
            have e2 : ρ j = b := nI_inj (by have := (zcon_end (g1.2.1 j hj)).1; omega) (by omega) e1
            exact ((zLow_set hl hk g1 b).mpr ⟨j, hj, e2⟩).2
          · intro q
            obtain ⟨j, hj, e1⟩ := (zLow_set hl hk g1 b).mp ⟨hb1, q⟩
            exact ⟨j, hj, by rw [g2 j hj, e1, hb2]⟩
        (conv => whnf)
        refine ⟨zu (zu α 5 a5) 4 a4, zu ν 2 (nI (o + 1)), r, c, i, ν 0, hc1, hc2, hlt, rfl, rfl, fun d => ?_, fun d => ?_⟩
        · (conv => whnf)
          refine And.intro (fun c => absurd c (show ¬ _ from (by decide))) (fun _ => ?_)
          (conv => whnf)
          refine ⟨zu (zu α 5 a5) 4 a4, zu ν 2 (nI (o + 1)), r, c, i, hc1, hc2, hlt, rfl, rfl, ?_⟩
          (conv => whnf)
          refine ⟨zu (zu α 5 a5) 4 a4, zu ν 2 (nI (o + 1)), r, α 9 i, n, hn, rfl, rfl, fun g => ?_, fun g => ?_⟩
          · obtain ⟨g5, g6⟩ := hin.mp g
            (conv => whnf)
            refine And.intro (fun c => absurd c (show ¬ _ from (by decide))) (fun _ => ?_)
            (conv => whnf)
            refine ⟨zu (zu α 5 a5) 4 a4, zu ν 2 (nI (o + 1)), r, c, i, hc1, hc2, hlt, rfl, rfl, ?_⟩
            have hz : zHR α ν c (α 3 k) (nI i) := Or.inr ⟨fun q => q.elim g5 hnm, Or.inl ⟨i, hlt, ⟨d, g6⟩, fun j hj p => hno j hj ⟨g5, p⟩, rfl⟩⟩
            have h9 := h2 (nI i) a4 a5 hz g4
            rw [zfd_j _ (show i < 2 ^ 31 by omega)] at h9
            (conv => whnf)
            exact h9
          · (conv => whnf)
            refine And.intro (fun _ => ?_) (fun c => absurd (show _ from rfl) c)
            (conv => whnf)
            exact ⟨40 - (i + 1), by omega, n, a4, a5, ρ, i + 1, ⟨rfl, rfl, zi1 rfl, trivial⟩, rfl, rfl, g1, g2, g4, hnm, hlt, hnext (fun q => g (hin.mpr ⟨q.1, q.2.2⟩)), rfl, rfl, rfl⟩
        · (conv => whnf)
          refine And.intro (fun _ => ?_) (fun c => absurd (show _ from rfl) c)
          (conv => whnf)
          exact ⟨40 - (i + 1), by omega, n, a4, a5, ρ, i + 1, ⟨rfl, rfl, zi1 rfl, trivial⟩, rfl, rfl, g1, g2, g4, hnm, hlt, hnext (fun q => d q.2.1), rfl, rfl, rfl⟩
      · have hge : i = c := by
          have : ¬ i < c := fun h => q (nI_lt h (by omega))
          omega
        subst hge
        have hz : zHR α ν i (α 3 k) (-1) := by
          by_cases e : α 3 k = -1
          · exact Or.inl ⟨Or.inl e, rfl⟩
          · exact Or.inr ⟨fun q => q.elim e hnm, Or.inr ⟨fun j hj p => hno j hj ⟨e, p⟩, rfl⟩⟩
        (conv => whnf)
        exact h2 (-1) a4 a5 hz g4
  · refine ⟨Nat.le_of_ble_eq_true rfl, 20, [], ?_, fun q hq => absurd hq List.not_mem_nil⟩
    (conv => whnf)
    refine ⟨_, rfl, fun q => absurd q hq, fun q => ?_⟩
    (conv => whnf)
    exact h1 q
end
section
/-! ===== the constructors of EchoRegistry and its classes ===== -/
def zα0 : Nat → Nat → Int32 := fun i => match i with
  | 3 => zfl (-1) (fun _ => 0) 96
  | 6 => zfl (nI 200) (fun _ => 0) 4
  | _ => fun _ => 0
def zν0 : Nat → Int32 := fun _ => nI 0
def zar (n i : Nat) : va_E := .inl (0, n, .inl (zα0 i))
def zwX (a b c d e : Value) : va_E := .inr (5, [a, b, c, d, e, .int 0])
def zwC : zW := [.inr (1, [.ref 2, .ref 3, .ref 4, .ref 5, .ref 6, .ref 7, .int (nI 0), .int (nI 0)]), zar 96 0, zar 96 1, zar 96 2, zar 96 3, zar 96 4, zar 96 5]
def zwD : zW := [.inr (3, [.ref 9, .ref 10]), zar 4 6, zar 4 7]
def zwB : zW := [.inr (2, [.ref 12, .ref 13, .ref 14, .int (nI 0)]), zar 40 8, zar 40 9, zar 40 10]
def zwL : zW := [.inr (4, [.ref 16, .ref 17, .ref 18, .int (nI 0), .int (nI 0)]), zar 60 11, zar 60 12, zar 6 13]
def zwS : zW := [.inr (0, [.ref 20, .int (nI 0), .int (nI 0), .int (nI 0)]), .inl (2, 16, .inl (zα0 14))]
def sp_X0_init : zSpec := fun args w Q _ => args = [.ref 1] ∧ w = [zwX .null .null .null .null .null, .inr (1, [.null, .null, .null, .null, .null, .null, .int 0, .int 0])] ∧ Q none (zwX .null .null .null .null .null :: zwC)
def pg_X0_init : List zE := [(0, .aload_n 0, 1, []), (1, .invokespecial 3, 3, []), (4, .aload_n 0, 1, []), (5, .bipush 96, 2, [96]), (7, .newarray .int, 2, []), (9, .putfield 9, 3, []), (12, .aload_n 0, 1, []), (13, .bipush 96, 2, [96]), (15, .newarray .int, 2, []), (17, .putfield 15, 3, []), (20, .aload_n 0, 1, []), (21, .bipush 96, 2, [96]), (23, .newarray .int, 2, []), (25, .putfield 18, 3, []), (28, .aload_n 0, 1, []), (29, .bipush 96, 2, [96]), (31, .newarray .int, 2, []), (33, .putfield 21, 3, []), (36, .aload_n 0, 1, []), (37, .getfield 21, 3, []), (40, .iconst (-1), 1, []), (41, .invokestatic 24, 3, []), (44, .aload_n 0, 1, []), (45, .bipush 96, 2, [96]), (47, .newarray .int, 2, []), (49, .putfield 30, 3, []), (52, .aload_n 0, 1, []), (53, .bipush 96, 2, [96]), (55, .newarray .int, 2, []), (57, .putfield 33, 3, []), (60, .aload_n 0, 1, []), (61, .iconst 0, 1, [0]), (62, .putfield 36, 3, []), (65, .aload_n 0, 1, []), (66, .iconst 0, 1, [0]), (67, .putfield 40, 3, []), (70, .return_, 1, [])]
theorem hp_X0_init : ∀ q ∈ pg_X0_init, decode cX0_init q.1 = .ok (q.2.1, q.2.2.1) ∧ ztg q.2.1 q.1 q.2.2.1 q.2.2.2 = true := zpg_of (by decide +kernel)
def cs_X0_init : List (Nat × zCall) := [(3, 2, 1, some 1, 0, 0, false, zspO), (24, 1, 2, none, 0, 0, false, sp_J7_fill_53178)]
theorem hcs_X0_init {l : Launch} (hl0 : l.stackTraces = false) : ∀ q ∈ cs_X0_init, zCallable l RX0 2 q := List.forall_mem_cons.mpr ⟨zcO (ps := [50, 43, 44]) (by decide +kernel) (by decide), List.forall_mem_cons.mpr ⟨zcS (ps := [51, 52, 16, 53]) (c_J7_fill_53178 hl0) (by decide +kernel) ⟨by decide +kernel, by decide +kernel, by decide +kernel⟩ (by decide) (by decide), fun _ h => absurd h List.not_mem_nil⟩⟩
def th_X0_init : List (Nat × String) := []
theorem hth_X0_init : ∀ q ∈ th_X0_init, zThrow cX0_init RX0 q := fun _ h => absurd h List.not_mem_nil
def kc_X0_init : List (Nat × Int32) := []
theorem hkc_X0_init : ∀ q ∈ kc_X0_init, Cond.constant RX0 q.1 q.2 ∈ zTs := fun _ h => absurd h List.not_mem_nil
def nw_X0_init : List (Nat × Nat × Nat × List Value) := []
theorem hnw_X0_init : ∀ q ∈ nw_X0_init, zNew RX0 q := fun _ h => absurd h List.not_mem_nil
set_option maxHeartbeats 4000000 in
set_option maxRecDepth 20000 in
theorem c_X0_init {l : Launch} (hl0 : l.stackTraces = false) : CT l yX0_init (.code yX0_init cX0_init 1 none) 2 6 576 true sp_X0_init := by
  refine zCT_of hl0 (own := RX0) fl_RX0 cs_X0_init nw_X0_init th_X0_init kc_X0_init (fun _ => []) true pg_X0_init rfl (by decide +kernel) hp_X0_init ⟨_, _, rfl, rfl⟩ hfl_RX0 (fun _ => ⟨rfl, fun q hq C hC => zini_of (by decide +kernel) q hq C hC⟩) (hcs_X0_init hl0) hnw_X0_init hth_X0_init (fun _ _ h => absurd h List.not_mem_nil) hkc_X0_init (fun args w Q X v0 hv0 h => ?_)
  obtain ⟨rfl, rfl, hQ⟩ := h
  refine ⟨Nat.le_of_ble_eq_true rfl, 80, [], ?_, fun q hq => absurd hq List.not_mem_nil⟩
  (conv => whnf)
  refine ⟨96, rfl, by decide, Nat.le_of_ble_eq_true rfl, ?_⟩
  (conv => whnf)
  refine ⟨96, rfl, by decide, Nat.le_of_ble_eq_true rfl, ?_⟩
  (conv => whnf)
  refine ⟨96, rfl, by decide, Nat.le_of_ble_eq_true rfl, ?_⟩
  (conv => whnf)
  refine ⟨96, rfl, by decide, Nat.le_of_ble_eq_true rfl, ?_⟩
  (conv => whnf)
  refine ⟨5, -1, 96, fun _ => 0, rfl, by decide, rfl, by decide, ?_⟩
  (conv => whnf)
  refine ⟨96, rfl, by decide, Nat.le_of_ble_eq_true rfl, ?_⟩
  (conv => whnf)
  refine ⟨96, rfl, by decide, Nat.le_of_ble_eq_true rfl, ?_⟩
  (conv => whnf)
  exact hQ
def sp_X2_init : zSpec := fun args w Q _ => args = [.ref 8] ∧ w = zwX (.ref 1) .null .null .null .null :: (zwC ++ [.inr (3, [.null, .null])]) ∧ Q none (zwX (.ref 1) .null .null .null .null :: (zwC ++ zwD))
def pg_X2_init : List zE := [(0, .aload_n 0, 1, []), (1, .invokespecial 3, 3, []), (4, .aload_n 0, 1, []), (5, .iconst 4, 1, [4]), (6, .newarray .int, 2, []), (8, .putfield 9, 3, []), (11, .aload_n 0, 1, []), (12, .getfield 9, 3, []), (15, .sipush 200, 3, [200]), (18, .invokestatic 15, 3, []), (21, .aload_n 0, 1, []), (22, .iconst 4, 1, [4]), (23, .newarray .int, 2, []), (25, .putfield 21, 3, []), (28, .return_, 1, [])]
theorem hp_X2_init : ∀ q ∈ pg_X2_init, decode cX2_init q.1 = .ok (q.2.1, q.2.2.1) ∧ ztg q.2.1 q.1 q.2.2.1 q.2.2.2 = true := zpg_of (by decide +kernel)
def cs_X2_init : List (Nat × zCall) := [(3, 2, 1, some 3, 0, 0, false, zspO), (15, 1, 2, none, 0, 0, false, sp_J7_fill_53178)]
theorem hcs_X2_init {l : Launch} (hl0 : l.stackTraces = false) : ∀ q ∈ cs_X2_init, zCallable l RX2 2 q := List.forall_mem_cons.mpr ⟨zcO (ps := [85, 43, 44]) (by decide +kernel) (by decide), List.forall_mem_cons.mpr ⟨zcS (ps := [86, 52, 16, 53]) (c_J7_fill_53178 hl0) (by decide +kernel) ⟨by decide +kernel, by decide +kernel, by decide +kernel⟩ (by decide) (by decide), fun _ h => absurd h List.not_mem_nil⟩⟩
def th_X2_init : List (Nat × String) := []
theorem hth_X2_init : ∀ q ∈ th_X2_init, zThrow cX2_init RX2 q := fun _ h => absurd h List.not_mem_nil
def kc_X2_init : List (Nat × Int32) := []
theorem hkc_X2_init : ∀ q ∈ kc_X2_init, Cond.constant RX2 q.1 q.2 ∈ zTs := fun _ h => absurd h List.not_mem_nil
def nw_X2_init : List (Nat × Nat × Nat × List Value) := []
theorem hnw_X2_init : ∀ q ∈ nw_X2_init, zNew RX2 q := fun _ h => absurd h List.not_mem_nil
set_option maxHeartbeats 4000000 in
set_option maxRecDepth 20000 in
theorem c_X2_init {l : Launch} (hl0 : l.stackTraces = false) : CT l yX2_init (.code yX2_init cX2_init 1 none) 2 2 8 true sp_X2_init := by
  refine zCT_of hl0 (own := RX2) fl_RX2 cs_X2_init nw_X2_init th_X2_init kc_X2_init (fun _ => []) true pg_X2_init rfl (by decide +kernel) hp_X2_init ⟨_, _, rfl, rfl⟩ hfl_RX2 (fun _ => ⟨rfl, fun q hq C hC => zini_of (by decide +kernel) q hq C hC⟩) (hcs_X2_init hl0) hnw_X2_init hth_X2_init (fun _ _ h => absurd h List.not_mem_nil) hkc_X2_init (fun args w Q X v0 hv0 h => ?_)
  obtain ⟨rfl, rfl, hQ⟩ := h
  refine ⟨Nat.le_of_ble_eq_true rfl, 80, [], ?_, fun q hq => absurd hq List.not_mem_nil⟩
  (conv => whnf)
  refine ⟨4, rfl, by decide, Nat.le_of_ble_eq_true rfl, ?_⟩
  (conv => whnf)
  refine ⟨9, nI 200, 4, fun _ => 0, rfl, by decide, rfl, by decide, ?_⟩
  (conv => whnf)
  refine ⟨4, rfl, by decide, Nat.le_of_ble_eq_true rfl, ?_⟩
  (conv => whnf)
  exact hQ
def sp_X1_init : zSpec := fun args w Q _ => args = [.ref 11] ∧ w = zwX (.ref 1) (.ref 8) .null .null .null :: (zwC ++ zwD ++ [.inr (2, [.null, .null, .null, .int 0])]) ∧ Q none (zwX (.ref 1) (.ref 8) .null .null .null :: (zwC ++ zwD ++ zwB))
def pg_X1_init : List zE := [(0, .aload_n 0, 1, []), (1, .invokespecial 3, 3, []), (4, .aload_n 0, 1, []), (5, .bipush 40, 2, [40]), (7, .newarray .int, 2, []), (9, .putfield 9, 3, []), (12, .aload_n 0, 1, []), (13, .bipush 40, 2, [40]), (15, .newarray .int, 2, []), (17, .putfield 15, 3, []), (20, .aload_n 0, 1, []), (21, .bipush 40, 2, [40]), (23, .newarray .int, 2, []), (25, .putfield 18, 3, []), (28, .aload_n 0, 1, []), (29, .iconst 0, 1, [0]), (30, .putfield 21, 3, []), (33, .return_, 1, [])]
theorem hp_X1_init : ∀ q ∈ pg_X1_init, decode cX1_init q.1 = .ok (q.2.1, q.2.2.1) ∧ ztg q.2.1 q.1 q.2.2.1 q.2.2.2 = true := zpg_of (by decide +kernel)
def cs_X1_init : List (Nat × zCall) := [(3, 2, 1, some 2, 0, 0, false, zspO)]
theorem hcs_X1_init {l : Launch} (hl0 : l.stackTraces = false) : ∀ q ∈ cs_X1_init, zCallable l RX1 1 q := List.forall_mem_cons.mpr ⟨zcO (ps := [99, 43, 44]) (by decide +kernel) (by decide), fun _ h => absurd h List.not_mem_nil⟩
def th_X1_init : List (Nat × String) := []
theorem hth_X1_init : ∀ q ∈ th_X1_init, zThrow cX1_init RX1 q := fun _ h => absurd h List.not_mem_nil
def kc_X1_init : List (Nat × Int32) := []
theorem hkc_X1_init : ∀ q ∈ kc_X1_init, Cond.constant RX1 q.1 q.2 ∈ zTs := fun _ h => absurd h List.not_mem_nil
def nw_X1_init : List (Nat × Nat × Nat × List Value) := []
theorem hnw_X1_init : ∀ q ∈ nw_X1_init, zNew RX1 q := fun _ h => absurd h List.not_mem_nil
set_option maxHeartbeats 4000000 in
set_option maxRecDepth 20000 in
theorem c_X1_init {l : Launch} (hl0 : l.stackTraces = false) : CT l yX1_init (.code yX1_init cX1_init 1 none) 1 3 120 true sp_X1_init := by
  refine zCT_of hl0 (own := RX1) fl_RX1 cs_X1_init nw_X1_init th_X1_init kc_X1_init (fun _ => []) true pg_X1_init rfl (by decide +kernel) hp_X1_init ⟨_, _, rfl, rfl⟩ hfl_RX1 (fun _ => ⟨rfl, fun q hq C hC => zini_of (by decide +kernel) q hq C hC⟩) (hcs_X1_init hl0) hnw_X1_init hth_X1_init (fun _ _ h => absurd h List.not_mem_nil) hkc_X1_init (fun args w Q X v0 hv0 h => ?_)
  obtain ⟨rfl, rfl, hQ⟩ := h
  refine ⟨Nat.le_of_ble_eq_true rfl, 80, [], ?_, fun q hq => absurd hq List.not_mem_nil⟩
  (conv => whnf)
  refine ⟨40, rfl, by decide, Nat.le_of_ble_eq_true rfl, ?_⟩
  (conv => whnf)
  refine ⟨40, rfl, by decide, Nat.le_of_ble_eq_true rfl, ?_⟩
  (conv => whnf)
  refine ⟨40, rfl, by decide, Nat.le_of_ble_eq_true rfl, ?_⟩
  (conv => whnf)
  exact hQ
def sp_X3_init : zSpec := fun args w Q _ => args = [.ref 15] ∧ w = zwX (.ref 1) (.ref 8) (.ref 11) .null .null :: (zwC ++ zwD ++ zwB ++ [.inr (4, [.null, .null, .null, .int 0, .int 0])]) ∧ Q none (zwX (.ref 1) (.ref 8) (.ref 11) .null .null :: (zwC ++ zwD ++ zwB ++ zwL))
def pg_X3_init : List zE := [(0, .aload_n 0, 1, []), (1, .invokespecial 3, 3, []), (4, .aload_n 0, 1, []), (5, .bipush 60, 2, [60]), (7, .newarray .int, 2, []), (9, .putfield 9, 3, []), (12, .aload_n 0, 1, []), (13, .bipush 60, 2, [60]), (15, .newarray .int, 2, []), (17, .putfield 15, 3, []), (20, .aload_n 0, 1, []), (21, .bipush 6, 2, [6]), (23, .newarray .int, 2, []), (25, .putfield 18, 3, []), (28, .aload_n 0, 1, []), (29, .iconst 0, 1, [0]), (30, .putfield 21, 3, []), (33, .aload_n 0, 1, []), (34, .iconst 0, 1, [0]), (35, .putfield 25, 3, []), (38, .return_, 1, [])]
theorem hp_X3_init : ∀ q ∈ pg_X3_init, decode cX3_init q.1 = .ok (q.2.1, q.2.2.1) ∧ ztg q.2.1 q.1 q.2.2.1 q.2.2.2 = true := zpg_of (by decide +kernel)
def cs_X3_init : List (Nat × zCall) := [(3, 2, 1, some 4, 0, 0, false, zspO)]
theorem hcs_X3_init {l : Launch} (hl0 : l.stackTraces = false) : ∀ q ∈ cs_X3_init, zCallable l RX3 1 q := List.forall_mem_cons.mpr ⟨zcO (ps := [118, 43, 44]) (by decide +kernel) (by decide), fun _ h => absurd h List.not_mem_nil⟩
def th_X3_init : List (Nat × String) := []
theorem hth_X3_init : ∀ q ∈ th_X3_init, zThrow cX3_init RX3 q := fun _ h => absurd h List.not_mem_nil
def kc_X3_init : List (Nat × Int32) := []
theorem hkc_X3_init : ∀ q ∈ kc_X3_init, Cond.constant RX3 q.1 q.2 ∈ zTs := fun _ h => absurd h List.not_mem_nil
def nw_X3_init : List (Nat × Nat × Nat × List Value) := []
theorem hnw_X3_init : ∀ q ∈ nw_X3_init, zNew RX3 q := fun _ h => absurd h List.not_mem_nil
set_option maxHeartbeats 4000000 in
set_option maxRecDepth 20000 in
theorem c_X3_init {l : Launch} (hl0 : l.stackTraces = false) : CT l yX3_init (.code yX3_init cX3_init 1 none) 1 3 126 true sp_X3_init := by
  refine zCT_of hl0 (own := RX3) fl_RX3 cs_X3_init nw_X3_init th_X3_init kc_X3_init (fun _ => []) true pg_X3_init rfl (by decide +kernel) hp_X3_init ⟨_, _, rfl, rfl⟩ hfl_RX3 (fun _ => ⟨rfl, fun q hq C hC => zini_of (by decide +kernel) q hq C hC⟩) (hcs_X3_init hl0) hnw_X3_init hth_X3_init (fun _ _ h => absurd h List.not_mem_nil) hkc_X3_init (fun args w Q X v0 hv0 h => ?_)
  obtain ⟨rfl, rfl, hQ⟩ := h
  refine ⟨Nat.le_of_ble_eq_true rfl, 80, [], ?_, fun q hq => absurd hq List.not_mem_nil⟩
  (conv => whnf)
  refine ⟨60, rfl, by decide, Nat.le_of_ble_eq_true rfl, ?_⟩
  (conv => whnf)
  refine ⟨60, rfl, by decide, Nat.le_of_ble_eq_true rfl, ?_⟩
  (conv => whnf)
  refine ⟨6, rfl, by decide, Nat.le_of_ble_eq_true rfl, ?_⟩
  (conv => whnf)
  exact hQ
def zwJ : zW := zwX (.ref 1) (.ref 8) (.ref 11) (.ref 15) .null :: (zwC ++ zwD ++ zwB ++ zwL)
def sp_J5_init_d00df : zSpec := fun args w Q _ => args = [.ref 19, .int (nI 16)] ∧ w = zwJ ++ [.inr (0, [.null, .int 0, .int 0, .int 0])] ∧ Q none (zwJ ++ zwS)
def pg_J5_init_d00df : List zE := [(0, .aload_n 0, 1, []), (1, .invokespecial 3, 3, []), (4, .getstatic 18, 3, []), (7, .ifCond .eq 18, 3, [25]), (10, .aload_n 0, 1, []), (11, .iload_n 1, 1, []), (12, .newarray .byte, 2, []), (14, .putfield 15, 3, []), (17, .aload_n 0, 1, []), (18, .iconst 0, 1, [0]), (19, .putfield 22, 3, []), (22, .goto 16, 3, [38]), (25, .aload_n 0, 1, []), (26, .iload_n 1, 1, []), (27, .invokestatic 26, 3, []), (30, .putfield 15, 3, []), (33, .aload_n 0, 1, []), (34, .iconst 1, 1, [1]), (35, .putfield 22, 3, []), (38, .return_, 1, [])]
theorem hp_J5_init_d00df : ∀ q ∈ pg_J5_init_d00df, decode cJ5_init_d00df q.1 = .ok (q.2.1, q.2.2.1) ∧ ztg q.2.1 q.1 q.2.2.1 q.2.2.2 = true := zpg_of (by decide +kernel)
def cs_J5_init_d00df : List (Nat × zCall) := [(3, 2, 1, some 0, 0, 0, false, zspO)]
theorem hcs_J5_init_d00df {l : Launch} (hl0 : l.stackTraces = false) : ∀ q ∈ cs_J5_init_d00df, zCallable l RJ5 1 q := List.forall_mem_cons.mpr ⟨zcO (ps := [143, 43, 44]) (by decide +kernel) (by decide), fun _ h => absurd h List.not_mem_nil⟩
def th_J5_init_d00df : List (Nat × String) := []
theorem hth_J5_init_d00df : ∀ q ∈ th_J5_init_d00df, zThrow cJ5_init_d00df RJ5 q := fun _ h => absurd h List.not_mem_nil
def kc_J5_init_d00df : List (Nat × Int32) := []
theorem hkc_J5_init_d00df : ∀ q ∈ kc_J5_init_d00df, Cond.constant RJ5 q.1 q.2 ∈ zTs := fun _ h => absurd h List.not_mem_nil
def nw_J5_init_d00df : List (Nat × Nat × Nat × List Value) := []
theorem hnw_J5_init_d00df : ∀ q ∈ nw_J5_init_d00df, zNew RJ5 q := fun _ h => absurd h List.not_mem_nil
set_option maxHeartbeats 4000000 in
set_option maxRecDepth 20000 in
theorem c_J5_init_d00df {l : Launch} (hl0 : l.stackTraces = false) : CT l yJ5_init_d00df (.code yJ5_init_d00df cJ5_init_d00df 2 none) 1 1 16 true sp_J5_init_d00df := by
  refine zCT_of hl0 (own := RJ5) fl_RJ5 cs_J5_init_d00df nw_J5_init_d00df th_J5_init_d00df kc_J5_init_d00df (fun v0 => [(18, .int 1)]) true pg_J5_init_d00df rfl (by decide +kernel) hp_J5_init_d00df ⟨_, _, rfl, rfl⟩ hfl_RJ5 (fun _ => ⟨rfl, fun q hq C hC => zini_of (by decide +kernel) q hq C hC⟩) (hcs_J5_init_d00df hl0) hnw_J5_init_d00df hth_J5_init_d00df (fun v0 => List.forall_mem_cons.mpr ⟨Or.inl ⟨rfl, show Cond.fieldLink RJ5 18 "java/lang/String" "COMPACT_STRINGS" "Z" ∈ zTs from zmem (i := 144) (by decide +kernel) rfl⟩, fun _ h => absurd h List.not_mem_nil⟩) hkc_J5_init_d00df (fun args w Q X v0 hv0 h => ?_)
  obtain ⟨rfl, rfl, hQ⟩ := h
  refine ⟨Nat.le_of_ble_eq_true rfl, 80, [], ?_, fun q hq => absurd hq List.not_mem_nil⟩
  (conv => whnf)
  refine And.intro (fun c => absurd c (show ¬ _ from (by decide))) (fun _ => ?_)
  (conv => whnf)
  refine ⟨16, rfl, by decide, Nat.le_of_ble_eq_true rfl, ?_⟩
  (conv => whnf)
  refine ⟨by decide, by decide, ?_⟩
  (conv => whnf)
  exact hQ
def sp_J4_init_da8c8 : zSpec := fun args w Q _ => args = [.ref 19] ∧ w = zwJ ++ [.inr (0, [.null, .int 0, .int 0, .int 0])] ∧ Q none (zwJ ++ zwS)
def pg_J4_init_da8c8 : List zE := [(0, .aload_n 0, 1, []), (1, .bipush 16, 2, [16]), (3, .invokespecial 1, 3, []), (6, .return_, 1, [])]
theorem hp_J4_init_da8c8 : ∀ q ∈ pg_J4_init_da8c8, decode cJ4_init_da8c8 q.1 = .ok (q.2.1, q.2.2.1) ∧ ztg q.2.1 q.1 q.2.2.1 q.2.2.2 = true := zpg_of (by decide +kernel)
def cs_J4_init_da8c8 : List (Nat × zCall) := [(1, 2, 2, some 0, 1, 16, true, sp_J5_init_d00df)]
theorem hcs_J4_init_da8c8 {l : Launch} (hl0 : l.stackTraces = false) : ∀ q ∈ cs_J4_init_da8c8, zCallable l RJ4 2 q := List.forall_mem_cons.mpr ⟨zcI (ps := [140, 141, 20, 142]) (c_J5_init_d00df hl0) (by decide +kernel) rfl ⟨by decide +kernel, by decide +kernel, by decide +kernel⟩ (by decide) (by decide), fun _ h => absurd h List.not_mem_nil⟩
def th_J4_init_da8c8 : List (Nat × String) := []
theorem hth_J4_init_da8c8 : ∀ q ∈ th_J4_init_da8c8, zThrow cJ4_init_da8c8 RJ4 q := fun _ h => absurd h List.not_mem_nil
def kc_J4_init_da8c8 : List (Nat × Int32) := []
theorem hkc_J4_init_da8c8 : ∀ q ∈ kc_J4_init_da8c8, Cond.constant RJ4 q.1 q.2 ∈ zTs := fun _ h => absurd h List.not_mem_nil
def nw_J4_init_da8c8 : List (Nat × Nat × Nat × List Value) := []
theorem hnw_J4_init_da8c8 : ∀ q ∈ nw_J4_init_da8c8, zNew RJ4 q := fun _ h => absurd h List.not_mem_nil
set_option maxHeartbeats 4000000 in
set_option maxRecDepth 20000 in
theorem c_J4_init_da8c8 {l : Launch} (hl0 : l.stackTraces = false) : CT l yJ4_init_da8c8 (.code yJ4_init_da8c8 cJ4_init_da8c8 1 none) 2 1 16 true sp_J4_init_da8c8 := by
  refine zCT_of hl0 (own := RJ4) fl_RJ4 cs_J4_init_da8c8 nw_J4_init_da8c8 th_J4_init_da8c8 kc_J4_init_da8c8 (fun _ => []) true pg_J4_init_da8c8 rfl (by decide +kernel) hp_J4_init_da8c8 ⟨_, _, rfl, rfl⟩ hfl_RJ4 (fun _ => ⟨rfl, fun q hq C hC => zini_of (by decide +kernel) q hq C hC⟩) (hcs_J4_init_da8c8 hl0) hnw_J4_init_da8c8 hth_J4_init_da8c8 (fun _ _ h => absurd h List.not_mem_nil) hkc_J4_init_da8c8 (fun args w Q X v0 hv0 h => ?_)
  obtain ⟨rfl, rfl, hQ⟩ := h
  refine ⟨Nat.le_of_ble_eq_true rfl, 80, [], ?_, fun q hq => absurd hq List.not_mem_nil⟩
  (conv => whnf)
  refine ⟨rfl, rfl, ?_⟩
  (conv => whnf)
  exact hQ
def sp_X4_init : zSpec := fun args w Q _ => args = [.ref 0] ∧ w = [zwX .null .null .null .null .null] ∧ Q none (WX zα0 zν0 [])
def pg_X4_init : List zE := [(0, .aload_n 0, 1, []), (1, .invokespecial 3, 3, []), (4, .aload_n 0, 1, []), (5, .new 9, 3, []), (8, .dup, 1, []), (9, .invokespecial 11, 3, []), (12, .putfield 12, 3, []), (15, .aload_n 0, 1, []), (16, .new 16, 3, []), (19, .dup, 1, []), (20, .invokespecial 18, 3, []), (23, .putfield 19, 3, []), (26, .aload_n 0, 1, []), (27, .new 23, 3, []), (30, .dup, 1, []), (31, .invokespecial 25, 3, []), (34, .putfield 26, 3, []), (37, .aload_n 0, 1, []), (38, .new 30, 3, []), (41, .dup, 1, []), (42, .invokespecial 32, 3, []), (45, .putfield 33, 3, []), (48, .aload_n 0, 1, []), (49, .new 37, 3, []), (52, .dup, 1, []), (53, .invokespecial 39, 3, []), (56, .putfield 40, 3, []), (59, .aload_n 0, 1, []), (60, .iconst 0, 1, [0]), (61, .putfield 44, 3, []), (64, .return_, 1, [])]
theorem hp_X4_init : ∀ q ∈ pg_X4_init, decode cX4_init q.1 = .ok (q.2.1, q.2.2.1) ∧ ztg q.2.1 q.1 q.2.2.1 q.2.2.2 = true := zpg_of (by decide +kernel)
def cs_X4_init : List (Nat × zCall) := [(3, 2, 1, some 5, 0, 0, false, zspO), (11, 2, 1, some 1, 6, 576, true, sp_X0_init), (18, 2, 1, some 3, 2, 8, true, sp_X2_init), (25, 2, 1, some 2, 3, 120, true, sp_X1_init), (32, 2, 1, some 4, 3, 126, true, sp_X3_init), (39, 2, 1, some 0, 1, 16, true, sp_J4_init_da8c8)]
theorem hcs_X4_init {l : Launch} (hl0 : l.stackTraces = false) : ∀ q ∈ cs_X4_init, zCallable l RX4 3 q := List.forall_mem_cons.mpr ⟨zcO (ps := [42, 43, 44]) (by decide +kernel) (by decide), List.forall_mem_cons.mpr ⟨zcI (ps := [47, 48, 15, 49]) (c_X0_init hl0) (by decide +kernel) rfl ⟨by decide +kernel, by decide +kernel, by decide +kernel⟩ (by decide) (by decide), List.forall_mem_cons.mpr ⟨zcI (ps := [82, 83, 17, 84]) (c_X2_init hl0) (by decide +kernel) rfl ⟨by decide +kernel, by decide +kernel, by decide +kernel⟩ (by decide) (by decide), List.forall_mem_cons.mpr ⟨zcI (ps := [96, 97, 18, 98]) (c_X1_init hl0) (by decide +kernel) rfl ⟨by decide +kernel, by decide +kernel, by decide +kernel⟩ (by decide) (by decide), List.forall_mem_cons.mpr ⟨zcI (ps := [115, 116, 19, 117]) (c_X3_init hl0) (by decide +kernel) rfl ⟨by decide +kernel, by decide +kernel, by decide +kernel⟩ (by decide) (by decide), List.forall_mem_cons.mpr ⟨zcI (ps := [137, 138, 21, 139]) (c_J4_init_da8c8 hl0) (by decide +kernel) rfl ⟨by decide +kernel, by decide +kernel, by decide +kernel⟩ (by decide) (by decide), fun _ h => absurd h List.not_mem_nil⟩⟩⟩⟩⟩⟩
def th_X4_init : List (Nat × String) := []
theorem hth_X4_init : ∀ q ∈ th_X4_init, zThrow cX4_init RX4 q := fun _ h => absurd h List.not_mem_nil
def kc_X4_init : List (Nat × Int32) := []
theorem hkc_X4_init : ∀ q ∈ kc_X4_init, Cond.constant RX4 q.1 q.2 ∈ zTs := fun _ h => absurd h List.not_mem_nil
def nw_X4_init : List (Nat × Nat × Nat × List Value) := [(9, 1, 8, [.null, .null, .null, .null, .null, .null, .int 0, .int 0]), (16, 3, 2, [.null, .null]), (23, 2, 4, [.null, .null, .null, .int 0]), (30, 4, 5, [.null, .null, .null, .int 0, .int 0]), (37, 0, 4, [.null, .int 0, .int 0, .int 0])]
theorem hnw_X4_init : ∀ q ∈ nw_X4_init, zNew RX4 q := List.forall_mem_cons.mpr ⟨⟨(RX0, TX0, 8), rfl, rfl, by decide +kernel, rfl, rfl, zmem (i := 45) (by decide +kernel) rfl, zmem (i := 46) (by decide +kernel) rfl, zmem (i := 15) (by decide +kernel) rfl⟩, List.forall_mem_cons.mpr ⟨⟨(RX2, TX2, 2), rfl, rfl, by decide +kernel, rfl, rfl, zmem (i := 80) (by decide +kernel) rfl, zmem (i := 81) (by decide +kernel) rfl, zmem (i := 17) (by decide +kernel) rfl⟩, List.forall_mem_cons.mpr ⟨⟨(RX1, TX1, 4), rfl, rfl, by decide +kernel, rfl, rfl, zmem (i := 94) (by decide +kernel) rfl, zmem (i := 95) (by decide +kernel) rfl, zmem (i := 18) (by decide +kernel) rfl⟩, List.forall_mem_cons.mpr ⟨⟨(RX3, TX3, 5), rfl, rfl, by decide +kernel, rfl, rfl, zmem (i := 113) (by decide +kernel) rfl, zmem (i := 114) (by decide +kernel) rfl, zmem (i := 19) (by decide +kernel) rfl⟩, List.forall_mem_cons.mpr ⟨⟨(RJ4, TJ4, 4), rfl, rfl, by decide +kernel, rfl, rfl, zmem (i := 135) (by decide +kernel) rfl, zmem (i := 136) (by decide +kernel) rfl, zmem (i := 21) (by decide +kernel) rfl⟩, fun _ h => absurd h List.not_mem_nil⟩⟩⟩⟩⟩
set_option maxHeartbeats 4000000 in
set_option maxRecDepth 20000 in
theorem c_X4_init {l : Launch} (hl0 : l.stackTraces = false) : CT l yX4_init (.code yX4_init cX4_init 1 none) 3 20 869 true sp_X4_init := by
  refine zCT_of hl0 (own := RX4) fl_RX4 cs_X4_init nw_X4_init th_X4_init kc_X4_init (fun _ => []) true pg_X4_init rfl (by decide +kernel) hp_X4_init ⟨_, _, rfl, rfl⟩ hfl_RX4 (fun _ => ⟨rfl, fun q hq C hC => zini_of (by decide +kernel) q hq C hC⟩) (hcs_X4_init hl0) hnw_X4_init hth_X4_init (fun _ _ h => absurd h List.not_mem_nil) hkc_X4_init (fun args w Q X v0 hv0 h => ?_)
  obtain ⟨rfl, rfl, hQ⟩ := h
  refine ⟨Nat.le_of_ble_eq_true rfl, 80, [], ?_, fun q hq => absurd hq List.not_mem_nil⟩
  (conv => whnf)
  refine ⟨rfl, rfl, ?_⟩
  (conv => whnf)
  refine ⟨rfl, rfl, ?_⟩
  (conv => whnf)
  refine ⟨rfl, rfl, ?_⟩
  (conv => whnf)
  refine ⟨rfl, rfl, ?_⟩
  (conv => whnf)
  refine ⟨rfl, rfl, ?_⟩
  (conv => whnf)
  exact hQ
end
section
/-! ===== METHODS WITH A HANDLER: what they catch they answer with -3 ===== -/
theorem CT_mono {l : Launch} {y : MethodName} {wd : Cond} {d mc ms : Nat} {al : Bool} {Sp : zSpec} (h : CT l y wd d mc ms al Sp) : CT l y wd d mc ms al (fun args w Q X => ∃ Q0 X0, Sp args w Q0 X0 ∧ (∀ r w', Q0 r w' → Q r w') ∧ (∀ E w', X0 E w' → X E w')) := by
  intro G cA ad w args sz Q X ⟨Q0, X0, h0, hq, hx⟩
  intro p e ha hc hk s m args' below hf happ hP ht
  obtain ⟨k, o, h1, h2, h3, hQ⟩ := h G cA ad w args sz Q0 X0 h0 p e ha hc hk s m args' below hf happ hP ht
  refine ⟨k, o, h1, h2, h3, ?_⟩
  rcases hQ with ⟨⟨⟨r, w', ad', g1, g2, g3⟩, g4⟩, g5⟩ | ⟨q, g0, E, ce, L, ⟨⟨w', ad', g1, g2⟩, g3⟩, g4⟩
  · exact Or.inl ⟨⟨⟨r, w', ad', g1, hq r w' g2, g3⟩, g4⟩, g5⟩
  · exact Or.inr ⟨q, g0, E, ce, L, ⟨⟨w', ad', hx E w' g1, g2⟩, g3⟩, g4⟩
def zMc (Sp : zSpec) : zSpec := fun args w Q X => ∃ Q0 X0, Sp args w Q0 X0 ∧ (∀ r w', Q0 r w' → Q r w') ∧ (∀ E w', X0 E w' → X E w')
/-- a handler: exception, handler's place, catch type, slot of the exception, length of its store; it answers -3 -/
abbrev zHd : Type := String × Nat × Nat × Nat × Nat
def zHdOK (cc : ByteArray) (own : String) (nL : Nat) (q : zHd) : Prop :=
  (q.2.2.1 ≠ 0 ∧ q.2.2.2.1 < nL) ∧ Cond.classLink own q.2.2.1 q.1 ∈ zTs ∧ Cond.castable q.1 q.1 ∈ zOth ∧
  ((∃ i : Fin 4, i.val = q.2.2.2.1 ∧ q.2.2.2.2 = 1 ∧ decode cc q.2.1 = .ok (.astore_n i, 1)) ∨ (q.2.2.2.2 = 2 ∧ decode cc q.2.1 = .ok (.astore q.2.2.2.1, 2))) ∧
  decode cc (q.2.1 + q.2.2.2.2) = .ok (.bipush (-3), 2) ∧ decode cc (q.2.1 + q.2.2.2.2 + 2) = .ok (.ireturn, 1)
/-- the handlers in their order, each behind those that don't take its exception -/
def zHdS (en : Nat) (hds : List zHd) : List (Nat × Nat × Nat × Nat) := hds.map (fun q => (0, en, q.2.1, q.2.2.1))
def zexcH (en : Nat) (hds : List zHd) (mc ms : Nat) (Q : Option Value → zW → Prop) : Nat → String → zL → zW → Nat → Nat → Prop := fun pc E _ w cu su =>
  ∃ q, hds = [q] ∧ q.1 = E ∧ pc < en ∧ cu ≤ mc ∧ su ≤ ms ∧ Q (some (.int (-nI 3))) w
section ZH
variable {p : Program} {l : Launch} {e : Env} {R : Room} {s : State} {m : MethodId} {args : Array Value} {below : List Frame} {meth : Method} {c : Code} {cc : ByteArray} {nL : Nat} {G : va_G} {cA : Nat → ClassId} {ad : Nat → Nat} {w0 : zW} {al : Bool} {mc ms : Nat} {Q : Option Value → zW → Prop} {X : String → zW → Prop}
theorem zexcH_ok {T : zT} {own : String} {en : Nat} {hds : List zHd} (hx : p.tables.exec = Jvm.exec) (hb : c.code = cc) (hr : meth.sig.returnType = some .int) (hlocks : meth.locks = false) (hown : s.vm.findClass own = some m.cls) (hE : zEnv G cA ad s (va_A (zcw cA ad w0) s.heap.size) s.heap)
    (htab : c.exceptionTable.toList = tableOf (zHdS en hds)) (hok : ∀ q ∈ hds, zHdOK cc own nL q) (hT : T.exc = zexcH en hds mc ms Q) : zExcOK (zGam p l e R s m args below meth c cc nL G cA ad w0 al mc ms Q X) T := by
  intro pc E L S w cu su h ad' H locs ls ce q9 hP hD hS hl ha h1 h2 h3
  rw [hT] at h
  obtain ⟨q, e1, rfl, hpc, hcu, hsu, hq⟩ := h
  have hts : ∀ w ∈ zTs, w.before args s = true := fun w hw => word_at (State.WarmedH.refl s) (good_of_word (zgood hw)) (hE.1 w hw)
  obtain ⟨⟨k1, k2⟩, k3, k4, k5, k7, k8⟩ := hok q (by rw [e1]; simp)
  have fin : ∀ t : State, t.heap = H → s.WarmedH t.vm → zQc G cA ad w0 s.heap.size al Q args s (.returned (some (.int (-nI 3)))) t := by
    intro t ht hW
    exact ⟨⟨some (.int (-nI 3)), w, ad', rfl, hq, ha, by rw [ht]; exact hP, hD⟩, hS.F ht⟩
  have ret : ∀ ls' : Array Slot, W p l e R s m args below meth c H locs cu su (vx_MQ below (zQc G cA ad w0 s.heap.size al Q) (zXc G cA ad w0 s.heap.size al X) args s mc ms (va_A (zcw cA ad w0) s.heap.size)) (F0 m (q.2.1 + q.2.2.2.2 + 2) ls' [.int (-nI 3)]) := fun ls' =>
    W.widen hcu hsu (vx_ret (W.iret (v := -nI 3) hx hb hr fin hS.2.2 k8 hlocks))
  have kc : ∀ ls' : Array Slot, W p l e R s m args below meth c H locs cu su (vx_MQ below (zQc G cA ad w0 s.heap.size al Q) (zXc G cA ad w0 s.heap.size al X) args s mc ms (va_A (zcw cA ad w0) s.heap.size)) (F0 m (q.2.1 + q.2.2.2.2) ls' []) := fun ls' => lv_bipush hx hb k7 (v := -nI 3) (by decide) (ret ls')
  refine vx_catch hown [] ⟨0, en, q.2.1, q.2.2.1⟩ [] (by rw [htab, e1]; simp [zHdS, tableOf]) (fun z hz => absurd hz List.not_mem_nil) ?_ k1 (hts _ k3) (zOth_use k4 (hE.2.1.2.1 _ k4)) h1 h2 h3 ?_
  · simp [covers, hpc]
  · show W p l e R s m args below meth c H locs cu su _ (F0 m q.2.1 ls [.ref q9])
    rcases k5 with ⟨i, i1, i2, i3⟩ | ⟨i2, i3⟩
    · have kc1 := kc
      rw [i2] at kc1
      exact lv_astore_n hx hb i3 rfl hl (show i.val < nL by omega) rfl (fun ls' _ => kc1 ls')
    · have kc1 := kc
      rw [i2] at kc1
      exact lv_astore hx hb i3 hl k2 rfl (fun ls' _ => kc1 ls')
end ZH
/-- the contract of a method with handlers -/
theorem zCT_ofH {l : Launch} {y : MethodName} {cc : ByteArray} {maxL : Nat} {d mc ms : Nat} {Sp : zSpec} {own : String} (cs : List (Nat × zCall)) (P : List zE) (en : Nat) (hds : List zHd) (hown : y.cls = own) (hy : plainName y.cls = true)
    (hP : ∀ q ∈ P, decode cc q.1 = .ok (q.2.1, q.2.2.1) ∧ ztg q.2.1 q.1 q.2.2.1 q.2.2.2 = true) (hP0 : ∃ q0 P', P = q0 :: P' ∧ q0.1 = 0) (hcs : ∀ q ∈ cs, zCallable l own d q) (hok : ∀ q ∈ hds, zHdOK cc own maxL q)
    (body : ∀ args w Q X, Sp args w Q X → zBody ([], cs, [], [], [], [], [], false, (mc, ms), zretP (some .int) mc ms Q, zexcH en hds mc ms Q, (false, w.length)) maxL P args w) : CT l y (.codeWith y cc maxL (some .int) (zHdS en hds)) d mc ms false Sp := by
  intro G cA ad w args sz Q X hSp
  refine vx_ofWH (cc := cc) (maxL := maxL) (ret := some .int) (hh := zHdS en hds) hy rfl ?_
  intro p e s m args' below meth c s₁ B hml hv
  obtain ⟨rfl, hsz, hP1, hD1, hE⟩ := hv
  subst hsz
  have hx := B.exec
  have hb := B.bytes
  have hr := B.returns
  have hownc : s.vm.findClass own = some m.cls := by rw [← hown]; exact findClass_of_methodNamed B.named
  have hlocks := B.notSynchronized
  obtain ⟨hlen, hbody⟩ := body args w Q X hSp
  obtain ⟨q0, P', hP0, h00⟩ := hP0
  have htab := vx_table (x := y) B (atoms_spec (ws := [Cond.codeWith y cc maxL (some .int) (zHdS en hds)]) B.pre _ (List.mem_singleton.mpr rfl))
  have hexc := zexcH_ok (p := p) (l := l) (e := e) (R := zRm d mc ms) (s := s) (m := m) (args := (args.map (zcv ad)).toArray) (below := below) (meth := meth) (c := c) (cc := cc) (nL := maxL) (G := G) (cA := cA) (ad := ad) (w0 := w) (al := false) (mc := mc) (ms := ms) (Q := Q) (X := X) (T := ([], cs, [], [], [], [], [], false, (mc, ms), zretP (some .int) mc ms Q, zexcH en hds mc ms Q, (false, w.length))) hx hb hr hlocks hownc hE htab hok rfl
  have hA : ∀ q, s.heap.size ≤ q → va_A (zcw cA ad w) s.heap.size q := fun q h => Or.inr h
  have base : zBase (zGam p l e (zRm d mc ms) s m (args.map (zcv ad)).toArray below meth c cc maxL G cA ad w false mc ms Q X) ([], cs, [], [], [], [], [], false, (mc, ms), zretP (some .int) mc ms Q, zexcH en hds mc ms Q, (false, w.length)) l own d :=
    ⟨rfl, hx, hb, hml, hownc, hE, Nat.le_refl _, Nat.le_refl _, hA, Nat.le_refl _, Nat.le_refl _, rfl, rfl, hexc⟩
  have hts : ∀ x ∈ zTs, x.before (args.map (zcv ad)).toArray s = true := zts base
  have ok : zOK (zGam p l e (zRm d mc ms) s m (args.map (zcv ad)).toArray below meth c cc maxL G cA ad w false mc ms Q X) ([], cs, [], [], [], [], [], false, (mc, ms), zretP (some .int) mc ms Q, zexcH en hds mc ms Q, (false, w.length)) own :=
    ⟨hx, hb, hownc, hts, hE.2.2.2.2.2.2.2.1, hA, rfl, rfl, Nat.le_refl _, Nat.le_refl _, fun q h => absurd h List.not_mem_nil, (fun h => nomatch h), fun q hq => hcs q hq _ _ base, fun q h => absurd h List.not_mem_nil, fun q h => absurd h List.not_mem_nil, fun q h => absurd h List.not_mem_nil, fun q h => absurd h List.not_mem_nil, fun q h => absurd h List.not_mem_nil, zret_ok hx hb hr hlocks rfl⟩
  have hbd := zbody_sound ok hP hP0 h00 ⟨hlen, hbody⟩
  have hlv := lv_entry (args.map (zcv ad)) (n := maxL) (by rw [zlg_len]; exact hlen)
  rw [lg_entry_eq]
  rw [zlv_args] at hlv
  exact hbd ad s.heap [] _ hP1 hD1.self va_S.rf hlv (fun _ _ => rfl)
set_option maxHeartbeats 2000000 in
/-- a static call of a method with handlers -/
theorem zcSX {l : Launch} {own : String} {d d' idx maxL mc ms n : Nat} {al : Bool} {Sp : zSpec} {bytes : ByteArray} {ret : Option FieldType} {ps : List Nat} {y : MethodName} {hh : List (Nat × Nat × Nat × Nat)} (hM : CT l y (.codeWith y bytes maxL ret hh) d' mc ms al Sp)
    (hz : zins ps (va_wsS own idx y [.codeWith y bytes maxL ret hh]) = true) (hy : y.cls ≠ "java/lang/invoke/MethodHandle" ∧ y.cls ≠ "java/lang/invoke/VarHandle" ∧ (parseMethodDescriptor y.desc).map (fun d => d.parameters.length) = some n) (hd : d' < d) (hm : maxL ≤ 20) : zCallable l own d (idx, 1, n, none, mc, ms, al, Sp) := by
  intro Γ T B pc L S as S' w cu su QN _ hd2 hp hrc hcat hcu hsu hal hN hSp ad H locs ls hP hD hS hl ha
  obtain ⟨hlen, rfl⟩ := zpop_top hp
  obtain ⟨e1, hx, hb, hml, hown, hE, hRf, hRl, hA, hrC, hrS, hTa, hTn, hex⟩ := id B
  subst e1
  have M := hM Γ.G Γ.cA ad w as H.size QN _ hSp
  exact zcall_fin B hP hD hS hl ha hal hN (vx_runSX (As := as.map (zcv ad)) (rest := S'.map (zcv ad)) ⟨hx, hb, hml, hown, zts B⟩ M (vx_cwSW n (zts B) (zins_good hz) rfl rfl rfl hy (zroom B hd hm)) ⟨zpre_blind, fun U hU hW => zpre_at B hP hD hS ha hU hW⟩ rfl (by rw [List.length_map]; exact hlen) hl.1 zstkS (zmon hcat) hd2 ⟨Nat.le_trans hcu hrC, Nat.le_trans hsu hrS⟩)
end
section
/-! ===== EchoRegistryLaw: the calls of the class, with a refusal as -3 ===== -/
def zQi (Q : Option Value → zW → Prop) : Option Value → zW → Prop := fun rv w' => ∃ x, rv = some (.int x) ∧ Q (some (.int x)) w'
def zXi (Q : Option Value → zW → Prop) : String → zW → Prop := fun E w' => E = zISE ∧ Q (some (.int (-nI 3))) w'
def pg_L_name : List zE := [(0, .aload_n 0, 1, []), (1, .iload_n 1, 1, []), (2, .iload_n 2, 1, []), (3, .iload_n 3, 1, []), (4, .iload 4, 2, []), (6, .invokevirtual 9, 3, []), (9, .ireturn, 1, [])]
theorem hp_L_name : ∀ q ∈ pg_L_name, decode cL_name q.1 = .ok (q.2.1, q.2.2.1) ∧ ztg q.2.1 q.1 q.2.2.1 q.2.2.2 = true := zpg_of (by decide +kernel)
def hd_L_name : List zHd := [("java/lang/IllegalStateException", 10, 15, 5, 2)]
theorem hhd_L_name : ∀ q ∈ hd_L_name, zHdOK cL_name RL 6 q := List.forall_mem_cons.mpr ⟨⟨⟨by decide, by decide⟩, zmem (i := 507) (by decide +kernel) rfl, by decide +kernel, Or.inr ⟨rfl, by decide +kernel⟩, by decide +kernel, by decide +kernel⟩, fun _ h => absurd h List.not_mem_nil⟩
def cs_L_name : List (Nat × zCall) := [(9, 0, 5, some 5, 6, 36, false, zMc sp_X4_name)]
theorem hcs_L_name {l : Launch} (hl0 : l.stackTraces = false) : ∀ q ∈ cs_L_name, zCallable l RL 7 q := List.forall_mem_cons.mpr ⟨zcV (C := (RX4, TX4, 6)) (ps := [508, 509, 510, 14, 511]) (CT_mono (c_X4_name hl0)) (by decide +kernel) rfl ⟨rfl, by decide +kernel, by decide +kernel, by decide +kernel⟩ (by decide) (by decide), fun _ h => absurd h List.not_mem_nil⟩
def sp_L_name : zSpec := fun args w Q _ => ∃ α ν a b c d, args = [.ref 0, .int a, .int b, .int c, .int d] ∧ w = WX α ν [] ∧ sp_X4_name [.ref 0, .int a, .int b, .int c, .int d] (WX α ν []) (zQi Q) (zXi Q)
set_option maxHeartbeats 4000000 in
set_option maxRecDepth 20000 in
theorem c_L_name {l : Launch} (hl0 : l.stackTraces = false) : CT l yL_name (.codeWith yL_name cL_name 6 (some .int) (zHdS 9 hd_L_name)) 7 6 36 false sp_L_name := by
  refine zCT_ofH (own := RL) cs_L_name pg_L_name 9 hd_L_name rfl (by decide +kernel) hp_L_name ⟨_, _, rfl, rfl⟩ (hcs_L_name hl0) hhd_L_name (fun args w Q X h => ?_)
  obtain ⟨α, ν, a, b, c, d, rfl, rfl, hSp⟩ := h
  refine ⟨Nat.le_of_ble_eq_true rfl, 40, [], ?_, fun q hq => absurd hq List.not_mem_nil⟩
  (conv => whnf)
  refine ⟨_, _, hSp, fun rv w9 hq => ?_, fun E w9 hx => ?_⟩
  · obtain ⟨x, rfl, hq⟩ := hq
    (conv => whnf)
    exact hq
  · obtain ⟨rfl, hq⟩ := hx
    (conv => whnf)
    exact ⟨_, rfl, rfl, by decide +kernel, Nat.le_of_ble_eq_true rfl, Nat.le_of_ble_eq_true rfl, hq⟩
def pg_L_raise : List zE := [(0, .aload_n 0, 1, []), (1, .iload_n 1, 1, []), (2, .iload_n 2, 1, []), (3, .iload_n 3, 1, []), (4, .iload 4, 2, []), (6, .invokevirtual 17, 3, []), (9, .ireturn, 1, [])]
theorem hp_L_raise : ∀ q ∈ pg_L_raise, decode cL_raise q.1 = .ok (q.2.1, q.2.2.1) ∧ ztg q.2.1 q.1 q.2.2.1 q.2.2.2 = true := zpg_of (by decide +kernel)
def hd_L_raise : List zHd := [("java/lang/IllegalStateException", 10, 15, 5, 2)]
theorem hhd_L_raise : ∀ q ∈ hd_L_raise, zHdOK cL_raise RL 6 q := List.forall_mem_cons.mpr ⟨⟨⟨by decide, by decide⟩, zmem (i := 507) (by decide +kernel) rfl, by decide +kernel, Or.inr ⟨rfl, by decide +kernel⟩, by decide +kernel, by decide +kernel⟩, fun _ h => absurd h List.not_mem_nil⟩
def cs_L_raise : List (Nat × zCall) := [(17, 0, 5, some 5, 9, 54, false, zMc sp_X4_raise)]
theorem hcs_L_raise {l : Launch} (hl0 : l.stackTraces = false) : ∀ q ∈ cs_L_raise, zCallable l RL 7 q := List.forall_mem_cons.mpr ⟨zcV (C := (RX4, TX4, 6)) (ps := [539, 540, 541, 14, 542]) (CT_mono (c_X4_raise hl0)) (by decide +kernel) rfl ⟨rfl, by decide +kernel, by decide +kernel, by decide +kernel⟩ (by decide) (by decide), fun _ h => absurd h List.not_mem_nil⟩
def sp_L_raise : zSpec := fun args w Q _ => ∃ α ν a b c d, args = [.ref 0, .int a, .int b, .int c, .int d] ∧ w = WX α ν [] ∧ sp_X4_raise [.ref 0, .int a, .int b, .int c, .int d] (WX α ν []) (zQi Q) (zXi Q)
set_option maxHeartbeats 4000000 in
set_option maxRecDepth 20000 in
theorem c_L_raise {l : Launch} (hl0 : l.stackTraces = false) : CT l yL_raise (.codeWith yL_raise cL_raise 6 (some .int) (zHdS 9 hd_L_raise)) 7 9 54 false sp_L_raise := by
  refine zCT_ofH (own := RL) cs_L_raise pg_L_raise 9 hd_L_raise rfl (by decide +kernel) hp_L_raise ⟨_, _, rfl, rfl⟩ (hcs_L_raise hl0) hhd_L_raise (fun args w Q X h => ?_)
  obtain ⟨α, ν, a, b, c, d, rfl, rfl, hSp⟩ := h
  refine ⟨Nat.le_of_ble_eq_true rfl, 40, [], ?_, fun q hq => absurd hq List.not_mem_nil⟩
  (conv => whnf)
  refine ⟨_, _, hSp, fun rv w9 hq => ?_, fun E w9 hx => ?_⟩
  · obtain ⟨x, rfl, hq⟩ := hq
    (conv => whnf)
    exact hq
  · obtain ⟨rfl, hq⟩ := hx
    (conv => whnf)
    exact ⟨_, rfl, rfl, by decide +kernel, Nat.le_of_ble_eq_true rfl, Nat.le_of_ble_eq_true rfl, hq⟩
def pg_L_fill : List zE := [(0, .aload_n 0, 1, []), (1, .iload_n 1, 1, []), (2, .invokevirtual 20, 3, []), (5, .ireturn, 1, [])]
theorem hp_L_fill : ∀ q ∈ pg_L_fill, decode cL_fill q.1 = .ok (q.2.1, q.2.2.1) ∧ ztg q.2.1 q.1 q.2.2.1 q.2.2.2 = true := zpg_of (by decide +kernel)
def hd_L_fill : List zHd := [("java/lang/IllegalStateException", 6, 15, 2, 1)]
theorem hhd_L_fill : ∀ q ∈ hd_L_fill, zHdOK cL_fill RL 3 q := List.forall_mem_cons.mpr ⟨⟨⟨by decide, by decide⟩, zmem (i := 507) (by decide +kernel) rfl, by decide +kernel, Or.inl ⟨2, rfl, rfl, by decide +kernel⟩, by decide +kernel, by decide +kernel⟩, fun _ h => absurd h List.not_mem_nil⟩
def cs_L_fill : List (Nat × zCall) := [(20, 0, 2, some 5, 2, 12, false, zMc sp_X4_fill)]
theorem hcs_L_fill {l : Launch} (hl0 : l.stackTraces = false) : ∀ q ∈ cs_L_fill, zCallable l RL 6 q := List.forall_mem_cons.mpr ⟨zcV (C := (RX4, TX4, 6)) (ps := [573, 574, 575, 14, 576]) (CT_mono (c_X4_fill hl0)) (by decide +kernel) rfl ⟨rfl, by decide +kernel, by decide +kernel, by decide +kernel⟩ (by decide) (by decide), fun _ h => absurd h List.not_mem_nil⟩
def sp_L_fill : zSpec := fun args w Q _ => ∃ α ν a, args = [.ref 0, .int a] ∧ w = WX α ν [] ∧ sp_X4_fill [.ref 0, .int a] (WX α ν []) (zQi Q) (zXi Q)
set_option maxHeartbeats 4000000 in
set_option maxRecDepth 20000 in
theorem c_L_fill {l : Launch} (hl0 : l.stackTraces = false) : CT l yL_fill (.codeWith yL_fill cL_fill 3 (some .int) (zHdS 5 hd_L_fill)) 6 2 12 false sp_L_fill := by
  refine zCT_ofH (own := RL) cs_L_fill pg_L_fill 5 hd_L_fill rfl (by decide +kernel) hp_L_fill ⟨_, _, rfl, rfl⟩ (hcs_L_fill hl0) hhd_L_fill (fun args w Q X h => ?_)
  obtain ⟨α, ν, a, rfl, rfl, hSp⟩ := h
  refine ⟨Nat.le_of_ble_eq_true rfl, 40, [], ?_, fun q hq => absurd hq List.not_mem_nil⟩
  (conv => whnf)
  refine ⟨_, _, hSp, fun rv w9 hq => ?_, fun E w9 hx => ?_⟩
  · obtain ⟨x, rfl, hq⟩ := hq
    (conv => whnf)
    exact hq
  · obtain ⟨rfl, hq⟩ := hx
    (conv => whnf)
    exact ⟨_, rfl, rfl, by decide +kernel, Nat.le_of_ble_eq_true rfl, Nat.le_of_ble_eq_true rfl, hq⟩
def pg_L_claim : List zE := [(0, .aload_n 0, 1, []), (1, .iload_n 1, 1, []), (2, .iload_n 2, 1, []), (3, .invokevirtual 24, 3, []), (6, .ireturn, 1, [])]
theorem hp_L_claim : ∀ q ∈ pg_L_claim, decode cL_claim q.1 = .ok (q.2.1, q.2.2.1) ∧ ztg q.2.1 q.1 q.2.2.1 q.2.2.2 = true := zpg_of (by decide +kernel)
def hd_L_claim : List zHd := [("java/lang/IllegalStateException", 7, 15, 3, 1)]
theorem hhd_L_claim : ∀ q ∈ hd_L_claim, zHdOK cL_claim RL 4 q := List.forall_mem_cons.mpr ⟨⟨⟨by decide, by decide⟩, zmem (i := 507) (by decide +kernel) rfl, by decide +kernel, Or.inl ⟨3, rfl, rfl, by decide +kernel⟩, by decide +kernel, by decide +kernel⟩, fun _ h => absurd h List.not_mem_nil⟩
def cs_L_claim : List (Nat × zCall) := [(24, 0, 3, some 5, 6, 36, false, zMc sp_X4_claim)]
theorem hcs_L_claim {l : Launch} (hl0 : l.stackTraces = false) : ∀ q ∈ cs_L_claim, zCallable l RL 7 q := List.forall_mem_cons.mpr ⟨zcV (C := (RX4, TX4, 6)) (ps := [584, 585, 586, 14, 587]) (CT_mono (c_X4_claim hl0)) (by decide +kernel) rfl ⟨rfl, by decide +kernel, by decide +kernel, by decide +kernel⟩ (by decide) (by decide), fun _ h => absurd h List.not_mem_nil⟩
def sp_L_claim : zSpec := fun args w Q _ => ∃ α ν a b, args = [.ref 0, .int a, .int b] ∧ w = WX α ν [] ∧ sp_X4_claim [.ref 0, .int a, .int b] (WX α ν []) (zQi Q) (zXi Q)
set_option maxHeartbeats 4000000 in
set_option maxRecDepth 20000 in
theorem c_L_claim {l : Launch} (hl0 : l.stackTraces = false) : CT l yL_claim (.codeWith yL_claim cL_claim 4 (some .int) (zHdS 6 hd_L_claim)) 7 6 36 false sp_L_claim := by
  refine zCT_ofH (own := RL) cs_L_claim pg_L_claim 6 hd_L_claim rfl (by decide +kernel) hp_L_claim ⟨_, _, rfl, rfl⟩ (hcs_L_claim hl0) hhd_L_claim (fun args w Q X h => ?_)
  obtain ⟨α, ν, a, b, rfl, rfl, hSp⟩ := h
  refine ⟨Nat.le_of_ble_eq_true rfl, 40, [], ?_, fun q hq => absurd hq List.not_mem_nil⟩
  (conv => whnf)
  refine ⟨_, _, hSp, fun rv w9 hq => ?_, fun E w9 hx => ?_⟩
  · obtain ⟨x, rfl, hq⟩ := hq
    (conv => whnf)
    exact hq
  · obtain ⟨rfl, hq⟩ := hx
    (conv => whnf)
    exact ⟨_, rfl, rfl, by decide +kernel, Nat.le_of_ble_eq_true rfl, Nat.le_of_ble_eq_true rfl, hq⟩
def pg_L_renew : List zE := [(0, .aload_n 0, 1, []), (1, .iload_n 1, 1, []), (2, .invokevirtual 28, 3, []), (5, .ireturn, 1, [])]
theorem hp_L_renew : ∀ q ∈ pg_L_renew, decode cL_renew q.1 = .ok (q.2.1, q.2.2.1) ∧ ztg q.2.1 q.1 q.2.2.1 q.2.2.2 = true := zpg_of (by decide +kernel)
def hd_L_renew : List zHd := [("java/lang/IllegalStateException", 6, 15, 2, 1)]
theorem hhd_L_renew : ∀ q ∈ hd_L_renew, zHdOK cL_renew RL 3 q := List.forall_mem_cons.mpr ⟨⟨⟨by decide, by decide⟩, zmem (i := 507) (by decide +kernel) rfl, by decide +kernel, Or.inl ⟨2, rfl, rfl, by decide +kernel⟩, by decide +kernel, by decide +kernel⟩, fun _ h => absurd h List.not_mem_nil⟩
def cs_L_renew : List (Nat × zCall) := [(28, 0, 2, some 5, 2, 12, false, zMc sp_X4_renew)]
theorem hcs_L_renew {l : Launch} (hl0 : l.stackTraces = false) : ∀ q ∈ cs_L_renew, zCallable l RL 4 q := List.forall_mem_cons.mpr ⟨zcV (C := (RX4, TX4, 6)) (ps := [606, 607, 608, 14, 609]) (CT_mono (c_X4_renew hl0)) (by decide +kernel) rfl ⟨rfl, by decide +kernel, by decide +kernel, by decide +kernel⟩ (by decide) (by decide), fun _ h => absurd h List.not_mem_nil⟩
def sp_L_renew : zSpec := fun args w Q _ => ∃ α ν a, args = [.ref 0, .int a] ∧ w = WX α ν [] ∧ sp_X4_renew [.ref 0, .int a] (WX α ν []) (zQi Q) (zXi Q)
set_option maxHeartbeats 4000000 in
set_option maxRecDepth 20000 in
theorem c_L_renew {l : Launch} (hl0 : l.stackTraces = false) : CT l yL_renew (.codeWith yL_renew cL_renew 3 (some .int) (zHdS 5 hd_L_renew)) 4 2 12 false sp_L_renew := by
  refine zCT_ofH (own := RL) cs_L_renew pg_L_renew 5 hd_L_renew rfl (by decide +kernel) hp_L_renew ⟨_, _, rfl, rfl⟩ (hcs_L_renew hl0) hhd_L_renew (fun args w Q X h => ?_)
  obtain ⟨α, ν, a, rfl, rfl, hSp⟩ := h
  refine ⟨Nat.le_of_ble_eq_true rfl, 40, [], ?_, fun q hq => absurd hq List.not_mem_nil⟩
  (conv => whnf)
  refine ⟨_, _, hSp, fun rv w9 hq => ?_, fun E w9 hx => ?_⟩
  · obtain ⟨x, rfl, hq⟩ := hq
    (conv => whnf)
    exact hq
  · obtain ⟨rfl, hq⟩ := hx
    (conv => whnf)
    exact ⟨_, rfl, rfl, by decide +kernel, Nat.le_of_ble_eq_true rfl, Nat.le_of_ble_eq_true rfl, hq⟩
end
section
/-! ===== EchoRegistryLaw: low, cell ===== -/
theorem zand_nn (x : Int32) : ¬ (x &&& 2147483647) < 0 := by
  intro h
  have h1 := Int32.lt_iff_toInt_lt.mp h
  have h2 : (x &&& 2147483647).toInt = (x.toBitVec &&& 2147483647#32).toInt := rfl
  have h3 : (x.toBitVec &&& 2147483647#32).msb = false := by
    rw [BitVec.msb_and]
    have e : (2147483647#32).msb = false := by decide
    rw [e, Bool.and_false]
  have h4 : ((0 : Int32)).toInt = 0 := by decide
  rw [h2, h4, BitVec.toInt_eq_msb_cond, h3] at h1
  simp at h1
  omega
/-- low, by numbers -/
def zlo (x : Int32) (n : Nat) : Nat := (x &&& 2147483647).toNatClampNeg % n
theorem zlo_lt (x : Int32) {n : Nat} (h : 0 < n) : zlo x n < n := Nat.mod_lt _ h
def sp_L_low : zSpec := fun args w Q _ => ∃ x n, 0 < n ∧ n < 2 ^ 31 ∧ args = [.int x, .int (nI n)] ∧ Q (some (.int (nI (zlo x n)))) w
def fl_RL : List (Nat × Nat × Nat) := []
theorem hfl_RL : ∀ q ∈ fl_RL, zFld RL q := zfld_of (ps := []) (by decide +kernel)
def pg_L_low : List zE := [(0, .iload_n 0, 1, []), (1, .ldc 7, 2, []), (3, .iand, 1, []), (4, .iload_n 1, 1, []), (5, .irem, 1, []), (6, .ireturn, 1, [])]
theorem hp_L_low : ∀ q ∈ pg_L_low, decode cL_low q.1 = .ok (q.2.1, q.2.2.1) ∧ ztg q.2.1 q.1 q.2.2.1 q.2.2.2 = true := zpg_of (by decide +kernel)
def cs_L_low : List (Nat × zCall) := []
theorem hcs_L_low {l : Launch} (hl0 : l.stackTraces = false) : ∀ q ∈ cs_L_low, zCallable l RL 1 q := fun _ h => absurd h List.not_mem_nil
def th_L_low : List (Nat × String) := []
theorem hth_L_low : ∀ q ∈ th_L_low, zThrow cL_low RL q := fun _ h => absurd h List.not_mem_nil
def kc_L_low : List (Nat × Int32) := [(7, 2147483647)]
theorem hkc_L_low : ∀ q ∈ kc_L_low, Cond.constant RL q.1 q.2 ∈ zTs := List.forall_mem_cons.mpr ⟨zmem (i := 499) (by decide +kernel) rfl, fun _ h => absurd h List.not_mem_nil⟩
def nw_L_low : List (Nat × Nat × Nat × List Value) := []
theorem hnw_L_low : ∀ q ∈ nw_L_low, zNew RL q := fun _ h => absurd h List.not_mem_nil
set_option maxHeartbeats 4000000 in
set_option maxRecDepth 20000 in
theorem c_L_low {l : Launch} (hl0 : l.stackTraces = false) : CT l yL_low (.code yL_low cL_low 2 (some .int)) 1 0 0 false sp_L_low := by
  refine zCT_of hl0 (own := RL) fl_RL cs_L_low nw_L_low th_L_low kc_L_low (fun _ => []) false pg_L_low rfl (by decide +kernel) hp_L_low ⟨_, _, rfl, rfl⟩ hfl_RL (fun h => nomatch h) (hcs_L_low hl0) hnw_L_low hth_L_low (fun _ _ h => absurd h List.not_mem_nil) hkc_L_low (fun args w Q X v0 hv0 h => ?_)
  obtain ⟨x, n, h0, hn, rfl, hQ⟩ := h
  refine ⟨Nat.le_of_ble_eq_true rfl, 20, [], ?_, fun q hq => absurd hq List.not_mem_nil⟩
  (conv => whnf)
  refine ⟨fun e => ?_, ?_⟩
  · have e2 : n = 0 := (nI_eq hn (by decide)).mp (show nI n = nI 0 from e)
    omega
  (conv => whnf)
  dsimp only [zkon]
  obtain ⟨m, hm, em⟩ := nI_of (zand_nn x)
  unfold zlo at hQ
  rw [em, nI_clamp hm] at hQ
  rw [em, pk_rem hm h0 hn]
  exact hQ
def sp_L_cell : zSpec := fun args w Q _ => ∃ k, k < 2 ^ 31 ∧ args = [.ref 1000, .int (nI k)] ∧ ∀ x, Q (some (.int x)) w
def pg_L_cell : List zE := [(0, .iload_n 1, 1, []), (1, .aload_n 0, 1, []), (2, .arraylength, 1, []), (3, .if_icmp .ge 9, 3, [12]), (6, .aload_n 0, 1, []), (7, .iload_n 1, 1, []), (8, .iaload, 1, []), (9, .goto 11, 3, [20]), (12, .ldc 8, 2, []), (14, .iload_n 1, 1, []), (15, .imul, 1, []), (16, .sipush 977, 3, [977]), (19, .iadd, 1, []), (20, .ireturn, 1, [])]
theorem hp_L_cell : ∀ q ∈ pg_L_cell, decode cL_cell q.1 = .ok (q.2.1, q.2.2.1) ∧ ztg q.2.1 q.1 q.2.2.1 q.2.2.2 = true := zpg_of (by decide +kernel)
def cs_L_cell : List (Nat × zCall) := []
theorem hcs_L_cell {l : Launch} (hl0 : l.stackTraces = false) : ∀ q ∈ cs_L_cell, zCallable l RL 1 q := fun _ h => absurd h List.not_mem_nil
def th_L_cell : List (Nat × String) := []
theorem hth_L_cell : ∀ q ∈ th_L_cell, zThrow cL_cell RL q := fun _ h => absurd h List.not_mem_nil
def kc_L_cell : List (Nat × Int32) := [(8, 40503)]
theorem hkc_L_cell : ∀ q ∈ kc_L_cell, Cond.constant RL q.1 q.2 ∈ zTs := List.forall_mem_cons.mpr ⟨zmem (i := 503) (by decide +kernel) rfl, fun _ h => absurd h List.not_mem_nil⟩
def nw_L_cell : List (Nat × Nat × Nat × List Value) := []
theorem hnw_L_cell : ∀ q ∈ nw_L_cell, zNew RL q := fun _ h => absurd h List.not_mem_nil
set_option maxHeartbeats 4000000 in
set_option maxRecDepth 20000 in
theorem c_L_cell {l : Launch} (hl0 : l.stackTraces = false) : CT l yL_cell (.code yL_cell cL_cell 2 (some .int)) 1 0 0 false sp_L_cell := by
  refine zCT_ofS hl0 (own := RL) fl_RL cs_L_cell nw_L_cell th_L_cell kc_L_cell (fun _ => []) false pg_L_cell rfl (by decide +kernel) hp_L_cell ⟨_, _, rfl, rfl⟩ hfl_RL (fun h => nomatch h) (hcs_L_cell hl0) hnw_L_cell hth_L_cell (fun _ _ h => absurd h List.not_mem_nil) hkc_L_cell (fun args w Q X v0 L xs hv0 hL h => ?_)
  obtain ⟨k, hk, rfl, hQ⟩ := h
  refine ⟨Nat.le_of_ble_eq_true rfl, 40, [], ?_, fun q hq => absurd hq List.not_mem_nil⟩
  (conv => whnf)
  refine And.intro (fun c => ?_) (fun c => ?_)
  · (conv => whnf)
    refine ⟨vp_in_nI ((nI_ltI hk hL).mp c) hL, ?_⟩
    (conv => whnf)
    exact hQ _
  · (conv => whnf)
    exact hQ _
end
section
/-! ===== WHAT CALLS TELL: the claim that holds a shape, the finder, the title; the invariant ===== -/
theorem zleast {P : Nat → Prop} : ∀ c, (∃ j, j < c ∧ P j ∧ ∀ i, i < j → ¬ P i) ∨ ∀ j, j < c → ¬ P j
  | 0 => Or.inr fun j h => absurd h (Nat.not_lt_zero j)
  | c + 1 => by
    rcases zleast (P := P) c with ⟨j, hj, p, q⟩ | h
    · exact Or.inl ⟨j, by omega, p, q⟩
    · by_cases e : P c
      · exact Or.inl ⟨c, by omega, e, h⟩
      · refine Or.inr fun j hj => ?_
        by_cases e2 : j < c
        · exact h j e2
        · have : j = c := by omega
          rw [this]; exact e
section ZOB
variable {α α' : Nat → Nat → Int32} {ν ν' : Nat → Int32} {B : Nat} {s : Int32}
theorem zHR_ex (α : Nat → Nat → Int32) (ν : Nat → Int32) (c : Nat) (s : Int32) : ∃ x, zHR α ν c s x := by
  unfold zHR zHr
  by_cases b : zBad α s
  · exact ⟨-1, Or.inl ⟨b, rfl⟩⟩
  · rcases zleast (P := zP α ν s) c with ⟨j, hj, p, q⟩ | h
    · exact ⟨nI j, Or.inr ⟨b, Or.inl ⟨j, hj, p, q, rfl⟩⟩⟩
    · exact ⟨-1, Or.inr ⟨b, Or.inr ⟨h, rfl⟩⟩⟩
/-- how many claims -/
def zc (ν : Nat → Int32) : Nat := (ν 3).toNatClampNeg
/-- the claim by which a shape has its finder, or -1 -/
noncomputable def zHx (α : Nat → Nat → Int32) (ν : Nat → Int32) (s : Int32) : Int32 := Classical.epsilon (fun x => zHR α ν (zc ν) s x)
theorem zHx_ok (α : Nat → Nat → Int32) (ν : Nat → Int32) (s : Int32) : zHR α ν (zc ν) s (zHx α ν s) := Classical.epsilon_spec (zHR_ex α ν (zc ν) s)
theorem zHx_eq {x : Int32} (h : zHR α ν (zc ν) s x) : x = zHx α ν s := zHr_one Iff.rfl (fun _ _ => Iff.rfl) h (zHx_ok α ν s)
theorem zHx_bad (h : zBad α s) : zHx α ν s = -1 := (zHx_eq (Or.inl ⟨h, rfl⟩)).symm
theorem zHx_or (α : Nat → Nat → Int32) (ν : Nat → Int32) (s : Int32) : zHx α ν s = -1 ∨ ∃ j, j < zc ν ∧ zHx α ν s = nI j ∧ ν 0 < α 10 j ∧ α 3 (α 9 j).toNatClampNeg = s := by
  rcases zHx_ok α ν s with ⟨_, e⟩ | ⟨b, ⟨j, hj, p, q, e⟩ | ⟨_, e⟩⟩
  · exact Or.inl e
  · exact Or.inr ⟨j, hj, e, p.1, p.2⟩
  · exact Or.inl e
theorem zHx_cg (e1 : α' 1 = α 1) (e2 : α' 2 = α 2) (e3 : α' 3 = α 3) (e9 : α' 9 = α 9) (e10 : α' 10 = α 10) (n0 : ν' 0 = ν 0) (n3 : ν' 3 = ν 3) (s : Int32) : zHx α' ν' s = zHx α ν s := by
  have h : (fun x => zHR α' ν' (zc ν') s x) = (fun x => zHR α ν (zc ν) s x) := by
    funext x
    unfold zHR zBad zNm zP zc
    rw [e1, e2, e3, e9, e10, n0, n3]
  unfold zHx
  rw [h]
/-- the finder of a shape -/
noncomputable def zFn (α : Nat → Nat → Int32) (ν : Nat → Int32) (s : Int32) : Int32 := zfd (α 8) (zHx α ν s)
theorem zFn_bad (h : zBad α s) : zFn α ν s = -1 := by
  unfold zFn
  rw [zHx_bad h]
  rfl
noncomputable def zfo (α : Nat → Nat → Int32) (ν : Nat → Int32) (s : Int32) : Option Nat := if zHx α ν s = -1 then none else some (α 8 (zHx α ν s).toNatClampNeg).toNatClampNeg
theorem zFd_eq {fd : Option Nat} (hc : zc ν ≤ 40) (h : zFd α ν (zc ν) s fd) : fd = zfo α ν s := by
  obtain ⟨x, hx, g⟩ := h
  have e := zHx_eq hx
  unfold zfo
  rcases g with ⟨e1, e2⟩ | ⟨j, f, hj, hf, e1, e2, e3⟩
  · rw [← e, e1, if_pos rfl, e2]
  · rw [← e, e1, if_neg (nI_ne_m1 (by omega)), nI_clamp (by omega), e2, nI_clamp (by omega), e3]
/-- a sign of a title -/
noncomputable def zTv (α : Nat → Nat → Int32) (ν : Nat → Int32) (s : Nat) (p : Int32) : Int32 := zTat (zTt α s (zfo α ν (nI s))) p
/-- what the world holds between two calls; B bounds its counters -/
def zIv (B : Nat) (α : Nat → Nat → Int32) (ν : Nat → Int32) : Prop :=
  (zLow (α 0) (α 3) ∧ ∀ c, c < 96 → ∃ h, h ≤ 9 ∧ α 0 c = nI h) ∧
  (∃ o, o ≤ B ∧ ν 2 = nI o ∧ ∀ c, c < 96 → ∃ t, α 5 c = nI t ∧ t ≤ o) ∧
  ((∃ k, k ≤ B ∧ ν 1 = nI k ∧ ∀ c, c < 96 → ∃ j, j ≤ k ∧ α 2 c = nI j) ∧ zTu α) ∧
  ((∀ d, d < 4 → ∃ a, a ≤ 200 ∧ α 6 d = nI a) ∧ ∀ d, d < 4 → ∃ f, f ≤ 1002000 ∧ α 7 d = nI f) ∧
  (∃ t c, (t ≤ 1000000 ∧ ν 0 = nI t) ∧ (c ≤ 40 ∧ ν 3 = nI c) ∧ ∀ j, j < c → (∃ f, f < 6 ∧ α 8 j = nI f) ∧ (∃ k, k < 96 ∧ α 9 j = nI k) ∧ ∃ b, b ≤ t ∧ α 10 j = nI (b + 28800)) ∧
  (∃ h, h ≤ 60 ∧ ν 4 = nI h) ∧ ∃ q, q ≤ 16 ∧ ν 6 = nI q
theorem zIv_mono {B' : Nat} (h : zIv B α ν) (hb : B ≤ B') : zIv B' α ν := by
  obtain ⟨h1, ⟨o, h2, h2'⟩, ⟨⟨k, h3, h3'⟩, h3''⟩, h4, h5, h6, h7⟩ := h
  exact ⟨h1, ⟨o, by omega, h2'⟩, ⟨⟨k, by omega, h3'⟩, h3''⟩, h4, h5, h6, h7⟩
/-- the claims' part, by how many there are -/
theorem zIv_c (h : zIv B α ν) : ∃ t, (t ≤ 1000000 ∧ ν 0 = nI t) ∧ (zc ν ≤ 40 ∧ ν 3 = nI (zc ν)) ∧ ∀ j, j < zc ν → (∃ f, f < 6 ∧ α 8 j = nI f) ∧ (∃ k, k < 96 ∧ α 9 j = nI k) ∧ ∃ b, b ≤ t ∧ α 10 j = nI (b + 28800) := by
  obtain ⟨-, -, -, -, ⟨t, c, ht, ⟨hc, hν⟩, hj⟩, -, -⟩ := h
  have e : zc ν = c := by
    unfold zc
    rw [hν, nI_clamp (by omega)]
  refine ⟨t, ht, ⟨by omega, by rw [e]; exact hν⟩, fun j h => hj j (by omega)⟩
theorem zIv_ck (h : zIv B α ν) : zCk α ν (zc ν) := by
  obtain ⟨t, _, ⟨h1, h2⟩, h3⟩ := zIv_c h
  exact ⟨h1, h2, fun j hj => (h3 j hj).2.1⟩
theorem zIv_8 (h : zIv B α ν) : ∀ j, j < zc ν → ∃ f, f < 6 ∧ α 8 j = nI f := by
  obtain ⟨t, _, _, h3⟩ := zIv_c h
  exact fun j hj => (h3 j hj).1
theorem zIv_le (h : zIv B α ν) : zc ν ≤ 40 := (zIv_ck h).1
theorem zIv_ou (h : zIv B α ν) (hB : B ≤ 1000000) : ∃ o, o ≤ B ∧ zOu α ν o := by
  obtain ⟨-, ⟨o, h1, h2, h3⟩, -⟩ := h
  exact ⟨o, h1, by omega, h2, h3⟩
theorem zfo_lt (h : zIv B α ν) {f : Nat} (e : zfo α ν s = some f) : f < 6 := by
  have h8 := zIv_8 h
  have hc := zIv_le h
  unfold zfo at e
  rcases zHx_or α ν s with e1 | ⟨j, hj, e1, -, -⟩
  · rw [e1, if_pos rfl] at e
    cases e
  · obtain ⟨g, hg, e8⟩ := h8 j hj
    rw [e1, if_neg (nI_ne_m1 (by omega)), nI_clamp (by omega), e8, nI_clamp (by omega)] at e
    cases e
    exact hg
theorem zTv_12 (h : zIv B α ν) (s : Nat) : zTv α ν s (nI 12) = -1 := by
  have hl : (zTt α s (zfo α ν (nI s))).length ≤ 8 := zTtl_l (fun f e => zfo_lt h e)
  unfold zTv zTat
  rw [if_neg (nI_nlt (by omega) (by decide))]
/-- what asking leaves as it was -/
def zSame (α : Nat → Nat → Int32) (ν : Nat → Int32) (α' : Nat → Nat → Int32) (ν' : Nat → Int32) : Prop := (α' 0 = α 0 ∧ α' 1 = α 1 ∧ α' 2 = α 2 ∧ α' 3 = α 3) ∧ (α' 6 = α 6 ∧ α' 7 = α 7) ∧ (α' 8 = α 8 ∧ α' 9 = α 9 ∧ α' 10 = α 10) ∧ (α' 11 = α 11 ∧ α' 12 = α 12 ∧ α' 13 = α 13) ∧ (ν' 0 = ν 0 ∧ ν' 1 = ν 1 ∧ ν' 3 = ν 3 ∧ ν' 4 = ν 4 ∧ ν' 5 = ν 5)
theorem zSame_r (α : Nat → Nat → Int32) (ν : Nat → Int32) : zSame α ν α ν := ⟨⟨rfl, rfl, rfl, rfl⟩, ⟨rfl, rfl⟩, ⟨rfl, rfl, rfl⟩, ⟨rfl, rfl, rfl⟩, rfl, rfl, rfl, rfl, rfl⟩
theorem zSame_t {α'' : Nat → Nat → Int32} {ν'' : Nat → Int32} (h : zSame α ν α' ν') (g : zSame α' ν' α'' ν'') : zSame α ν α'' ν'' := by
  obtain ⟨⟨a0, a1, a2, a3⟩, ⟨a6, a7⟩, ⟨a8, a9, a10⟩, ⟨a11, a12, a13⟩, n0, n1, n3, n4, n5⟩ := h
  obtain ⟨⟨b0, b1, b2, b3⟩, ⟨b6, b7⟩, ⟨b8, b9, b10⟩, ⟨b11, b12, b13⟩, m0, m1, m3, m4, m5⟩ := g
  exact ⟨⟨b0.trans a0, b1.trans a1, b2.trans a2, b3.trans a3⟩, ⟨b6.trans a6, b7.trans a7⟩, ⟨b8.trans a8, b9.trans a9, b10.trans a10⟩, ⟨b11.trans a11, b12.trans a12, b13.trans a13⟩, m0.trans n0, m1.trans n1, m3.trans n3, m4.trans n4, m5.trans n5⟩
theorem zSame_Hx (h : zSame α ν α' ν') (s : Int32) : zHx α' ν' s = zHx α ν s := by
  obtain ⟨⟨a0, a1, a2, a3⟩, ⟨a6, a7⟩, ⟨a8, a9, a10⟩, ⟨a11, a12, a13⟩, n0, n1, n3, n4, n5⟩ := h
  exact zHx_cg a1 a2 a3 a9 a10 n0 n3 s
theorem zSame_Fn (h : zSame α ν α' ν') (s : Int32) : zFn α' ν' s = zFn α ν s := by
  unfold zFn
  rw [zSame_Hx h, h.2.2.1.1]
theorem zSame_Nm (h : zSame α ν α' ν') (s : Int32) : zNm α' s = zNm α s := by
  obtain ⟨⟨a0, a1, a2, a3⟩, -⟩ := h
  unfold zNm
  rw [a1, a2, a3]
theorem zSame_Tv (h : zSame α ν α' ν') (s : Nat) (p : Int32) : zTv α' ν' s p = zTv α ν s p := by
  unfold zTv zTt zfo
  rw [zSame_Hx h, zSame_Nm h, h.2.2.1.1, h.1.2.2.2]
theorem zIv_ttl {a : Nat → Int32} {y : Int32} {q : Nat} (h : zIv B α ν) (hq : q ≤ 16) : zIv B (zu α 14 a) (zu (zu ν 7 y) 6 (nI q)) := by
  obtain ⟨h1, h2, h3, h4, h5, h6, h7⟩ := h
  exact ⟨h1, h2, h3, h4, h5, h6, q, hq, rfl⟩
theorem zSame_ttl (α : Nat → Nat → Int32) (ν : Nat → Int32) (a : Nat → Int32) (y v : Int32) : zSame α ν (zu α 14 a) (zu (zu ν 7 y) 6 v) := ⟨⟨rfl, rfl, rfl, rfl⟩, ⟨rfl, rfl⟩, ⟨rfl, rfl, rfl⟩, ⟨rfl, rfl, rfl⟩, rfl, rfl, rfl, rfl, rfl⟩
theorem zIv_fbs {a4 a5 : Nat → Int32} {o : Nat} (h : zIv B α ν) (ho : o ≤ B) (h5 : ∀ c, c < 96 → ∃ t, a5 c = nI t ∧ t ≤ o + 1) : zIv (B + 1) (zu (zu α 5 a5) 4 a4) (zu ν 2 (nI (o + 1))) := by
  obtain ⟨h1, h2, ⟨⟨k, h3, h3'⟩, h3''⟩, h4, h5', h6, h7⟩ := h
  exact ⟨h1, ⟨o + 1, by omega, rfl, h5⟩, ⟨⟨k, by omega, h3'⟩, h3''⟩, h4, h5', h6, h7⟩
theorem zSame_fbs (α : Nat → Nat → Int32) (ν : Nat → Int32) (a4 a5 : Nat → Int32) (v : Int32) : zSame α ν (zu (zu α 5 a5) 4 a4) (zu ν 2 v) := ⟨⟨rfl, rfl, rfl, rfl⟩, ⟨rfl, rfl⟩, ⟨rfl, rfl, rfl⟩, ⟨rfl, rfl, rfl⟩, rfl, rfl, rfl, rfl, rfl⟩
/-- the rewards and what the law kept -/
def zSu (α : Nat → Nat → Int32) (ν : Nat → Int32) : Nat → Int32
  | 0 => ν 5
  | n + 1 => zSu α ν n + α 13 n
theorem zSu_cg (e : α' 13 = α 13) (e5 : ν' 5 = ν 5) : ∀ n, zSu α' ν' n = zSu α ν n
  | 0 => e5
  | n + 1 => by
    show zSu α' ν' n + α' 13 n = zSu α ν n + α 13 n
    rw [zSu_cg e e5 n, e]
theorem zSu_kept {v : Int32} (e : α' 13 = α 13) (e5 : ν' 5 = ν 5 + v) : ∀ n, zSu α' ν' n = zSu α ν n + v
  | 0 => e5
  | n + 1 => by
    show zSu α' ν' n + α' 13 n = zSu α ν n + α 13 n + v
    rw [zSu_kept e e5 n, e]
    ac_rfl
theorem zSu_lo {f : Nat} {x v : Int32} (e : α' 13 = upd (α 13) f x) (e5 : ν' 5 = ν 5 + v) : ∀ n, n ≤ f → zSu α' ν' n = zSu α ν n + v
  | 0, _ => e5
  | n + 1, h => by
    show zSu α' ν' n + α' 13 n = zSu α ν n + α 13 n + v
    rw [zSu_lo e e5 n (by omega), e, pk_un (by omega)]
    ac_rfl
theorem zSu_hi {f : Nat} {x v : Int32} (e : α' 13 = upd (α 13) f (α 13 f + x)) (e5 : ν' 5 = ν 5 + v) : ∀ n, f < n → zSu α' ν' n = zSu α ν n + (v + x)
  | 0, h => absurd h (Nat.not_lt_zero f)
  | n + 1, h => by
    show zSu α' ν' n + α' 13 n = zSu α ν n + α 13 n + (v + x)
    by_cases e1 : n = f
    · subst e1
      rw [zSu_lo e e5 n (Nat.le_refl n), e, pk_us]
      ac_rfl
    · rw [zSu_hi e e5 n (by omega), e, pk_un e1]
      ac_rfl
/-! pure facts of shapes -/
theorem zcnt_m1 (f : Nat → Int32) : ∀ n, zcnt f (-1) n = 0
  | 0 => rfl
  | n + 1 => (zcnt_f (fun h => h.1 rfl)).trans (zcnt_m1 f n)
theorem znm_m1 (f t m : Nat → Int32) : ∀ n, znm f t m (-1) n = (0, 0)
  | 0 => rfl
  | n + 1 => (znm_f (Or.inl (fun h => h.1 rfl))).trans (znm_m1 f t m n)
theorem zmx_m1 (f h : Nat → Int32) : ∀ n, zmx f h (-1) n = 0
  | 0 => rfl
  | n + 1 => (zmx_f (fun h => h.1 rfl)).trans (zmx_m1 f h n)
theorem zmx_ge {f h : Nat → Int32} {k : Nat} (hs : s ≠ -1) (hk : f k = s) : ∀ n, k < n → ¬ zmx f h s n < h k
  | 0, q => absurd q (Nat.not_lt_zero k)
  | n + 1, hn => by
    by_cases q : s ≠ -1 ∧ f n = s
    · rw [zmx_t q]
      by_cases e : k = n
      · subst e
        split
        · exact i32_irrefl _
        · assumption
      · have ih := zmx_ge (h := h) hs hk n (by omega)
        split
        · rename_i g
          intro g2
          apply ih
          rw [Int32.lt_iff_toInt_lt] at g g2 ⊢
          omega
        · exact ih
    · rw [zmx_f q]
      have : k ≠ n := fun e => q ⟨hs, e ▸ hk⟩
      exact zmx_ge hs hk n (by omega)
theorem zLow_rep {h f : Nat → Int32} {k j : Nat} (hl : zLow h f) (hk : k < 96) (hj : j < 96) (e : f k = nI j) : j ≤ k ∧ f j = nI j ∧ h k ≠ 0 := by
  rcases hl k hk with ⟨_, e1⟩ | ⟨h0, i, e1, g, m⟩
  · exact absurd (e.symm.trans e1) (nI_ne_m1 (by omega))
  · have hi := (zcon_beg g).1
    have : j = i := nI_inj (by omega) (by omega) (e.symm.trans e1)
    subst this
    refine ⟨m k (zcon_refl hk h0), ?_, h0⟩
    rcases hl j hj with ⟨e0, _⟩ | ⟨_, i, e2, g2, m2⟩
    · exact absurd e0 (zcon_beg g).2
    · have h1 : j ≤ i := m i (zcon_trans g2 g)
      have h2 : i ≤ j := m2 j (zcon_refl hj (zcon_beg g).2)
      have : i = j := by omega
      rw [e2, this]
/-- the mark laid last tells the name -/
theorem znm_last {f t m : Nat → Int32} {k : Nat} {T : Nat} (hk : k < 96) (hs : s ≠ -1) (hf : f k = s) (ht : t k = nI T) (h0 : 0 < T) (hT : T < 2 ^ 31) (hlt : ∀ c, c < 96 → c ≠ k → ∃ j, j < T ∧ t c = nI j) : (znm f t m s 96).2 = m k := by
  rcases znm_mxp f t m s 96 with ⟨a, _⟩ | ⟨c, ⟨hc, _⟩, b, e, g⟩
  · have := a k ⟨hk, hs, hf⟩
    rw [ht] at this
    exact absurd (nI_lt (a := 0) h0 hT) this
  · rw [e]
    by_cases e2 : c = k
    · rw [e2]
    · obtain ⟨j, hj, ej⟩ := hlt c hc e2
      have := g k ⟨hk, hs, hf⟩
      rw [ht, ej] at this
      exact absurd (nI_lt hj hT) this
end ZOB
end
section
/-! ===== THE CALLS OVER THE INVARIANT ===== -/
theorem zupd_ex {g : Nat → Int32} {v : Int32} {N M d : Nat} (h : ∀ d, d < N → ∃ a, a ≤ M ∧ g d = nI a) (hv : ∃ a, a ≤ M ∧ v = nI a) : ∀ d', d' < N → ∃ a, a ≤ M ∧ upd g d v d' = nI a := fun d' hd' => by
  by_cases e : d' = d
  · rw [e, pk_us]; exact hv
  · rw [pk_un e]; exact h d' hd'
section ZKP
variable {α α' : Nat → Nat → Int32} {ν ν' : Nat → Int32} {B k d j : Nat} {Q : Option Value → zW → Prop} {X : String → zW → Prop}
theorem k_ask {g : (Nat → Nat → Int32) → Nat → Int32} (hk : k < 96) (h : Q (some (.int (g α k))) (WX α ν [])) : zAsk g [.ref 0, .int (nI k)] (WX α ν []) Q X :=
  ⟨α, ν, [], nI k, rfl, rfl, fun c => absurd (vp_in_nI hk (by decide)) c, fun k' hk' e => by
    have ek : k = k' := nI_inj (by omega) (by omega) e
    subst ek
    exact h⟩
theorem k_shapeOf (hk : k < 96) (h : Q (some (.int (α 3 k))) (WX α ν [])) : sp_X4_shapeOf [.ref 0, .int (nI k)] (WX α ν []) Q X := k_ask (g := fun α k => α 3 k) hk h
theorem k_size (hk : k < 96) (h : Q (some (.int (nI (zcnt (α 3) (α 3 k) 96)))) (WX α ν [])) : sp_X4_size [.ref 0, .int (nI k)] (WX α ν []) Q X := k_ask (g := fun α k => nI (zcnt (α 3) (α 3 k) 96)) hk h
theorem k_top (hk : k < 96) (h : Q (some (.int (zmx (α 3) (α 0) (α 3 k) 96))) (WX α ν [])) : sp_X4_top [.ref 0, .int (nI k)] (WX α ν []) Q X := k_ask (g := fun α k => zmx (α 3) (α 0) (α 3 k) 96) hk h
theorem k_nameOf (hk : k < 96) (h : Q (some (.int (zNm α (α 3 k)))) (WX α ν [])) : sp_X4_nameOf [.ref 0, .int (nI k)] (WX α ν []) Q X := k_ask (g := fun α k => zNm α (α 3 k)) hk h
theorem k_shapes (h : Q (some (.int (nI (zcs (α 3) 96)))) (WX α ν [])) : sp_X4_shapes [.ref 0] (WX α ν []) Q X := ⟨α, ν, [], rfl, rfl, h⟩
theorem k_minute (h : Q (some (.int (ν 0))) (WX α ν [])) : sp_X4_minute [.ref 0] (WX α ν []) Q X := ⟨α, ν, [], rfl, rfl, h⟩
theorem k_things (h : Q (some (.int (ν 4))) (WX α ν [])) : sp_X4_things [.ref 0] (WX α ν []) Q X := ⟨α, ν, [], rfl, rfl, h⟩
theorem k_kept (h : Q (some (.int (ν 5))) (WX α ν [])) : sp_X4_kept [.ref 0] (WX α ν []) Q X := ⟨α, ν, [], rfl, rfl, h⟩
theorem k_claims (hv : zIv B α ν) (h : Q (some (.int (nI (zc ν)))) (WX α ν [])) : sp_X4_claims [.ref 0] (WX α ν []) Q X := ⟨α, ν, [], rfl, rfl, by rw [(zIv_ck hv).2.1]; exact h⟩
theorem k_titleAt {p : Nat} (hv : zIv B α ν) (hk : k < 96) (hp : p < 100) (h1 : α 3 k = -1 → Q (some (.int (-1))) (WX α ν [])) (h2 : ∀ s α' ν', s < 96 → α 3 k = nI s → zSame α ν α' ν' → zIv B α' ν' → Q (some (.int (zTv α ν s (nI p)))) (WX α' ν' [])) : sp_X4_titleAt [.ref 0, .int (nI k), .int (nI p)] (WX α ν []) Q X := by
  have hc := zIv_ck hv
  obtain ⟨q, hq, hq6⟩ : ∃ q, q ≤ 16 ∧ ν 6 = nI q := hv.2.2.2.2.2.2
  refine ⟨α, ν, [], zc ν, q, nI k, nI p, hc, zIv_8 hv, hq, hq6, hv.1.1, rfl, rfl, fun c => absurd c (fun c => c.elim (fun c => c (vp_in_nI hk (by decide))) (fun c => nI_pos (by omega) c)), ?_⟩
  intro k' hk' e hp'
  have ek : k = k' := nI_inj (by omega) (by omega) e
  subst ek
  refine ⟨h1, fun s fd y hs es hfd => ?_⟩
  have ef := zFd_eq hc.1 hfd
  subst ef
  have hl : (zTt α s (zfo α ν (nI s))).length ≤ 8 := zTtl_l (fun f e => zfo_lt hv e)
  exact h2 s _ _ hs es (zSame_ttl α ν _ _ _) (zIv_ttl hv (by omega))
theorem k_finder (hv : zIv B α ν) (hk : k < 96) (h : Q (some (.int (zFn α ν (α 3 k)))) (WX α ν [])) : sp_X4_finder [.ref 0, .int (nI k)] (WX α ν []) Q X :=
  ⟨α, ν, [], zc ν, nI k, zIv_ck hv, rfl, rfl, fun c => absurd (vp_in_nI hk (by decide)) c, fun k' hk' e z hz => by
    have ek : k = k' := nI_inj (by omega) (by omega) e
    subst ek
    have ez := zHx_eq hz
    subst ez
    exact h⟩
theorem k_fbs (hv : zIv B α ν) (hB : B ≤ 900000) (hk : k < 96) (h : ∀ α' ν', zSame α ν α' ν' → zIv (B + 1) α' ν' → Q (some (.int (zFn α ν (α 3 k)))) (WX α' ν' [])) : sp_X4_finderBySoundings [.ref 0, .int (nI k)] (WX α ν []) Q X := by
  obtain ⟨o, ho, hou⟩ := zIv_ou hv (by omega)
  refine ⟨α, ν, [], o, zc ν, nI k, hou, zIv_ck hv, hv.1.1, hv.2.2.1.2, rfl, rfl, fun c => absurd (vp_in_nI hk (by decide)) c, ?_⟩
  intro k' hk' e z a4 a5 hz h5
  have ek : k = k' := nI_inj (by omega) (by omega) e
  subst ek
  have ez := zHx_eq hz
  subst ez
  exact h _ _ (zSame_fbs α ν _ _ _) (zIv_fbs hv ho h5)
theorem k_holds (hv : zIv B α ν) (hj : j < zc ν) (h : zB Q (zHx α ν (α 3 (α 9 j).toNatClampNeg) = nI j) (WX α ν [])) : sp_X4_holds [.ref 0, .int (nI j)] (WX α ν []) Q X := by
  have hc := zIv_le hv
  refine ⟨α, ν, [], zc ν, nI j, zIv_ck hv, rfl, rfl, fun c => absurd (vp_in_nI hj (by omega)) c, ?_⟩
  intro j' b hj' hb e e9 z hz
  have ek : j = j' := nI_inj (by omega) (by omega) e
  subst ek
  have ez := zHx_eq hz
  subst ez
  rw [e9, nI_clamp (by omega)] at h
  exact h
theorem k_runs (hv : zIv B α ν) (hj : j < zc ν) (h : zB Q (ν 0 < α 10 j) (WX α ν [])) : sp_X4_runs [.ref 0, .int (nI j)] (WX α ν []) Q X := by
  have hc := zIv_ck hv
  have hc1 := hc.1
  refine ⟨α, ν, [], zc ν, nI j, hc.1, hc.2.1, rfl, rfl, fun c => absurd (vp_in_nI hj (by omega)) c, ?_⟩
  intro j' hj' e
  have ek : j = j' := nI_inj (by omega) (by omega) e
  subst ek
  exact h
theorem k_reward (hj : j < 6) (h : Q (some (.int (α 13 j))) (WX α ν [])) : sp_X4_reward [.ref 0, .int (nI j)] (WX α ν []) Q X :=
  ⟨α, ν, [], nI j, rfl, rfl, fun c => absurd (vp_in_nI hj (by decide)) c, fun k' hk' e => by
    have ek : j = k' := nI_inj (by omega) (by omega) e
    subst ek
    exact h⟩
theorem k_air (hd : d < 4) (h : Q (some (.int (α 6 d))) (WX α ν [])) : sp_X4_air [.ref 0, .int (nI d)] (WX α ν []) Q X :=
  ⟨α, ν, [], nI d, rfl, rfl, fun c => absurd (vp_in_nI hd (by decide)) c, fun k' hk' e => by
    have ek : d = k' := nI_inj (by omega) (by omega) e
    subst ek
    exact h⟩
theorem k_rest (hd : d < 4) (h : Q (some (.int (zrst (α 7 d) (ν 0)))) (WX α ν [])) : sp_X4_rest [.ref 0, .int (nI d)] (WX α ν []) Q X :=
  ⟨α, ν, [], nI d, rfl, rfl, fun c => absurd (vp_in_nI hd (by decide)) c, fun k' hk' e => by
    have ek : d = k' := nI_inj (by omega) (by omega) e
    subst ek
    exact h⟩
theorem k_longest {a : Nat} (hv : zIv B α ν) (hd : d < 4) (hk : k < 96) (ha : a ≤ 200) (ea : α 6 d = nI a) (h : Q (some (.int (nI (min (a / zau k) 60)))) (WX α ν [])) : sp_X4_longest [.ref 0, .int (nI d), .int (nI k)] (WX α ν []) Q X := by
  refine ⟨α, ν, [], nI d, nI k, hv.2.2.2.1.1, rfl, rfl, fun c => absurd c (fun c => c.elim (fun c => c (vp_in_nI hd (by decide))) (fun c => c (vp_in_nI hk (by decide)))), ?_⟩
  intro d' k' a' hd' hk' e1 e2 ha' ea'
  have ed : d = d' := nI_inj (by omega) (by omega) e1
  have ek : k = k' := nI_inj (by omega) (by omega) e2
  subst ed; subst ek
  have eaa : a = a' := nI_inj (by omega) (by omega) (ea.symm.trans ea')
  subst eaa
  exact h
theorem k_thing {i : Nat} (hv : zIv B α ν) {n : Nat} (hν : ν 4 = nI n) (hn : n ≤ 60) (hj : j < n) (h : Q (some (.int (α i j))) (WX α ν [])) : zThg i [.ref 0, .int (nI j)] (WX α ν []) Q X := by
  refine ⟨α, ν, [], n, nI j, hn, hν, rfl, rfl, fun c => absurd (vp_in_nI hj (by omega)) c, ?_⟩
  intro j' hj' e
  have ek : j = j' := nI_inj (by omega) (by omega) e
  subst ek
  exact h
/-! the calls that change -/
theorem zFn_cg (e1 : α' 1 = α 1) (e2 : α' 2 = α 2) (e3 : α' 3 = α 3) (e8 : α' 8 = α 8) (e9 : α' 9 = α 9) (e10 : α' 10 = α 10) (n0 : ν' 0 = ν 0) (n3 : ν' 3 = ν 3) (s : Int32) : zFn α' ν' s = zFn α ν s := by
  unfold zFn
  rw [zHx_cg e1 e2 e3 e9 e10 n0 n3, e8]
theorem zIv_snd {hn f a4 a5 : Nat → Int32} {o' : Nat} (hv : zIv B α ν) (h9 : ∀ c, c < 96 → ∃ h, h ≤ 9 ∧ hn c = nI h) (hl : zLow hn f) (ho : o' ≤ B + 96) (h5 : ∀ c, c < 96 → ∃ t, a5 c = nI t ∧ t ≤ o') : zIv (B + 96) (zu (zu (zu (zu α 0 hn) 5 a5) 4 a4) 3 f) (zu ν 2 (nI o')) := by
  obtain ⟨h1, h2, ⟨⟨q, h3, h3'⟩, h3''⟩, h4, h5', h6, h7⟩ := hv
  exact ⟨⟨hl, h9⟩, ⟨o', ho, rfl, h5⟩, ⟨⟨q, by omega, h3'⟩, h3''⟩, h4, h5', h6, h7⟩
theorem k_sound {h : Nat} (hv : zIv B α ν) (hB : B ≤ 900000) (hk : k < 96) (hh : h ≤ 9) (H : ∀ α' ν', zIv (B + 96) α' ν' → α' 0 k = nI h → α' 13 = α 13 → ν' 5 = ν 5 → Q (some (.int (α 0 k))) (WX α' ν' [])) : sp_X4_sound [.ref 0, .int (nI k), .int (nI h)] (WX α ν []) Q X := by
  obtain ⟨o, ho, hou⟩ := zIv_ou hv (by omega)
  refine ⟨α, ν, [], o, nI k, nI h, hou, rfl, rfl, fun c => absurd (vp_in_nI hk (by decide)) c, ?_⟩
  intro k' hk' e
  have ek : k = k' := nI_inj (by omega) (by omega) e
  subst ek
  refine ⟨fun c => absurd c (fun c => c.elim (nI_nlt (Nat.zero_le h) (by omega)) (nI_nlt hh (by decide))), fun _ _ f a4 a5 o' hl ho' h5 => H _ _ ?_ ?_ rfl rfl⟩
  · exact zIv_snd hv (zupd_ex hv.1.2 ⟨h, hh, rfl⟩) hl (by omega) h5
  · show upd (α 0) k (nI h) k = nI h
    rw [pk_us]
theorem k_sweep {n h : Nat} (hv : zIv B α ν) (hB : B ≤ 900000) (hk : k < 96) (h1 : 1 ≤ n) (hn : n ≤ 12 - k % 12) (hh : h ≤ 9) (H : ∀ α' ν', zIv (B + 96) α' ν' → α' 13 = α 13 → ν' 5 = ν 5 → Q (some (.int (nI (zcs (α' 3) 96)))) (WX α' ν' [])) : sp_X4_sweep [.ref 0, .int (nI k), .int (nI n), .int (nI h)] (WX α ν []) Q X := by
  obtain ⟨o, ho, hou⟩ := zIv_ou hv (by omega)
  refine ⟨α, ν, [], o, nI k, nI n, nI h, hou, rfl, rfl, fun c => absurd (vp_in_nI hk (by decide)) c, ?_⟩
  intro k' hk' e
  have ek : k = k' := nI_inj (by omega) (by omega) e
  subst ek
  refine ⟨fun c => absurd c (fun c => c.elim (fun c => c.elim (nI_nlt h1 (by omega)) (nI_nlt hn (by omega))) (fun c => c.elim (nI_nlt (Nat.zero_le h) (by omega)) (nI_nlt hh (by decide)))), fun n' en hn' _ _ _ _ f a4 a5 o' hl ho' h5 => H (zu (zu (zu (zu α 0 (zsv (α 0) k (nI h) n')) 5 a5) 4 a4) 3 f) (zu ν 2 (nI o')) ?_ rfl rfl⟩
  refine zIv_snd hv (fun c hc => ?_) hl (by omega) h5
  unfold zsv
  split
  · exact ⟨h, hh, rfl⟩
  · exact hv.1.2 c hc
/-- a dive: the air and the minute from which on the diver is free -/
theorem zDive (hv : zIv B α ν) (hd : d < 4) (hk : k < 96) (h1 : 1 ≤ j) (hj : j ≤ 60) (hdv : zDv α ν d k j) : (∃ a a', α 6 d = nI a ∧ α 6 d - nI (j * zau k) = nI a' ∧ a' < a ∧ a ≤ 200) ∧ (∃ g, g ≤ 1002000 ∧ ν 0 + nI j + nI (j * (10 * (k / 12 + 1)) / 20) = nI g ∧ ∃ r, zrst (nI g) (ν 0) = nI r ∧ j ≤ r ∧ r ≤ 1000) := by
  obtain ⟨t, ⟨ht, et⟩, -⟩ := zIv_c hv
  obtain ⟨a, ha, ea⟩ := hv.2.2.2.1.1 d hd
  have hz : zau k ≤ 9 := by unfold zau; omega
  have hz1 : 2 ≤ zau k := by unfold zau; omega
  have hm : j * zau k ≤ 60 * 9 := Nat.mul_le_mul hj hz
  have hm1 : 1 * 2 ≤ j * zau k := Nat.mul_le_mul h1 hz1
  have hm2 : j * (10 * (k / 12 + 1)) ≤ 60 * (10 * (k / 12 + 1)) := Nat.mul_le_mul_right _ hj
  have hle : j * zau k ≤ a := by
    apply Classical.byContradiction
    intro q
    apply hdv.2
    rw [ea]
    exact nI_lt (by omega) (by omega)
  refine ⟨⟨a, a - j * zau k, ea, by rw [ea, pk_sub hle], by omega, ha⟩, t + j + j * (10 * (k / 12 + 1)) / 20, by omega, by rw [et, nI_add, nI_add], j + j * (10 * (k / 12 + 1)) / 20, ?_, by omega, by omega⟩
  unfold zrst
  rw [et, pk_sub (by omega), show t + j + j * (10 * (k / 12 + 1)) / 20 - t = j + j * (10 * (k / 12 + 1)) / 20 by omega]
  exact if_pos (show (0 : Int32) < _ from nI_lt (a := 0) (by omega) (by omega))
/-- a mark laid -/
theorem zTu_lay {m : Nat} (h : zTu α) (hb : ∀ c, c < 96 → ∃ j, j ≤ m ∧ α 2 c = nI j) (hm : m + 1 < 2 ^ 31) (e : α' 2 = upd (α 2) k (nI (m + 1))) : zTu α' := by
  intro c d hc hd
  rw [e]
  intro e1 e2
  by_cases h1 : c = k
  · by_cases h2 : d = k
    · rw [h1, h2]
    · rw [h1, pk_us, pk_un h2] at e1
      obtain ⟨j, hj, ej⟩ := hb d hd
      have := nI_inj (by omega) (by omega) (e1.trans ej)
      omega
  · by_cases h2 : d = k
    · rw [h2, pk_us, pk_un h1] at e1
      obtain ⟨j, hj, ej⟩ := hb c hc
      have := nI_inj (by omega) (by omega) (e1.symm.trans ej)
      omega
    · rw [pk_un h1, pk_un h2] at e1
      rw [pk_un h1] at e2
      exact h c d hc hd e1 e2
theorem k_name {m : Nat} (hv : zIv B α ν) (hB : B ≤ 900000) (hd : d < 4) (hk : k < 96) (j5 : 5 ≤ j) (hj : j ≤ 60) (m1 : 1 ≤ m) (m3 : m ≤ 3) (H1 : Q (some (.int (-nI 3))) (WX α ν []))
    (H2 : ∀ α' ν' v, zIv (B + 1) α' ν' → (∃ a a', α 6 d = nI a ∧ α' 6 d = nI a' ∧ a' < a ∧ a ≤ 200) → (∃ r, zrst (α' 7 d) (ν' 0) = nI r ∧ j ≤ r ∧ r ≤ 1000) → v = zNm α' (α' 3 k) → (v = 0 ∨ v = nI m) → α' 13 = α 13 → ν' 5 = ν 5 → Q (some (.int v)) (WX α' ν' [])) : sp_L_name [.ref 0, .int (nI d), .int (nI k), .int (nI j), .int (nI m)] (WX α ν []) Q X := by
  refine ⟨α, ν, _, _, _, _, rfl, rfl, α, ν, [], _, _, _, _, rfl, rfl, fun c => absurd c (fun c => c.elim (fun c => c (vp_in_nI hd (by decide))) (fun c => c (vp_in_nI hk (by decide)))), ?_⟩
  intro d' k' hd' hk' e1 e2
  have ed : d = d' := nI_inj (by omega) (by omega) e1
  have ek : k = k' := nI_inj (by omega) (by omega) e2
  subst ed; subst ek
  refine ⟨fun c => absurd c (fun c => c.elim (fun c => c.elim (nI_nlt j5 (by omega)) (nI_nlt hj (by decide))) (fun c => c.elim (nI_nlt m1 (by omega)) (nI_nlt m3 (by decide)))), ?_⟩
  intro j' hj' ej _ _ _ _
  have ejj : j = j' := nI_inj (by omega) (by omega) ej
  subst ejj
  refine ⟨fun _ => ⟨rfl, H1⟩, fun hdv => ⟨_, rfl, ?_⟩⟩
  obtain ⟨⟨a, a', a1, a2, a3, a4⟩, g, hg, eg, r, er, r1, r2⟩ := zDive hv hd hk (by omega) hj hdv
  obtain ⟨h1, ⟨o, h2, h2'⟩, ⟨⟨q, h3, h3a, h3b⟩, h3''⟩, ⟨h4, h4'⟩, h5, h6, h7⟩ := hv
  have e9 : ν 1 + nI 1 = nI (q + 1) := by rw [h3a, nI_add]
  refine H2 _ _ _ ⟨h1, ⟨o, by omega, h2'⟩, ⟨⟨q + 1, by omega, e9, ?_⟩, ?_⟩, ⟨?_, ?_⟩, h5, h6, h7⟩ ⟨a, a', a1, ?_, a3, a4⟩ ⟨r, ?_, r1, r2⟩ rfl ?_ rfl rfl
  · exact zupd_ex (fun c hc => by obtain ⟨i, hi, ei⟩ := h3b c hc; exact ⟨i, by omega, ei⟩) ⟨q + 1, Nat.le_refl _, e9⟩
  · exact zTu_lay (α := α) (k := k) (m := q) h3'' h3b (by omega) (by show upd (α 2) k (ν 1 + nI 1) = _; rw [e9])
  · exact zupd_ex h4 ⟨a', by omega, a2⟩
  · exact zupd_ex h4' ⟨g, hg, eg⟩
  · show upd (α 6) d (α 6 d - nI (j * zau k)) d = nI a'
    rw [pk_us, a2]
  · show zrst (upd (α 7) d (ν 0 + nI j + nI (j * (10 * (k / 12 + 1)) / 20)) d) (ν 0) = nI r
    rw [pk_us, eg, er]
  · by_cases es : α 3 k = -1
    · rw [es, znm_m1]
      exact Or.inl rfl
    · refine Or.inr ?_
      rw [znm_last (T := q + 1) hk es rfl (by rw [pk_us, e9]) (by omega) (by omega) (fun c hc hne => ?_), pk_us]
      obtain ⟨i, hi, ei⟩ := h3b c hc
      exact ⟨i, by omega, by rw [pk_un hne]; exact ei⟩
theorem k_raise {u : Nat} (hv : zIv B α ν) (hd : d < 4) (hk : k < 96) (j1 : 10 ≤ j) (hj : j ≤ 60) (u1 : 1 ≤ u) (hu : u ≤ 100000) (H1 : Q (some (.int (-nI 3))) (WX α ν []))
    (H2 : ∀ α' ν' h, h < 60 → ν 4 = nI h → zIv B α' ν' → ν' 4 = nI (h + 1) → α' 11 h = α' 3 k → α' 12 h = zFn α' ν' (α' 3 k) → zSu α' ν' 6 = zSu α ν 6 + nI u → Q (some (.int (nI h))) (WX α' ν' [])) : sp_L_raise [.ref 0, .int (nI d), .int (nI k), .int (nI j), .int (nI u)] (WX α ν []) Q X := by
  have hck := zIv_ck hv
  have h8 := zIv_8 hv
  obtain ⟨h, hh, hν⟩ : ∃ h, h ≤ 60 ∧ ν 4 = nI h := hv.2.2.2.2.2.1
  refine ⟨α, ν, _, _, _, _, rfl, rfl, α, ν, [], zc ν, h, _, _, _, _, hck, h8, hh, hν, rfl, rfl, fun c => absurd c (fun c => c.elim (fun c => c (vp_in_nI hd (by decide))) (fun c => c (vp_in_nI hk (by decide)))), ?_⟩
  intro d' k' hd' hk' e1 e2
  have ed : d = d' := nI_inj (by omega) (by omega) e1
  have ek : k = k' := nI_inj (by omega) (by omega) e2
  subst ed; subst ek
  refine ⟨fun c => absurd c (fun c => c.elim (fun c => c.elim (nI_nlt j1 (by omega)) (nI_nlt hj (by decide))) (fun c => c.elim (nI_nlt u1 (by omega)) (nI_nlt hu (by decide)))), ?_⟩
  intro j' u' hj' ej hu' eu _ _ _ _
  have ejj : j = j' := nI_inj (by omega) (by omega) ej
  have euu : u = u' := nI_inj (by omega) (by omega) eu
  subst ejj; subst euu
  refine ⟨fun _ => ⟨rfl, H1⟩, fun hdv hb h60 z hz => ?_⟩
  have ez := zHx_eq hz
  obtain ⟨⟨a, a', a1, a2, a3, a4⟩, g, hg, eg, -⟩ := zDive hv hd hk (by omega) hj hdv
  obtain ⟨h1, h2, h3, ⟨h4, h4'⟩, h5, h6, h7⟩ := hv
  refine ⟨fun e => ⟨_, rfl, ?_⟩, fun i f hi e hf e8 => ⟨_, rfl, ?_⟩⟩
  · refine H2 _ _ h h60 hν ⟨h1, h2, h3, ⟨zupd_ex h4 ⟨a', by omega, a2⟩, zupd_ex h4' ⟨g, hg, eg⟩⟩, h5, ⟨h + 1, by omega, rfl⟩, h7⟩ rfl ?_ ?_ (zSu_kept rfl rfl 6)
    · show upd (α 11) h (α 3 k) h = α 3 k
      rw [pk_us]
    · refine Eq.trans (b := zFn α ν (α 3 k)) ?_ (zFn_cg rfl rfl rfl rfl rfl rfl rfl rfl (α 3 k)).symm
      show upd (α 12) h (-1) h = zfd (α 8) (zHx α ν (α 3 k))
      rw [pk_us, ← ez, e]
      rfl
  · refine H2 _ _ h h60 hν ⟨h1, h2, h3, ⟨zupd_ex h4 ⟨a', by omega, a2⟩, zupd_ex h4' ⟨g, hg, eg⟩⟩, h5, ⟨h + 1, by omega, rfl⟩, h7⟩ rfl ?_ ?_ ?_
    · show upd (α 11) h (α 3 k) h = α 3 k
      rw [pk_us]
    · refine Eq.trans (b := zFn α ν (α 3 k)) ?_ (zFn_cg rfl rfl rfl rfl rfl rfl rfl rfl (α 3 k)).symm
      show upd (α 12) h (nI f) h = zfd (α 8) (zHx α ν (α 3 k))
      have := hck.1
      rw [pk_us, ← ez, e, zfd_j _ (by omega), e8]
    · rw [zSu_hi (α := α) (ν := ν) (f := f) rfl rfl 6 hf]
      congr 1
      rw [Int32.add_comm, Int32.sub_add_cancel]
theorem zrst_pos {f y : Int32} (h : ¬ zrst f y = 0) : (0 : Int32) < zrst f y := by
  unfold zrst at h ⊢
  split
  · assumption
  · rename_i g
    rw [if_neg g] at h
    exact absurd rfl h
theorem k_fill (hv : zIv B α ν) (hd : d < 4) (H1 : (0 : Int32) < zrst (α 7 d) (ν 0) → Q (some (.int (-nI 3))) (WX α ν []))
    (H2 : ∀ α' u, u ≤ 200 → zIv B α' ν → α' 6 d = nI 200 → α' 13 = α 13 → Q (some (.int (nI u))) (WX α' ν [])) : sp_L_fill [.ref 0, .int (nI d)] (WX α ν []) Q X := by
  refine ⟨α, ν, _, rfl, rfl, α, ν, [], _, rfl, rfl, fun c => absurd (vp_in_nI hd (by decide)) c, ?_⟩
  intro d' hd' e1
  have ed : d = d' := nI_inj (by omega) (by omega) e1
  subst ed
  refine ⟨fun c => ⟨rfl, H1 (zrst_pos c)⟩, fun _ => ⟨_, rfl, ?_⟩⟩
  obtain ⟨h1, h2, h3, ⟨h4, h4'⟩, h5, h6, h7⟩ := hv
  obtain ⟨a, ha, ea⟩ := h4 d hd
  rw [ea, pk_sub ha]
  refine H2 _ (200 - a) (by omega) ⟨h1, h2, h3, ⟨zupd_ex h4 ⟨200, Nat.le_refl _, rfl⟩, h4'⟩, h5, h6, h7⟩ ?_ rfl
  show upd (α 6) d (nI 200) d = nI 200
  rw [pk_us]
theorem k_claim {f : Nat} (hv : zIv B α ν) (hf : f < 6) (hk : k < 96) (H1 : Q (some (.int (-nI 3))) (WX α ν []))
    (H2 : ∀ α' ν', zIv B α' ν' → zc ν' = zc ν + 1 → zc ν < 40 → zHx α' ν' (α' 3 k) = nI (zc ν) → zFn α' ν' (α' 3 k) = nI f → α' 9 (zc ν) = nI k → α' 13 = α 13 → ν' 5 = ν 5 → Q (some (.int (nI (zc ν)))) (WX α' ν' [])) : sp_L_claim [.ref 0, .int (nI f), .int (nI k)] (WX α ν []) Q X := by
  have hck := zIv_ck hv
  have h8 := zIv_8 hv
  refine ⟨α, ν, _, _, rfl, rfl, α, ν, [], zc ν, _, _, hck, h8, rfl, rfl, fun c => absurd c (fun c => c.elim (fun c => c (vp_in_nI hf (by decide))) (fun c => c (vp_in_nI hk (by decide)))), ?_⟩
  intro f' k' hf' hk' e1 e2 z hz
  have ef : f = f' := nI_inj (by omega) (by omega) e1
  have ek : k = k' := nI_inj (by omega) (by omega) e2
  subst ef; subst ek
  refine ⟨fun _ => ⟨rfl, H1⟩, fun hb ez h40 => ⟨_, rfl, ?_⟩⟩
  have hno : ∀ i, i < zc ν → ¬ zP α ν (α 3 k) i := by
    rcases hz with ⟨b, _⟩ | ⟨_, ⟨i, hi, _, _, ei⟩ | ⟨q, _⟩⟩
    · exact absurd b hb
    · exact absurd (ei.symm.trans ez) (nI_ne_m1 (by omega))
    · exact q
  obtain ⟨t, ⟨ht, et⟩, ⟨hc1, hc2⟩, hcj⟩ := zIv_c hv
  have hzc : zc (zu ν 3 (nI (zc ν + 1))) = zc ν + 1 := by
    show (nI (zc ν + 1)).toNatClampNeg = zc ν + 1
    exact nI_clamp (by omega)
  have hH : zHx (zu (zu (zu α 8 (upd (α 8) (zc ν) (nI f))) 9 (upd (α 9) (zc ν) (nI k))) 10 (upd (α 10) (zc ν) (ν 0 + nI 28800))) (zu ν 3 (nI (zc ν + 1))) (α 3 k) = nI (zc ν) := by
    refine (zHx_eq ?_).symm
    rw [hzc]
    refine Or.inr ⟨hb, Or.inl ⟨zc ν, Nat.lt_succ_self _, ⟨?_, ?_⟩, fun i hi p => ?_, rfl⟩⟩
    · show ν 0 < upd (α 10) (zc ν) (ν 0 + nI 28800) (zc ν)
      rw [pk_us, et, nI_add]
      exact nI_lt (by omega) (by omega)
    · show α 3 (upd (α 9) (zc ν) (nI k) (zc ν)).toNatClampNeg = α 3 k
      rw [pk_us, nI_clamp (by omega)]
    · have hne : i ≠ zc ν := by omega
      have p1 : ν 0 < upd (α 10) (zc ν) (ν 0 + nI 28800) i := p.1
      have p2 : α 3 (upd (α 9) (zc ν) (nI k) i).toNatClampNeg = α 3 k := p.2
      rw [pk_un hne] at p1 p2
      exact hno i hi ⟨p1, p2⟩
  refine H2 _ _ ?_ hzc h40 hH ?_ ?_ rfl rfl
  · obtain ⟨h1, h2, h3, h4, -, h6, h7⟩ := hv
    refine ⟨h1, h2, h3, h4, ⟨t, zc ν + 1, ⟨ht, et⟩, ⟨by omega, rfl⟩, fun i hi => ?_⟩, h6, h7⟩
    show (∃ g, g < 6 ∧ upd (α 8) (zc ν) (nI f) i = nI g) ∧ (∃ b, b < 96 ∧ upd (α 9) (zc ν) (nI k) i = nI b) ∧ ∃ b, b ≤ t ∧ upd (α 10) (zc ν) (ν 0 + nI 28800) i = nI (b + 28800)
    by_cases e : i = zc ν
    · rw [e, pk_us, pk_us, pk_us]
      exact ⟨⟨f, hf, rfl⟩, ⟨k, hk, rfl⟩, t, Nat.le_refl _, by rw [et, nI_add]⟩
    · rw [pk_un e, pk_un e, pk_un e]
      exact hcj i (by omega)
  · unfold zFn
    show zfd (upd (α 8) (zc ν) (nI f)) (zHx _ _ (α 3 k)) = nI f
    rw [hH, zfd_j _ (by omega), pk_us]
  · show upd (α 9) (zc ν) (nI k) (zc ν) = nI k
    rw [pk_us]
/-- where a shape has a finder, no claim is made -/
theorem k_claim_no {f : Nat} (hv : zIv B α ν) (hf : f < 6) (hk : k < 96) (hx : ¬ zHx α ν (α 3 k) = -1) (H1 : Q (some (.int (-nI 3))) (WX α ν [])) : sp_L_claim [.ref 0, .int (nI f), .int (nI k)] (WX α ν []) Q X := by
  refine ⟨α, ν, _, _, rfl, rfl, α, ν, [], zc ν, _, _, zIv_ck hv, zIv_8 hv, rfl, rfl, fun c => absurd c (fun c => c.elim (fun c => c (vp_in_nI hf (by decide))) (fun c => c (vp_in_nI hk (by decide)))), ?_⟩
  intro f' k' hf' hk' e1 e2 z hz
  have ek : k = k' := nI_inj (by omega) (by omega) e2
  subst ek
  have ez := zHx_eq hz
  exact ⟨fun _ => ⟨rfl, H1⟩, fun _ e _ => absurd (ez.symm.trans e) hx⟩
theorem k_renew (hv : zIv B α ν) (hj : j < zc ν) (H1 : ¬ ν 0 < α 10 j → Q (some (.int (-nI 3))) (WX α ν []))
    (H2 : ∀ α' m, ν 0 < α 10 j → α 10 j = ν 0 + nI m → 1 ≤ m → m ≤ 28800 → zIv B α' ν → α' 10 j = ν 0 + nI 28800 → α' 13 = α 13 → Q (some (.int (nI m))) (WX α' ν [])) : sp_L_renew [.ref 0, .int (nI j)] (WX α ν []) Q X := by
  obtain ⟨t, ⟨ht, et⟩, ⟨hc1, hc2⟩, hcj⟩ := zIv_c hv
  refine ⟨α, ν, _, rfl, rfl, α, ν, [], zc ν, _, hc1, hc2, rfl, rfl, fun c => absurd (vp_in_nI hj (by omega)) c, ?_⟩
  intro j' hj' e1
  have ej : j = j' := nI_inj (by omega) (by omega) e1
  subst ej
  refine ⟨fun c => ⟨rfl, H1 c⟩, fun c => ⟨_, rfl, ?_⟩⟩
  obtain ⟨-, -, b, hb, eb⟩ := hcj j hj
  have hlt : t < b + 28800 := by
    have h := c
    rw [et, eb] at h
    exact (nI_ltI (by omega) (by omega)).mp h
  have em : α 10 j - ν 0 = nI (b + 28800 - t) := by rw [eb, et, pk_sub (by omega)]
  rw [em]
  refine H2 _ (b + 28800 - t) c (by rw [eb, et, nI_add]; congr 1; omega) (by omega) (by omega) ?_ ?_ rfl
  · obtain ⟨h1, h2, h3, h4, -, h6, h7⟩ := hv
    refine ⟨h1, h2, h3, h4, ⟨t, zc ν, ⟨ht, et⟩, ⟨hc1, hc2⟩, fun i hi => ?_⟩, h6, h7⟩
    show (∃ g, g < 6 ∧ α 8 i = nI g) ∧ (∃ b, b < 96 ∧ α 9 i = nI b) ∧ ∃ b, b ≤ t ∧ upd (α 10) j (ν 0 + nI 28800) i = nI (b + 28800)
    obtain ⟨q1, q2, q3⟩ := hcj i hi
    refine ⟨q1, q2, ?_⟩
    by_cases e : i = j
    · rw [e, pk_us]
      exact ⟨t, Nat.le_refl _, by rw [et, nI_add]⟩
    · rw [pk_un e]
      exact q3
  · show upd (α 10) j (ν 0 + nI 28800) j = ν 0 + nI 28800
    rw [pk_us]
theorem k_advance {t : Nat} (hv : zIv B α ν) (et : ν 0 = nI t) (j1 : 1 ≤ j) (hj : j ≤ 14400) (ht : t + j ≤ 1000000) (H : ∀ ν', zIv B α ν' → ν' 5 = ν 5 → Q (some (.int (nI (t + j)))) (WX α ν' [])) : sp_X4_advance [.ref 0, .int (nI j)] (WX α ν []) Q X := by
  refine ⟨α, ν, [], t, _, by omega, et, rfl, rfl, fun c => absurd c (fun c => c.elim (nI_nlt j1 (by omega)) (nI_nlt hj (by decide))), ?_⟩
  intro j' hj' e _ _
  have ej : j = j' := nI_inj (by omega) (by omega) e
  subst ej
  refine ⟨fun c => absurd c (by omega), fun _ => H _ ?_ rfl⟩
  obtain ⟨t', ⟨ht', et'⟩, ⟨hc1, hc2⟩, hcj⟩ := zIv_c hv
  have ett : t = t' := nI_inj (by omega) (by omega) (et.symm.trans et')
  subst ett
  obtain ⟨h1, h2, h3, h4, -, h6, h7⟩ := hv
  refine ⟨h1, h2, h3, h4, ⟨t + j, zc ν, ⟨ht, rfl⟩, ⟨hc1, hc2⟩, fun i hi => ?_⟩, h6, h7⟩
  obtain ⟨q1, q2, b, hb, eb⟩ := hcj i hi
  exact ⟨q1, q2, b, by omega, eb⟩
end ZKP
end
section
/-! ===== EchoRegistryLaw: sum, claims, cells ===== -/
theorem zmcI {Sp : zSpec} {args : zS} {w : zW} {N : Option Value → zW → Prop} {X : String → zW → Prop} (h : Sp args w N X) : zMc Sp args w N X := ⟨N, X, h, fun _ _ h => h, fun _ _ h => h⟩
theorem zbl {a b : Nat} (h : a ≤ b) : Nat.ble a b = true := Nat.ble_eq_true_of_le h
def sp_L_sum : zSpec := fun args w Q _ => ∃ α ν, args = [.ref 0] ∧ w = WX α ν [] ∧ Q (some (.int (zSu α ν 6))) (WX α ν [])
def pg_L_sum : List zE := [(0, .aload_n 0, 1, []), (1, .invokevirtual 63, 3, []), (4, .istore_n 1, 1, []), (5, .iconst 0, 1, [0]), (6, .istore_n 2, 1, []), (7, .iload_n 2, 1, []), (8, .bipush 6, 2, [6]), (10, .if_icmp .ge 17, 3, [27]), (13, .iload_n 1, 1, []), (14, .aload_n 0, 1, []), (15, .iload_n 2, 1, []), (16, .invokevirtual 66, 3, []), (19, .iadd, 1, []), (20, .istore_n 1, 1, []), (21, .iinc 2 1, 3, [1]), (24, .goto (-17), 3, [7]), (27, .iload_n 1, 1, []), (28, .ireturn, 1, [])]
theorem hp_L_sum : ∀ q ∈ pg_L_sum, decode cL_sum q.1 = .ok (q.2.1, q.2.2.1) ∧ ztg q.2.1 q.1 q.2.2.1 q.2.2.2 = true := zpg_of (by decide +kernel)
def cs_L_sum : List (Nat × zCall) := [(63, 0, 1, some 5, 0, 0, false, zMc sp_X4_kept), (66, 0, 2, some 5, 1, 6, false, zMc sp_X4_reward)]
theorem hcs_L_sum {l : Launch} (hl0 : l.stackTraces = false) : ∀ q ∈ cs_L_sum, zCallable l RL 4 q := List.forall_mem_cons.mpr ⟨zcV (C := (RX4, TX4, 6)) (ps := [832, 833, 834, 14, 835]) (CT_mono (c_X4_kept hl0)) (by decide +kernel) rfl ⟨rfl, by decide +kernel, by decide +kernel, by decide +kernel⟩ (by decide) (by decide), List.forall_mem_cons.mpr ⟨zcV (C := (RX4, TX4, 6)) (ps := [840, 841, 842, 14, 843]) (CT_mono (c_X4_reward hl0)) (by decide +kernel) rfl ⟨rfl, by decide +kernel, by decide +kernel, by decide +kernel⟩ (by decide) (by decide), fun _ h => absurd h List.not_mem_nil⟩⟩
def th_L_sum : List (Nat × String) := []
theorem hth_L_sum : ∀ q ∈ th_L_sum, zThrow cL_sum RL q := fun _ h => absurd h List.not_mem_nil
def kc_L_sum : List (Nat × Int32) := []
theorem hkc_L_sum : ∀ q ∈ kc_L_sum, Cond.constant RL q.1 q.2 ∈ zTs := fun _ h => absurd h List.not_mem_nil
def nw_L_sum : List (Nat × Nat × Nat × List Value) := []
theorem hnw_L_sum : ∀ q ∈ nw_L_sum, zNew RL q := fun _ h => absurd h List.not_mem_nil
set_option maxHeartbeats 4000000 in
set_option maxRecDepth 20000 in
theorem c_L_sum {l : Launch} (hl0 : l.stackTraces = false) : CT l yL_sum (.code yL_sum cL_sum 3 (some .int)) 4 10 60 false sp_L_sum := by
  refine zCT_of hl0 (own := RL) fl_RL cs_L_sum nw_L_sum th_L_sum kc_L_sum (fun _ => []) false pg_L_sum rfl (by decide +kernel) hp_L_sum ⟨_, _, rfl, rfl⟩ hfl_RL (fun h => nomatch h) (hcs_L_sum hl0) hnw_L_sum hth_L_sum (fun _ _ h => absurd h List.not_mem_nil) hkc_L_sum (fun args w Q X v0 hv0 h => ?_)
  obtain ⟨α, ν, rfl, rfl, hQ⟩ := h
  refine ⟨Nat.le_of_ble_eq_true rfl, 60, [(7, fun m L S w' cu su => ∃ i, zsub [(0, .ref 0), (1, .int (zSu α ν i)), (2, .int (nI i))] L ∧ S = [] ∧ w' = WX α ν [] ∧ i ≤ 6 ∧ m = 6 - i ∧ cu ≤ i ∧ su ≤ 6 * i)], ?_, zone ?_⟩
  · (conv => whnf)
    refine zmcI (k_kept ?_)
    (conv => whnf)
    exact ⟨6, 0, ⟨rfl, rfl, rfl, trivial⟩, rfl, rfl, by decide, rfl, by decide, by decide⟩
  · rintro m L S w' cu su ⟨i, hL, rfl, rfl, hi, rfl, hcu, hsu⟩
    refine ⟨_, hL, ?_⟩
    (conv => whnf)
    refine And.intro (fun c => ?_) (fun c => ?_)
    · have hlt : i < 6 := (nI_ltI (by omega) (by decide)).mp c
      (conv => whnf)
      rw [zbl (show cu + 1 ≤ 10 by omega)]
      (conv => whnf)
      rw [zbl (show su + 6 ≤ 60 by omega)]
      (conv => whnf)
      refine zmcI (k_reward hlt ?_)
      (conv => whnf)
      exact ⟨6 - (i + 1), by omega, i + 1, ⟨rfl, rfl, zi1 rfl, trivial⟩, rfl, rfl, by omega, rfl, by omega, by omega⟩
    · have hge : i = 6 := by
        have : ¬ i < 6 := fun h => c (nI_lt h (by decide))
        omega
      subst hge
      (conv => whnf)
      rw [zbl (show cu ≤ 10 by omega)]
      (conv => whnf)
      rw [zbl (show su ≤ 60 by omega)]
      (conv => whnf)
      exact hQ
def sp_L_claims : zSpec := fun args w Q _ => ∃ B α ν, zIv B α ν ∧ args = [.ref 0] ∧ w = WX α ν [] ∧ Q (some (.int (nI 1))) (WX α ν [])
def pg_L_claims : List zE := [(0, .iconst 1, 1, [1]), (1, .istore_n 1, 1, []), (2, .aload_n 0, 1, []), (3, .invokevirtual 52, 3, []), (6, .istore_n 2, 1, []), (7, .iconst 0, 1, [0]), (8, .istore_n 3, 1, []), (9, .iload_n 3, 1, []), (10, .iload_n 2, 1, []), (11, .if_icmp .ge 35, 3, [46]), (14, .iload_n 1, 1, []), (15, .ifCond .eq 31, 3, [46]), (18, .aload_n 0, 1, []), (19, .iload_n 3, 1, []), (20, .invokevirtual 56, 3, []), (23, .ifCond .eq 11, 3, [34]), (26, .aload_n 0, 1, []), (27, .iload_n 3, 1, []), (28, .invokevirtual 60, 3, []), (31, .ifCond .eq 7, 3, [38]), (34, .iconst 1, 1, [1]), (35, .goto 4, 3, [39]), (38, .iconst 0, 1, [0]), (39, .istore_n 1, 1, []), (40, .iinc 3 1, 3, [1]), (43, .goto (-34), 3, [9]), (46, .iload_n 1, 1, []), (47, .ireturn, 1, [])]
theorem hp_L_claims : ∀ q ∈ pg_L_claims, decode cL_claims q.1 = .ok (q.2.1, q.2.2.1) ∧ ztg q.2.1 q.1 q.2.2.1 q.2.2.2 = true := zpg_of (by decide +kernel)
def cs_L_claims : List (Nat × zCall) := [(52, 0, 1, some 5, 0, 0, false, zMc sp_X4_claims), (56, 0, 2, some 5, 1, 6, false, zMc sp_X4_holds), (60, 0, 2, some 5, 1, 6, false, zMc sp_X4_runs)]
theorem hcs_L_claims {l : Launch} (hl0 : l.stackTraces = false) : ∀ q ∈ cs_L_claims, zCallable l RL 6 q := List.forall_mem_cons.mpr ⟨zcV (C := (RX4, TX4, 6)) (ps := [444, 445, 446, 14, 447]) (CT_mono (c_X4_claims hl0)) (by decide +kernel) rfl ⟨rfl, by decide +kernel, by decide +kernel, by decide +kernel⟩ (by decide) (by decide), List.forall_mem_cons.mpr ⟨zcV (C := (RX4, TX4, 6)) (ps := [458, 459, 460, 14, 461]) (CT_mono (c_X4_holds hl0)) (by decide +kernel) rfl ⟨rfl, by decide +kernel, by decide +kernel, by decide +kernel⟩ (by decide) (by decide), List.forall_mem_cons.mpr ⟨zcV (C := (RX4, TX4, 6)) (ps := [448, 449, 450, 14, 451]) (CT_mono (c_X4_runs hl0)) (by decide +kernel) rfl ⟨rfl, by decide +kernel, by decide +kernel, by decide +kernel⟩ (by decide) (by decide), fun _ h => absurd h List.not_mem_nil⟩⟩⟩
def th_L_claims : List (Nat × String) := []
theorem hth_L_claims : ∀ q ∈ th_L_claims, zThrow cL_claims RL q := fun _ h => absurd h List.not_mem_nil
def kc_L_claims : List (Nat × Int32) := []
theorem hkc_L_claims : ∀ q ∈ kc_L_claims, Cond.constant RL q.1 q.2 ∈ zTs := fun _ h => absurd h List.not_mem_nil
def nw_L_claims : List (Nat × Nat × Nat × List Value) := []
theorem hnw_L_claims : ∀ q ∈ nw_L_claims, zNew RL q := fun _ h => absurd h List.not_mem_nil
set_option maxHeartbeats 4000000 in
set_option maxRecDepth 20000 in
theorem c_L_claims {l : Launch} (hl0 : l.stackTraces = false) : CT l yL_claims (.code yL_claims cL_claims 4 (some .boolean)) 6 100 600 false sp_L_claims := by
  refine zCT_of hl0 (own := RL) fl_RL cs_L_claims nw_L_claims th_L_claims kc_L_claims (fun _ => []) false pg_L_claims rfl (by decide +kernel) hp_L_claims ⟨_, _, rfl, rfl⟩ hfl_RL (fun h => nomatch h) (hcs_L_claims hl0) hnw_L_claims hth_L_claims (fun _ _ h => absurd h List.not_mem_nil) hkc_L_claims (fun args w Q X v0 hv0 h => ?_)
  obtain ⟨B, α, ν, hv, rfl, rfl, hQ⟩ := h
  have hc := zIv_le hv
  refine ⟨Nat.le_of_ble_eq_true rfl, 60, [(9, fun m L S w' cu su => ∃ i, zsub [(0, .ref 0), (1, .int (nI 1)), (2, .int (nI (zc ν))), (3, .int (nI i))] L ∧ S = [] ∧ w' = WX α ν [] ∧ i ≤ zc ν ∧ m = 40 - i ∧ cu ≤ 2 * i ∧ su ≤ 12 * i)], ?_, zone ?_⟩
  · (conv => whnf)
    refine zmcI (k_claims hv ?_)
    (conv => whnf)
    exact ⟨40, 0, ⟨rfl, rfl, rfl, rfl, trivial⟩, rfl, rfl, Nat.zero_le _, rfl, by decide, by decide⟩
  · rintro m L S w' cu su ⟨i, hL, rfl, rfl, hi, rfl, hcu, hsu⟩
    refine ⟨_, hL, ?_⟩
    (conv => whnf)
    refine And.intro (fun c => ?_) (fun c => ?_)
    · have hlt : i < zc ν := (nI_ltI (by omega) (by omega)).mp c
      (conv => whnf)
      refine And.intro (fun c => absurd c (show ¬ _ from (by decide))) (fun _ => ?_)
      (conv => whnf)
      rw [zbl (show cu + 1 ≤ 100 by omega)]
      (conv => whnf)
      rw [zbl (show su + 6 ≤ 600 by omega)]
      (conv => whnf)
      refine zmcI (k_holds hv hlt ⟨fun q => ?_, fun q => ?_⟩)
      · have hr : ν 0 < α 10 i := by
          rcases zHx_or α ν (α 3 (α 9 i).toNatClampNeg) with e | ⟨j, hj, e, h1, -⟩
          · exact absurd (q.symm.trans e) (nI_ne_m1 (by omega))
          · have : j = i := nI_inj (by omega) (by omega) (e.symm.trans q)
            rw [← this]
            exact h1
        (conv => whnf)
        refine And.intro (fun c => absurd c (show ¬ _ from (by decide))) (fun _ => ?_)
        (conv => whnf)
        rw [zbl (show cu + 1 + 1 ≤ 100 by omega)]
        (conv => whnf)
        rw [zbl (show su + 6 + 6 ≤ 600 by omega)]
        (conv => whnf)
        refine zmcI (k_runs hv hlt ⟨fun _ => ?_, fun g => absurd hr g⟩)
        (conv => whnf)
        refine And.intro (fun c => absurd c (show ¬ _ from (by decide))) (fun _ => ?_)
        (conv => whnf)
        exact ⟨40 - (i + 1), by omega, i + 1, ⟨rfl, rfl, rfl, zi1 rfl, trivial⟩, rfl, rfl, by omega, rfl, by omega, by omega⟩
      · (conv => whnf)
        refine And.intro (fun _ => ?_) (fun c => absurd (show _ from rfl) c)
        (conv => whnf)
        exact ⟨40 - (i + 1), by omega, i + 1, ⟨rfl, rfl, rfl, zi1 rfl, trivial⟩, rfl, rfl, by omega, rfl, by omega, by omega⟩
    · have hge : i = zc ν := by
        have : ¬ i < zc ν := fun h => c (nI_lt h (by omega))
        omega
      (conv => whnf)
      rw [zbl (show cu ≤ 100 by omega)]
      (conv => whnf)
      rw [zbl (show su ≤ 600 by omega)]
      (conv => whnf)
      exact ⟨Or.inr rfl, hQ⟩
section ZTT
variable {α α1 : Nat → Nat → Int32} {ν ν1 : Nat → Int32} {B k s p : Nat} {Q : Option Value → zW → Prop} {X : String → zW → Prop}
theorem k_ttl (hS : zSame α ν α1 ν1) (hv : zIv B α1 ν1) (hk : k < 96) (hs : s < 96) (es : α 3 k = nI s) (hp : p < 100) (h2 : ∀ α' ν', zSame α ν α' ν' → zIv B α' ν' → Q (some (.int (zTv α ν s (nI p)))) (WX α' ν' [])) : sp_X4_titleAt [.ref 0, .int (nI k), .int (nI p)] (WX α1 ν1 []) Q X := by
  have e1 : α1 3 k = nI s := by rw [hS.1.2.2.2]; exact es
  refine k_titleAt hv hk hp (fun e => absurd (e1.symm.trans e) (nI_ne_m1 (by omega))) (fun s' α' ν' hs' es' h3 h4 => ?_)
  have e2 : s = s' := nI_inj (by omega) (by omega) (e1.symm.trans es')
  subst e2
  rw [zSame_Tv hS]
  exact h2 α' ν' (zSame_t hS h3) h4
end ZTT
def sp_L_cells : zSpec := fun args w Q _ => ∃ B α ν k, zIv B α ν ∧ B ≤ 900000 ∧ k < 96 ∧ args = [.ref 0, .int (nI k)] ∧ w = WX α ν [] ∧ ∀ α' ν', zSame α ν α' ν' → zIv (B + 1) α' ν' → Q (some (.int (nI 1))) (WX α' ν' [])
def pg_L_cells : List zE := [(0, .aload_n 0, 1, []), (1, .iload_n 1, 1, []), (2, .invokevirtual 31, 3, []), (5, .istore_n 2, 1, []), (6, .aload_n 0, 1, []), (7, .iload_n 1, 1, []), (8, .invokevirtual 34, 3, []), (11, .istore_n 3, 1, []), (12, .iload_n 2, 1, []), (13, .iconst (-1), 1, []), (14, .if_icmp .ne 48, 3, [62]), (17, .aload_n 0, 1, []), (18, .iload_n 1, 1, []), (19, .invokevirtual 37, 3, []), (22, .ifCond .ne 38, 3, [60]), (25, .aload_n 0, 1, []), (26, .iload_n 1, 1, []), (27, .invokevirtual 40, 3, []), (30, .ifCond .ne 30, 3, [60]), (33, .aload_n 0, 1, []), (34, .iload_n 1, 1, []), (35, .invokevirtual 43, 3, []), (38, .ifCond .ne 22, 3, [60]), (41, .iload_n 3, 1, []), (42, .iconst (-1), 1, []), (43, .if_icmp .ne 17, 3, [60]), (46, .aload_n 0, 1, []), (47, .iload_n 1, 1, []), (48, .iconst 0, 1, [0]), (49, .invokevirtual 46, 3, []), (52, .iconst (-1), 1, []), (53, .if_icmp .ne 7, 3, [60]), (56, .iconst 1, 1, [1]), (57, .goto 4, 3, [61]), (60, .iconst 0, 1, [0]), (61, .ireturn, 1, []), (62, .iload_n 2, 1, []), (63, .iload_n 1, 1, []), (64, .if_icmp .gt 50, 3, [114]), (67, .aload_n 0, 1, []), (68, .iload_n 2, 1, []), (69, .invokevirtual 31, 3, []), (72, .iload_n 2, 1, []), (73, .if_icmp .ne 41, 3, [114]), (76, .aload_n 0, 1, []), (77, .iload_n 1, 1, []), (78, .invokevirtual 37, 3, []), (81, .aload_n 0, 1, []), (82, .iload_n 2, 1, []), (83, .invokevirtual 37, 3, []), (86, .if_icmp .ne 28, 3, [114]), (89, .aload_n 0, 1, []), (90, .iload_n 1, 1, []), (91, .invokevirtual 40, 3, []), (94, .aload_n 0, 1, []), (95, .iload_n 2, 1, []), (96, .invokevirtual 40, 3, []), (99, .if_icmp .ne 15, 3, [114]), (102, .aload_n 0, 1, []), (103, .iload_n 1, 1, []), (104, .invokevirtual 40, 3, []), (107, .ifCond .le 7, 3, [114]), (110, .iconst 1, 1, [1]), (111, .goto 4, 3, [115]), (114, .iconst 0, 1, [0]), (115, .istore 4, 2, []), (117, .iload 4, 2, []), (119, .ifCond .eq 52, 3, [171]), (122, .aload_n 0, 1, []), (123, .iload_n 1, 1, []), (124, .invokevirtual 43, 3, []), (127, .aload_n 0, 1, []), (128, .iload_n 2, 1, []), (129, .invokevirtual 43, 3, []), (132, .if_icmp .ne 39, 3, [171]), (135, .iload_n 3, 1, []), (136, .aload_n 0, 1, []), (137, .iload_n 2, 1, []), (138, .invokevirtual 34, 3, []), (141, .if_icmp .ne 30, 3, [171]), (144, .iload_n 3, 1, []), (145, .aload_n 0, 1, []), (146, .iload_n 1, 1, []), (147, .invokevirtual 49, 3, []), (150, .if_icmp .ne 21, 3, [171]), (153, .aload_n 0, 1, []), (154, .iload_n 1, 1, []), (155, .invokevirtual 43, 3, []), (158, .iconst 1, 1, [1]), (159, .if_icmp .ne 8, 3, [167]), (162, .iload_n 3, 1, []), (163, .iconst (-1), 1, []), (164, .if_icmp .ne 7, 3, [171]), (167, .iconst 1, 1, [1]), (168, .goto 4, 3, [172]), (171, .iconst 0, 1, [0]), (172, .istore 4, 2, []), (174, .iload 4, 2, []), (176, .ifCond .eq 48, 3, [224]), (179, .aload_n 0, 1, []), (180, .iload_n 1, 1, []), (181, .iconst 0, 1, [0]), (182, .invokevirtual 46, 3, []), (185, .aload_n 0, 1, []), (186, .iload_n 2, 1, []), (187, .iconst 0, 1, [0]), (188, .invokevirtual 46, 3, []), (191, .if_icmp .ne 33, 3, [224]), (194, .aload_n 0, 1, []), (195, .iload_n 1, 1, []), (196, .iconst 3, 1, [3]), (197, .invokevirtual 46, 3, []), (200, .aload_n 0, 1, []), (201, .iload_n 2, 1, []), (202, .iconst 3, 1, [3]), (203, .invokevirtual 46, 3, []), (206, .if_icmp .ne 18, 3, [224]), (209, .aload_n 0, 1, []), (210, .iload_n 1, 1, []), (211, .bipush 12, 2, [12]), (213, .invokevirtual 46, 3, []), (216, .iconst (-1), 1, []), (217, .if_icmp .ne 7, 3, [224]), (220, .iconst 1, 1, [1]), (221, .goto 4, 3, [225]), (224, .iconst 0, 1, [0]), (225, .ireturn, 1, [])]
theorem hp_L_cells : ∀ q ∈ pg_L_cells, decode cL_cells q.1 = .ok (q.2.1, q.2.2.1) ∧ ztg q.2.1 q.1 q.2.2.1 q.2.2.2 = true := zpg_of (by decide +kernel)
def cs_L_cells : List (Nat × zCall) := [(31, 0, 2, some 5, 1, 6, false, zMc sp_X4_shapeOf), (34, 0, 2, some 5, 1, 6, false, zMc sp_X4_finder), (37, 0, 2, some 5, 1, 6, false, zMc sp_X4_size), (40, 0, 2, some 5, 1, 6, false, zMc sp_X4_top), (43, 0, 2, some 5, 1, 6, false, zMc sp_X4_nameOf), (46, 0, 3, some 5, 2, 12, false, zMc sp_X4_titleAt), (49, 0, 2, some 5, 1, 6, false, zMc sp_X4_finderBySoundings)]
theorem hcs_L_cells {l : Launch} (hl0 : l.stackTraces = false) : ∀ q ∈ cs_L_cells, zCallable l RL 8 q := List.forall_mem_cons.mpr ⟨zcV (C := (RX4, TX4, 6)) (ps := [326, 327, 328, 14, 329]) (CT_mono (c_X4_shapeOf hl0)) (by decide +kernel) rfl ⟨rfl, by decide +kernel, by decide +kernel, by decide +kernel⟩ (by decide) (by decide), List.forall_mem_cons.mpr ⟨zcV (C := (RX4, TX4, 6)) (ps := [412, 413, 414, 14, 415]) (CT_mono (c_X4_finder hl0)) (by decide +kernel) rfl ⟨rfl, by decide +kernel, by decide +kernel, by decide +kernel⟩ (by decide) (by decide), List.forall_mem_cons.mpr ⟨zcV (C := (RX4, TX4, 6)) (ps := [618, 619, 620, 14, 621]) (CT_mono (c_X4_size hl0)) (by decide +kernel) rfl ⟨rfl, by decide +kernel, by decide +kernel, by decide +kernel⟩ (by decide) (by decide), List.forall_mem_cons.mpr ⟨zcV (C := (RX4, TX4, 6)) (ps := [626, 627, 628, 14, 629]) (CT_mono (c_X4_top hl0)) (by decide +kernel) rfl ⟨rfl, by decide +kernel, by decide +kernel, by decide +kernel⟩ (by decide) (by decide), List.forall_mem_cons.mpr ⟨zcV (C := (RX4, TX4, 6)) (ps := [334, 335, 336, 14, 337]) (CT_mono (c_X4_nameOf hl0)) (by decide +kernel) rfl ⟨rfl, by decide +kernel, by decide +kernel, by decide +kernel⟩ (by decide) (by decide), List.forall_mem_cons.mpr ⟨zcV (C := (RX4, TX4, 6)) (ps := [635, 636, 637, 14, 638]) (CT_mono (c_X4_titleAt hl0)) (by decide +kernel) rfl ⟨rfl, by decide +kernel, by decide +kernel, by decide +kernel⟩ (by decide) (by decide), List.forall_mem_cons.mpr ⟨zcV (C := (RX4, TX4, 6)) (ps := [813, 814, 815, 14, 816]) (CT_mono (c_X4_finderBySoundings hl0)) (by decide +kernel) rfl ⟨rfl, by decide +kernel, by decide +kernel, by decide +kernel⟩ (by decide) (by decide), fun _ h => absurd h List.not_mem_nil⟩⟩⟩⟩⟩⟩⟩
def th_L_cells : List (Nat × String) := []
theorem hth_L_cells : ∀ q ∈ th_L_cells, zThrow cL_cells RL q := fun _ h => absurd h List.not_mem_nil
def kc_L_cells : List (Nat × Int32) := []
theorem hkc_L_cells : ∀ q ∈ kc_L_cells, Cond.constant RL q.1 q.2 ∈ zTs := fun _ h => absurd h List.not_mem_nil
def nw_L_cells : List (Nat × Nat × Nat × List Value) := []
theorem hnw_L_cells : ∀ q ∈ nw_L_cells, zNew RL q := fun _ h => absurd h List.not_mem_nil
set_option maxHeartbeats 4000000 in
set_option maxRecDepth 20000 in
theorem c_L_cells {l : Launch} (hl0 : l.stackTraces = false) : CT l yL_cells (.code yL_cells cL_cells 5 (some .boolean)) 8 28 168 false sp_L_cells := by
  refine zCT_of hl0 (own := RL) fl_RL cs_L_cells nw_L_cells th_L_cells kc_L_cells (fun _ => []) false pg_L_cells rfl (by decide +kernel) hp_L_cells ⟨_, _, rfl, rfl⟩ hfl_RL (fun h => nomatch h) (hcs_L_cells hl0) hnw_L_cells hth_L_cells (fun _ _ h => absurd h List.not_mem_nil) hkc_L_cells (fun args w Q X v0 hv0 h => ?_)
  obtain ⟨B, α, ν, k, hv, hB, hk, rfl, rfl, hQ⟩ := h
  refine ⟨Nat.le_of_ble_eq_true rfl, 200, [(167, fun m L S w' cu su => ∃ s α1 ν1, zsub [(0, .ref 0), (1, .int (nI k)), (2, .int (nI s))] L ∧ S = [] ∧ w' = WX α1 ν1 [] ∧ s < 96 ∧ α 3 k = nI s ∧ α 3 s = nI s ∧ zSame α ν α1 ν1 ∧ zIv (B + 1) α1 ν1 ∧ m = 0 ∧ cu = 13 ∧ su = 78)], ?_, zone ?_⟩
  · (conv => whnf)
    refine zmcI (k_shapeOf hk ?_)
    rcases zLow_v hv.1.1 hk with es | ⟨s, hs, es⟩
    · rw [es]
      (conv => whnf)
      refine zmcI (k_finder hv hk ?_)
      rw [es, zFn_bad (Or.inl rfl)]
      (conv => whnf)
      refine And.intro (fun _ => ?_) (fun c => absurd (show _ from rfl) c)
      (conv => whnf)
      refine zmcI (k_size hk ?_)
      rw [es, zcnt_m1]
      (conv => whnf)
      refine And.intro (fun _ => ?_) (fun c => absurd (show _ from rfl) c)
      (conv => whnf)
      refine zmcI (k_top hk ?_)
      rw [es, zmx_m1]
      (conv => whnf)
      refine And.intro (fun _ => ?_) (fun c => absurd (show _ from rfl) c)
      (conv => whnf)
      refine zmcI (k_nameOf hk ?_)
      rw [es, show zNm α (-1) = 0 from congrArg Prod.snd (znm_m1 (α 3) (α 2) (α 1) 96)]
      (conv => whnf)
      refine And.intro (fun _ => ?_) (fun c => absurd (show _ from rfl) c)
      (conv => whnf)
      refine And.intro (fun _ => ?_) (fun c => absurd (show _ from rfl) c)
      (conv => whnf)
      refine zmcI (k_titleAt (p := 0) hv hk (by decide) (fun _ => ?_) (fun s' α' ν' hs' e' _ _ => absurd (e'.symm.trans es) (nI_ne_m1 (by omega))))
      (conv => whnf)
      refine And.intro (fun _ => ?_) (fun c => absurd (show _ from rfl) c)
      (conv => whnf)
      exact ⟨Or.inr rfl, hQ α ν (zSame_r α ν) (zIv_mono hv (by omega))⟩
    · obtain ⟨hsk, ess, h0⟩ := zLow_rep hv.1.1 hk hs es
      have htop : (0 : Int32) < zmx (α 3) (α 0) (nI s) 96 := by
        have h1 := zmx_ge (h := α 0) (nI_ne_m1 (show s < 2 ^ 31 by omega)) es 96 hk
        obtain ⟨h, hh, eh⟩ := hv.1.2 k hk
        have h2 : (0 : Int32) < α 0 k := by
          rw [eh]
          refine nI_lt (a := 0) ?_ (by omega)
          apply Classical.byContradiction
          intro q
          have : h = 0 := by omega
          rw [this] at eh
          exact h0 eh
        exact i32_trans h2 h1
      rw [es]
      (conv => whnf)
      refine zmcI (k_finder hv hk ?_)
      rw [es]
      (conv => whnf)
      refine And.intro (fun c => absurd c (show ¬ _ from (nI_ne_m1 (show s < 2 ^ 31 by omega)))) (fun _ => ?_)
      (conv => whnf)
      refine And.intro (fun c => absurd c (show ¬ _ from (nI_nlt hsk (by omega)))) (fun _ => ?_)
      (conv => whnf)
      refine zmcI (k_shapeOf hs ?_)
      rw [ess]
      (conv => whnf)
      refine And.intro (fun _ => ?_) (fun c => absurd (show _ from rfl) c)
      (conv => whnf)
      refine zmcI (k_size hk ?_)
      rw [es]
      (conv => whnf)
      refine zmcI (k_size hs ?_)
      rw [ess]
      (conv => whnf)
      refine And.intro (fun _ => ?_) (fun c => absurd (show _ from rfl) c)
      (conv => whnf)
      refine zmcI (k_top hk ?_)
      rw [es]
      (conv => whnf)
      refine zmcI (k_top hs ?_)
      rw [ess]
      (conv => whnf)
      refine And.intro (fun _ => ?_) (fun c => absurd (show _ from rfl) c)
      (conv => whnf)
      refine zmcI (k_top hk ?_)
      rw [es]
      (conv => whnf)
      refine And.intro (fun _ => ?_) (fun c => absurd (show _ from htop) c)
      (conv => whnf)
      refine And.intro (fun c => absurd c (show ¬ _ from (by decide))) (fun _ => ?_)
      (conv => whnf)
      refine zmcI (k_nameOf hk ?_)
      rw [es]
      (conv => whnf)
      refine zmcI (k_nameOf hs ?_)
      rw [ess]
      (conv => whnf)
      refine And.intro (fun _ => ?_) (fun c => absurd (show _ from rfl) c)
      (conv => whnf)
      refine zmcI (k_finder hv hs ?_)
      rw [ess]
      (conv => whnf)
      refine And.intro (fun _ => ?_) (fun c => absurd (show _ from rfl) c)
      (conv => whnf)
      refine zmcI (k_fbs hv hB hk (fun α1 ν1 hs1 hv1 => ?_))
      rw [es]
      (conv => whnf)
      refine And.intro (fun _ => ?_) (fun c => absurd (show _ from rfl) c)
      (conv => whnf)
      refine zmcI (k_nameOf hk ?_)
      rw [hs1.1.2.2.2, es, zSame_Nm hs1]
      (conv => whnf)
      refine And.intro (fun c => ?_) (fun c => ?_)
      · have ef : zFn α ν (nI s) = -1 := zFn_bad (Or.inr c)
        (conv => whnf)
        refine And.intro (fun _ => ?_) (fun c => absurd (show _ from ef) c)
        (conv => whnf)
        exact ⟨0, s, α1, ν1, ⟨rfl, rfl, rfl, trivial⟩, rfl, rfl, hs, rfl, ess, hs1, hv1, rfl, rfl, rfl⟩
      · (conv => whnf)
        exact ⟨0, s, α1, ν1, ⟨rfl, rfl, rfl, trivial⟩, rfl, rfl, hs, rfl, ess, hs1, hv1, rfl, rfl, rfl⟩
  · rintro m L S w' cu su ⟨s, α1, ν1, hL, rfl, rfl, hs, es, ess, hs1, hv1, rfl, rfl, rfl⟩
    refine ⟨_, hL, ?_⟩
    (conv => whnf)
    refine And.intro (fun c => absurd c (show ¬ _ from (by decide))) (fun _ => ?_)
    (conv => whnf)
    refine zmcI (k_ttl (p := 0) hs1 hv1 hk hs es (by decide) (fun α2 ν2 hs2 hv2 => ?_))
    (conv => whnf)
    refine zmcI (k_ttl (p := 0) hs2 hv2 hs hs ess (by decide) (fun α3 ν3 hs3 hv3 => ?_))
    (conv => whnf)
    refine And.intro (fun _ => ?_) (fun c => absurd (show _ from rfl) c)
    (conv => whnf)
    refine zmcI (k_ttl (p := 3) hs3 hv3 hk hs es (by decide) (fun α4 ν4 hs4 hv4 => ?_))
    (conv => whnf)
    refine zmcI (k_ttl (p := 3) hs4 hv4 hs hs ess (by decide) (fun α5 ν5 hs5 hv5 => ?_))
    (conv => whnf)
    refine And.intro (fun _ => ?_) (fun c => absurd (show _ from rfl) c)
    (conv => whnf)
    refine zmcI (k_ttl (p := 12) hs5 hv5 hk hs es (by decide) (fun α6 ν6 hs6 hv6 => ?_))
    rw [← zSame_Tv hs6, zTv_12 hv6]
    (conv => whnf)
    refine And.intro (fun _ => ?_) (fun c => absurd (show _ from rfl) c)
    (conv => whnf)
    exact ⟨Or.inr rfl, hQ α6 ν6 hs6 hv6⟩
end
