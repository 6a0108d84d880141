/-! ===== A METHOD: from the run of the abstract machine to its contract ===== -/
/-- the words of a throw that no good word holds -/
def zthw (own : String) (ic : Nat) (cls : String) (names : List String) : Bool := (vx_atS own ic cls names).all (fun w => vx_ot w && (decide (w ∈ lw_tbl) && goodWord w || decide (w ∈ zOth)))
/-- at pc: throw new cls(text) -/
def zThrow (cc : ByteArray) (own : String) (q : Nat × String) : Prop := ∃ (text : String) (ik is ic : Nat) (ps : List Nat),
  Bundle.fit q.2 = true ∧ zins ps [.classLink own ik q.2, .initialized q.2] = true ∧ (own, is, text) ∈ zStr ∧ zthw own ic q.2 ["java/lang/RuntimeException", "java/lang/Exception"] = true ∧
  decode cc q.1 = .ok (.new ik, 3) ∧ decode cc (q.1 + 3) = .ok (.dup, 1) ∧ ((decode cc (q.1 + 4) = .ok (.ldc is, 2) ∧ decode cc (q.1 + 6) = .ok (.invokespecial ic, 3) ∧ decode cc (q.1 + 9) = .ok (.athrow, 1)) ∨ (decode cc (q.1 + 4) = .ok (.ldc_w is, 3) ∧ decode cc (q.1 + 7) = .ok (.invokespecial ic, 3) ∧ decode cc (q.1 + 10) = .ok (.athrow, 1)))
def zStat (own : String) (v0 : Value) (q : Nat × Value) : Prop :=
  (q.2 = .int 1 ∧ Cond.fieldLink own q.1 "java/lang/String" "COMPACT_STRINGS" "Z" ∈ zTs) ∨ (q.2 = v0 ∧ Cond.fieldLink own q.1 "jdk/internal/util/Preconditions" "SIOOBE_FORMATTER" "Ljava/util/function/BiFunction;" ∈ zTs) ∨ (q.2 = .ref 1002 ∧ Cond.fieldLink own q.1 "java/lang/Integer" "DigitOnes" "[B" ∈ zTs) ∨ (q.2 = .ref 1003 ∧ Cond.fieldLink own q.1 "java/lang/Integer" "DigitTens" "[B" ∈ zTs)
/-- the arrays that nobody writes -/
def zRO : List (Nat × Nat × Nat × (Nat → Int32)) := [(1002, 2, 100, zOnes), (1003, 2, 100, zTens)]
/-- what a return of this type owes -/
def zrq (ret : Option FieldType) (v : Option Value) (K : Prop) : Prop := match ret, v with
  | some .int, some (.int _) => K
  | some .boolean, some (.int x) => (x = 0 ∨ x = 1) ∧ K
  | some ty, some (.int x) => narrow ty (.int x) = .int x ∧ K
  | none, none => K
  | some (.object _), some (.ref _) => K
  | _, _ => False
def zretP (ret : Option FieldType) (mc ms : Nat) (Q : Option Value → zW → Prop) : Option Value → zW → Nat → Nat → Prop := fun v w cu su => match Nat.ble cu mc && Nat.ble su ms with
  | true => zrq ret v (Q v w)
  | false => False
def zexcP (mc ms : Nat) (X : String → zW → Prop) : Nat → String → zL → zW → Nat → Nat → Prop := fun _ E _ w cu su => match Nat.ble cu mc && Nat.ble su ms with
  | true => X E w
  | false => False
abbrev zTab (fl : List (Nat × Nat × Nat)) (cs : List (Nat × zCall)) (nw : List (Nat × Nat × Nat × List Value)) (th : List (Nat × String)) (st : List (Nat × Value)) (kc : List (Nat × Int32)) (ini : Bool) (ret : Option FieldType) (mc ms : Nat) (al : Bool) (n0 : Nat) (Q : Option Value → zW → Prop) (X : String → zW → Prop) : zT :=
  (fl, cs, nw, th, st, kc, zRO, ini, (mc, ms), zretP ret mc ms Q, zexcP mc ms X, (al, n0))
abbrev zTabS (L : Nat) (xs : Nat → Int32) (fl : List (Nat × Nat × Nat)) (cs : List (Nat × zCall)) (nw : List (Nat × Nat × Nat × List Value)) (th : List (Nat × String)) (st : List (Nat × Value)) (kc : List (Nat × Int32)) (ini : Bool) (ret : Option FieldType) (mc ms : Nat) (al : Bool) (n0 : Nat) (Q : Option Value → zW → Prop) (X : String → zW → Prop) : zT :=
  (fl, cs, nw, th, st, kc, [(1002, 2, 100, zOnes), (1003, 2, 100, zTens), (1000, 0, L, xs)], ini, (mc, ms), zretP ret mc ms Q, zexcP mc ms X, (al, n0))
/-- the body of a method: entry and loops -/
def zBody (T : zT) (nL : Nat) (P : List zE) (args : zS) (w : zW) : Prop := (lg_sl args).length ≤ nL ∧ ∃ (fuel : Nat) (I : List (Nat × (Nat → zK))),
  zwp T nL P (I.map (fun q => (q.1, fun L S w cu su => ∃ n, q.2 n L S w cu su))) fuel P (lv_args 0 args) [] w 0 0 ∧
  ∀ q ∈ I, ∀ (n : Nat) (L : zL) (S : zS) (w : zW) (cu su : Nat), q.2 n L S w cu su → ∃ L', zsub L' L ∧ zwp T nL P (I.map (fun q' => (q'.1, fun L S w cu su => ∃ m, m < n ∧ q'.2 m L S w cu su))) fuel (zfind q.1 P) L' S w cu su
theorem zlv_args (ad : Nat → Nat) : ∀ (args : zS) (k : Nat), lv_args k (args.map (zcv ad)) = zcl ad (lv_args k args)
  | [], k => rfl
  | v :: t, k => by
    simp only [List.map_cons, lv_args, zcv_cat, zlv_args ad t]
    rfl
theorem zlg_len (ad : Nat → Nat) : ∀ (args : zS), (lg_sl (args.map (zcv ad))).length = (lg_sl args).length
  | [] => rfl
  | v :: t => by
    have ih := zlg_len ad t
    have e : (if (zcv ad v).category = 2 then [Slot.val (zcv ad v), Slot.second] else [Slot.val (zcv ad v)]).length = (if v.category = 2 then [Slot.val v, Slot.second] else [Slot.val v]).length := by
      rw [zcv_cat]
      split <;> rfl
    unfold lg_sl at ih ⊢
    simp only [List.map_cons, List.flatMap_cons, List.length_append, e, ih]
/-- the loops of a body -/
theorem zloops {Γ : zX} {T : zT} {own : String} (C : zOK Γ T own) {P : List zE} (hP : zPg Γ P) {fuel : Nat} {I : List (Nat × (Nat → zK))} (hI : ∀ q ∈ I, ∃ x r, zfind q.1 P = x :: r)
    (h : ∀ q ∈ I, ∀ (n : Nat) (L : zL) (S : zS) (w : zW) (cu su : Nat), q.2 n L S w cu su → ∃ L', zsub L' L ∧ zwp T Γ.nL P (I.map (fun q' => (q'.1, fun L S w cu su => ∃ m, m < n ∧ q'.2 m L S w cu su))) fuel (zfind q.1 P) L' S w cu su) :
    ∀ (n : Nat), ∀ q ∈ I, ∀ (L : zL) (S : zS) (w : zW) (cu su : Nat), q.2 n L S w cu su → zSm Γ q.1 L S w cu su := by
  intro n
  induction n using Nat.strongRecOn with
  | ind n ih =>
    intro q hq L S w cu su hh
    obtain ⟨L', hs, hw⟩ := h q hq n L S w cu su hh
    refine zSm_sub hs ?_
    obtain ⟨x, r, e⟩ := hI q hq
    have e1 := zfind_s.2 x r e
    rw [← e1]
    refine zwp_sound C hP (cut := I.map (fun q' => (q'.1, fun L S w cu su => ∃ m, m < n ∧ q'.2 m L S w cu su))) ?_ fuel _ zfind_s.1 L' S w cu su hw x r e
    intro c hc L2 S2 w2 cu2 su2 hcc
    obtain ⟨q', hq', rfl⟩ := List.mem_map.mp hc
    obtain ⟨k, hk, hh2⟩ := hcc
    exact ih k hk q' hq' L2 S2 w2 cu2 su2 hh2
theorem zbody_sound {Γ : zX} {T : zT} {own : String} (C : zOK Γ T own) {P : List zE} (hP : zPg Γ P) {q0 : zE} {P' : List zE} (hP0 : P = q0 :: P') (h0 : q0.1 = 0) {args : zS} {w : zW} (h : zBody T Γ.nL P args w) : zSm Γ 0 (lv_args 0 args) [] w 0 0 := by
  obtain ⟨-, fuel, I, h1, h2⟩ := h
  have hI : ∀ q ∈ I, ∀ n L S w cu su, q.2 n L S w cu su → ∃ x r, zfind q.1 P = x :: r := by
    intro q hq n L S w cu su hh
    obtain ⟨L', -, hw⟩ := h2 q hq n L S w cu su hh
    cases hf : zfind q.1 P with
    | nil => rw [hf] at hw; cases fuel <;> exact hw.elim
    | cons x r => exact ⟨x, r, rfl⟩
  have key : ∀ (n : Nat), ∀ q ∈ I, ∀ (L : zL) (S : zS) (w : zW) (cu su : Nat), q.2 n L S w cu su → zSm Γ q.1 L S w cu su := by
    intro n
    induction n using Nat.strongRecOn with
    | ind n ih =>
      intro q hq L S w cu su hh
      obtain ⟨L', hs, hw⟩ := h2 q hq n L S w cu su hh
      refine zSm_sub hs ?_
      obtain ⟨x, r, e⟩ := hI q hq n L S w cu su hh
      have e1 := zfind_s.2 x r e
      rw [← e1]
      refine zwp_sound C hP (cut := I.map (fun q' => (q'.1, fun L S w cu su => ∃ m, m < n ∧ q'.2 m L S w cu su))) ?_ fuel _ zfind_s.1 L' S w cu su hw x r e
      intro c hc L2 S2 w2 cu2 su2 hcc
      obtain ⟨q', hq', rfl⟩ := List.mem_map.mp hc
      obtain ⟨k, hk, hh2⟩ := hcc
      exact ih k hk q' hq' L2 S2 w2 cu2 su2 hh2
  have h9 := zwp_sound C hP (cut := I.map (fun q => (q.1, fun L S w cu su => ∃ n, q.2 n L S w cu su))) (fun c hc L2 S2 w2 cu2 su2 hcc => by
    obtain ⟨q', hq', rfl⟩ := List.mem_map.mp hc
    obtain ⟨k, hh2⟩ := hcc
    exact key k q' hq' L2 S2 w2 cu2 su2 hh2) fuel P (fun _ h => h) _ _ _ _ _ h1 q0 P' hP0
  rw [h0] at h9
  exact h9
section ZM
variable {p : Program} {l : Launch} {e : Env} {R : Room} {s : State} {m : MethodId} {args : Array Value} {below : List Frame} {meth : Method} {c : Code} {cc : ByteArray} {nL : Nat} {G : va_G} {cA : Nat → ClassId} {ad : Nat → Nat} {w0 : zW} {al : Bool} {mc ms : Nat} {Q : Option Value → zW → Prop} {X : String → zW → Prop}
abbrev zGam (p : Program) (l : Launch) (e : Env) (R : Room) (s : State) (m : MethodId) (args : Array Value) (below : List Frame) (meth : Method) (c : Code) (cc : ByteArray) (nL : Nat) (G : va_G) (cA : Nat → ClassId) (ad : Nat → Nat) (w0 : zW) (al : Bool) (mc ms : Nat) (Q : Option Value → zW → Prop) (X : String → zW → Prop) : zX :=
  (p, l, e, R, s, m, args, below, meth, c, cc, nL, G, cA, va_A (zcw cA ad w0) s.heap.size, ad, (al, w0.length), vx_MQ below (zQc G cA ad w0 s.heap.size al Q) (zXc G cA ad w0 s.heap.size al X) args s mc ms (va_A (zcw cA ad w0) s.heap.size))
theorem zret_ok {T : zT} {ret : Option FieldType} (hx : p.tables.exec = Jvm.exec) (hb : c.code = cc) (hr : meth.sig.returnType = ret) (hlocks : meth.locks = false) (hT : T.ret = zretP ret mc ms Q) : zRetOK (zGam p l e R s m args below meth c cc nL G cA ad w0 al mc ms Q X) T := by
  intro v pc i L w cu su hd hi h ad' H locs ls hP hD hS hl ha
  rw [hT] at h
  unfold zretP at h
  split at h
  · rename_i hbl
    simp only [Bool.and_eq_true] at hbl
    have fin : ∀ (r : Option Value), Q r w → ∀ t : State, t.heap = H → s.WarmedH t.vm → zQc G cA ad w0 s.heap.size al Q args s (.returned (r.map (zcv ad'))) t := by
      intro r hq t ht hW
      exact ⟨⟨r, w, ad', rfl, hq, ha, by rw [ht]; exact hP, hD⟩, hS.F ht⟩
    refine W.widen (Nat.le_of_ble_eq_true hbl.1) (Nat.le_of_ble_eq_true hbl.2) (vx_ret ?_)
    unfold zrq at h
    split at h
    · -- int
      rename_i x
      cases hi
      exact W.iret (v := x) hx hb hr (fin (some (.int x)) h) hS.2.2 hd hlocks
    · rename_i x
      cases hi
      exact W.zret (v := x) hx hb hr (by rcases h.1 with rfl | rfl <;> rfl) (fin (some (.int x)) h.2) hS.2.2 hd hlocks
    · rename_i ty x _ _
      cases hi
      exact W.zret (v := x) hx hb hr h.1 (fin (some (.int x)) h.2) hS.2.2 hd hlocks
    · cases hi
      exact W.vret hx hb hr (fin none h) hS.2.2 hd hlocks
    · rename_i o x
      cases hi
      exact W.aret (v := .ref (ad' x)) hx hb hr (Or.inl ⟨_, rfl⟩) (Or.inr ⟨_, rfl⟩) (fin (some (.ref x)) h) hS.2.2 hd hlocks
    · exact h.elim
  · exact h.elim
theorem zexc_ok {T : zT} (hout : ∀ x ∈ c.exceptionTable.toList, False) (hlocks : meth.locks = false) (hT : T.exc = zexcP mc ms X) : zExcOK (zGam p l e R s m args below meth c cc nL G cA ad w0 al mc ms Q X) T := by
  intro pc E L S w cu su h ad' H locs ls ce q9 hP hD hS hl ha h1 h2 h3
  rw [hT] at h
  unfold zexcP at h
  split at h
  · rename_i hbl
    simp only [Bool.and_eq_true] at hbl
    exact vx_out (fun x hx => (hout x hx).elim) hlocks h1 h2 h3 (fun t ht hvm => ⟨⟨w, ad', h, ha, by rw [ht]; exact hP, hD⟩, hS.F ht⟩) hS.2.2 (Nat.le_of_ble_eq_true hbl.1) (Nat.le_of_ble_eq_true hbl.2)
  · exact h.elim
theorem zth_ok {T : zT} {own : String} {q : Nat × String} (hx : p.tables.exec = Jvm.exec) (hb : c.code = cc) (hl0 : l.stackTraces = false) (hml : c.maxLocals = nL) (hown : s.vm.findClass own = some m.cls) (hE : zEnv G cA ad s (va_A (zcw cA ad w0) s.heap.size) s.heap) (hout : ∀ x ∈ c.exceptionTable.toList, False) (hlocks : meth.locks = false) (hRf : 6 ≤ R.frames) (hRl : 100 ≤ R.locals) (hRc : mc ≤ R.cells) (hRs : ms ≤ R.slots) (hT : T.exc = zexcP mc ms X) (hq : zThrow cc own q) : zThOK (zGam p l e R s m args below meth c cc nL G cA ad w0 al mc ms Q X) T q := by
  intro L S w cu su h hcat ad' H locs ls hP hD hS hl ha
  obtain ⟨text, ik, is, ic, ps, q1, q2, q3, q4, d0, d3, dd⟩ := hq
  rw [hT] at h
  unfold zexcP at h
  split at h
  · rename_i hbl
    simp only [Bool.and_eq_true] at hbl
    have b1 := Nat.le_of_ble_eq_true hbl.1
    have b2 := Nat.le_of_ble_eq_true hbl.2
    have hts : ∀ w ∈ zTs, w.before args s = true := fun w hw => word_at (State.WarmedH.refl s) (good_of_word (zgood hw)) (hE.1 w hw)
    obtain ⟨sa, hstr⟩ := hE.2.2.1 _ q3
    have hall := List.all_eq_true.mp q4
    have hat : ∀ w ∈ vx_atS own ic q.2 ["java/lang/RuntimeException", "java/lang/Exception"], w.before args s = true := by
      intro w hw
      have h9 := hall w hw
      simp only [Bool.and_eq_true, Bool.or_eq_true, decide_eq_true_eq] at h9
      rcases h9.2 with ⟨g1, g2⟩ | g
      · exact hts w (List.mem_filter.mpr ⟨List.mem_cons_of_mem _ g1, g2⟩)
      · exact zOth_use g (hE.2.1.2.1 w g)
    have hgood : ∀ w ∈ Cond.classLink own ik q.2 :: Cond.initialized q.2 :: vx_atS own ic q.2 ["java/lang/RuntimeException", "java/lang/Exception"], vx_ot w = true := by
      intro w hw
      rcases List.mem_cons.mp hw with rfl | hw
      · rfl
      · rcases List.mem_cons.mp hw with rfl | hw
        · rfl
        · have h9 := hall w hw
          simp only [Bool.and_eq_true] at h9
          exact h9.1
    have hcs : ((S.map (zcv ad')).map fun v => v.category).sum ≤ 8 := by rw [zcat_map]; exact hcat
    rcases dd with ⟨d4, d6, d9⟩ | ⟨d4, d6, d9⟩
    · exact vx_throwS (names := ["java/lang/RuntimeException", "java/lang/Exception"]) (A := va_A (zcw cA ad w0) s.heap.size) hx hb hl0 hown q1 (by decide +kernel) (hts _ (zins_in q2 _ (by simp))) (hts _ (zins_in q2 _ (by simp))) hstr hat hgood hE.2.2.2.1 hE.2.2.2.2.1 hS (hl.1.trans hml.symm) d0 d3 d4 d6 d9 (fun x hx => (hout x hx).elim) (show 2 + 3 < R.frames by omega) (show _ + (13 * (2 + 1) + 43) ≤ R.locals by omega) (show cu + 1 ≤ R.cells by omega) (show su + 6 ≤ R.slots by omega) hlocks
        (fun t hvm hz hk => ⟨⟨w, ad', h, ha, hP.kept (fun k q hkq => hk q.1 ((hP k q hkq).lt)), hD⟩, ⟨Nat.le_trans hS.1 hz, fun a h1 h2 => (hk a (Nat.lt_of_lt_of_le h1 hS.1)).trans (hS.2.1 a h1 h2)⟩⟩)
        hS.2.2 (by omega) (by omega)
    · exact vx_throwSW (names := ["java/lang/RuntimeException", "java/lang/Exception"]) (A := va_A (zcw cA ad w0) s.heap.size) hx hb hl0 hown q1 (by decide +kernel) (hts _ (zins_in q2 _ (by simp))) (hts _ (zins_in q2 _ (by simp))) hstr hat hgood hE.2.2.2.1 hE.2.2.2.2.1 hS (hl.1.trans hml.symm) d0 d3 d4 d6 d9 (fun x hx => (hout x hx).elim) (show 2 + 3 < R.frames by omega) (show _ + (13 * (2 + 1) + 43) ≤ R.locals by omega) (show cu + 1 ≤ R.cells by omega) (show su + 6 ≤ R.slots by omega) hlocks
        (fun t hvm hz hk => ⟨⟨w, ad', h, ha, hP.kept (fun k q hkq => hk q.1 ((hP k q hkq).lt)), hD⟩, ⟨Nat.le_trans hS.1 hz, fun a h1 h2 => (hk a (Nat.lt_of_lt_of_le h1 hS.1)).trans (hS.2.1 a h1 h2)⟩⟩)
        hS.2.2 (by omega) (by omega)
  · exact h.elim
end ZM
set_option maxHeartbeats 4000000 in
/-- the contract of a method without handlers -/
theorem zCT_of {l : Launch} (hl0 : l.stackTraces = false) {y : MethodName} {cc : ByteArray} {maxL : Nat} {ret : Option FieldType} {d mc ms : Nat} {al : Bool} {Sp : zSpec} {own : String} (fl : List (Nat × Nat × Nat)) (cs : List (Nat × zCall)) (nw : List (Nat × Nat × Nat × List Value)) (th : List (Nat × String)) (kc : List (Nat × Int32)) (st : Value → List (Nat × Value)) (ini : Bool) (P : List zE) (hown : y.cls = own) (hy : plainName y.cls = true)
    (hP : ∀ q ∈ P, decode cc q.1 = .ok (q.2.1, q.2.2.1) ∧ ztg q.2.1 q.1 q.2.2.1 q.2.2.2 = true) (hP0 : ∃ q0 P', P = q0 :: P' ∧ q0.1 = 0) (hfl : ∀ q ∈ fl, zFld own q) (hini : ini = true → y.name = "<init>" ∧ ∀ q ∈ fl, ∀ C, zCl[q.2.1]? = some C → (C.2.1 q.2.2).1 = own)
    (hcs : ∀ q ∈ cs, zCallable l own d q) (hnw : ∀ q ∈ nw, zNew own q) (hth : ∀ q ∈ th, zThrow cc own q) (hst : ∀ v0 q, q ∈ st v0 → zStat own v0 q) (hkc : ∀ q ∈ kc, Cond.constant own q.1 q.2 ∈ zTs)
    (body : ∀ args w Q X v0, (v0 = .null ∨ v0 = .ref 1001) → Sp args w Q X → zBody (zTab fl cs nw th (st v0) kc ini ret mc ms al w.length Q X) maxL P args w) (hd2 : th = [] ∨ 2 ≤ d := by first | exact Or.inl rfl | exact Or.inr (by decide)) : CT l y (.code y cc maxL ret) d mc ms al Sp := by
  intro G cA ad w args sz Q X hSp
  refine vx_ofW (cc := cc) (maxL := maxL) (ret := ret) hy rfl ?_
  intro p e s m args' below meth c s₁ B hml hout hv
  obtain ⟨rfl, hsz, hP1, hD1, hE⟩ := hv
  subst hsz
  have hx := B.exec
  have hb := B.bytes
  have hr := B.returns
  have hownc : s.vm.findClass own = some m.cls := by rw [← hown]; exact findClass_of_methodNamed B.named
  have hlocks := B.notSynchronized
  obtain ⟨v0, hv0, hZ0⟩ := hE.2.2.2.2.2.2.1
  obtain ⟨hlen, hbody⟩ := body args w Q X v0 hv0 hSp
  obtain ⟨q0, P', hP0, h00⟩ := hP0
  have hexc := zexc_ok (p := p) (l := l) (e := e) (R := zRm d mc ms) (s := s) (m := m) (args := (args.map (zcv ad)).toArray) (below := below) (meth := meth) (c := c) (cc := cc) (nL := maxL) (G := G) (cA := cA) (ad := ad) (w0 := w) (al := al) (mc := mc) (ms := ms) (Q := Q) (X := X) (T := zTab fl cs nw th (st v0) kc ini ret mc ms al w.length Q X) hout hlocks rfl
  have hA : ∀ q, s.heap.size ≤ q → va_A (zcw cA ad w) s.heap.size q := fun q h => Or.inr h
  have base : zBase (zGam p l e (zRm d mc ms) s m (args.map (zcv ad)).toArray below meth c cc maxL G cA ad w al mc ms Q X) (zTab fl cs nw th (st v0) kc ini ret mc ms al w.length Q X) l own d :=
    ⟨rfl, hx, hb, hml, hownc, hE, Nat.le_refl _, Nat.le_refl _, hA, Nat.le_refl _, Nat.le_refl _, rfl, rfl, hexc⟩
  have hts : ∀ x ∈ zTs, x.before (args.map (zcv ad)).toArray s = true := zts base
  have ok : zOK (zGam p l e (zRm d mc ms) s m (args.map (zcv ad)).toArray below meth c cc maxL G cA ad w al mc ms Q X) (zTab fl cs nw th (st v0) kc ini ret mc ms al w.length Q X) own := by
    refine ⟨hx, hb, hownc, hts, hE.2.2.2.2.2.2.2.1, hA, rfl, rfl, Nat.le_refl _, Nat.le_refl _, hfl, fun h => ⟨?_, (hini h).2⟩, fun q hq => hcs q hq _ _ base, hnw, fun q hq => have hd9 : 2 ≤ d := hd2.resolve_left (fun e => by rw [e] at hq; exact absurd hq List.not_mem_nil); zth_ok hx hb hl0 hml hownc hE hout hlocks (by simp only [zRm]; omega) (by simp only [zRm]; omega) (Nat.le_refl _) (Nat.le_refl _) rfl (hth q hq), fun q hq => ?_, fun q hq => hts _ (hkc q hq), fun q hq => ?_, zret_ok hx hb hr hlocks rfl⟩
    · rw [← (hini h).1]
      exact (name_of_methodNamed B.named B.method).1
    · rcases hst v0 q hq with ⟨e1, e2⟩ | ⟨e1, e2⟩ | ⟨e1, e2⟩ | ⟨e1, e2⟩
      · refine ⟨by rw [e1]; rfl, "java/lang/String", "COMPACT_STRINGS", "Z", ?_, hts _ e2⟩
        rw [e1]
        exact hE.2.2.2.2.2.1
      · refine ⟨by rw [e1]; rcases hv0 with rfl | rfl <;> rfl, "jdk/internal/util/Preconditions", "SIOOBE_FORMATTER", "Ljava/util/function/BiFunction;", ?_, hts _ e2⟩
        rw [e1]
        exact hZ0
      · refine ⟨by rw [e1]; rfl, "java/lang/Integer", "DigitOnes", "[B", ?_, hts _ e2⟩
        rw [e1]
        exact hE.2.2.2.2.2.2.2.2.1.1
      · refine ⟨by rw [e1]; rfl, "java/lang/Integer", "DigitTens", "[B", ?_, hts _ e2⟩
        rw [e1]
        exact hE.2.2.2.2.2.2.2.2.2.1
    · rcases List.mem_cons.mp hq with rfl | hq
      · exact ⟨by decide, .byte, rfl, hE.2.2.2.2.2.2.2.2.1.2⟩
      · rcases List.mem_cons.mp hq with rfl | hq
        · exact ⟨by decide, .byte, rfl, hE.2.2.2.2.2.2.2.2.2.2⟩
        · exact absurd hq List.not_mem_nil
  have hbd := zbody_sound ok hP hP0 h00 ⟨hlen, hbody⟩
  have hlv := lv_entry (args.map (zcv ad)) (n := maxL) (by rw [zlg_len]; exact hlen)
  rw [lg_entry_eq]
  rw [zlv_args] at hlv
  exact hbd ad s.heap [] _ hP1 hD1.self va_S.rf hlv (fun _ _ => rfl)
set_option maxHeartbeats 4000000 in
/-- the contract of a method without handlers that reads the script -/
theorem zCT_ofS {l : Launch} (hl0 : l.stackTraces = false) {y : MethodName} {cc : ByteArray} {maxL : Nat} {ret : Option FieldType} {d mc ms : Nat} {al : Bool} {Sp : zSpec} {own : String} (fl : List (Nat × Nat × Nat)) (cs : List (Nat × zCall)) (nw : List (Nat × Nat × Nat × List Value)) (th : List (Nat × String)) (kc : List (Nat × Int32)) (st : Value → List (Nat × Value)) (ini : Bool) (P : List zE) (hown : y.cls = own) (hy : plainName y.cls = true)
    (hP : ∀ q ∈ P, decode cc q.1 = .ok (q.2.1, q.2.2.1) ∧ ztg q.2.1 q.1 q.2.2.1 q.2.2.2 = true) (hP0 : ∃ q0 P', P = q0 :: P' ∧ q0.1 = 0) (hfl : ∀ q ∈ fl, zFld own q) (hini : ini = true → y.name = "<init>" ∧ ∀ q ∈ fl, ∀ C, zCl[q.2.1]? = some C → (C.2.1 q.2.2).1 = own)
    (hcs : ∀ q ∈ cs, zCallable l own d q) (hnw : ∀ q ∈ nw, zNew own q) (hth : ∀ q ∈ th, zThrow cc own q) (hst : ∀ v0 q, q ∈ st v0 → zStat own v0 q) (hkc : ∀ q ∈ kc, Cond.constant own q.1 q.2 ∈ zTs)
    (body : ∀ args w Q X v0 L xs, (v0 = .null ∨ v0 = .ref 1001) → L < 2 ^ 31 → Sp args w Q X → zBody (zTabS L xs fl cs nw th (st v0) kc ini ret mc ms al w.length Q X) maxL P args w) (hd2 : th = [] ∨ 2 ≤ d := by first | exact Or.inl rfl | exact Or.inr (by decide)) : CT l y (.code y cc maxL ret) d mc ms al Sp := by
  intro G cA ad w args sz Q X hSp
  refine vx_ofW (cc := cc) (maxL := maxL) (ret := ret) hy rfl ?_
  intro p e s m args' below meth c s₁ B hml hout hv
  obtain ⟨rfl, hsz, hP1, hD1, hE⟩ := hv
  subst hsz
  have hx := B.exec
  have hb := B.bytes
  have hr := B.returns
  have hownc : s.vm.findClass own = some m.cls := by rw [← hown]; exact findClass_of_methodNamed B.named
  have hlocks := B.notSynchronized
  obtain ⟨v0, hv0, hZ0⟩ := hE.2.2.2.2.2.2.1
  obtain ⟨L, xs, hL, hTS⟩ := hE.2.1.2.2
  obtain ⟨hlen, hbody⟩ := body args w Q X v0 L xs hv0 hL hSp
  obtain ⟨q0, P', hP0, h00⟩ := hP0
  have hexc := zexc_ok (p := p) (l := l) (e := e) (R := zRm d mc ms) (s := s) (m := m) (args := (args.map (zcv ad)).toArray) (below := below) (meth := meth) (c := c) (cc := cc) (nL := maxL) (G := G) (cA := cA) (ad := ad) (w0 := w) (al := al) (mc := mc) (ms := ms) (Q := Q) (X := X) (T := zTabS L xs fl cs nw th (st v0) kc ini ret mc ms al w.length Q X) hout hlocks rfl
  have hA : ∀ q, s.heap.size ≤ q → va_A (zcw cA ad w) s.heap.size q := fun q h => Or.inr h
  have base : zBase (zGam p l e (zRm d mc ms) s m (args.map (zcv ad)).toArray below meth c cc maxL G cA ad w al mc ms Q X) (zTabS L xs fl cs nw th (st v0) kc ini ret mc ms al w.length Q X) l own d :=
    ⟨rfl, hx, hb, hml, hownc, hE, Nat.le_refl _, Nat.le_refl _, hA, Nat.le_refl _, Nat.le_refl _, rfl, rfl, hexc⟩
  have hts : ∀ x ∈ zTs, x.before (args.map (zcv ad)).toArray s = true := zts base
  have ok : zOK (zGam p l e (zRm d mc ms) s m (args.map (zcv ad)).toArray below meth c cc maxL G cA ad w al mc ms Q X) (zTabS L xs fl cs nw th (st v0) kc ini ret mc ms al w.length Q X) own := by
    refine ⟨hx, hb, hownc, hts, hE.2.2.2.2.2.2.2.1, hA, rfl, rfl, Nat.le_refl _, Nat.le_refl _, hfl, fun h => ⟨?_, (hini h).2⟩, fun q hq => hcs q hq _ _ base, hnw, fun q hq => have hd9 : 2 ≤ d := hd2.resolve_left (fun e => by rw [e] at hq; exact absurd hq List.not_mem_nil); zth_ok hx hb hl0 hml hownc hE hout hlocks (by simp only [zRm]; omega) (by simp only [zRm]; omega) (Nat.le_refl _) (Nat.le_refl _) rfl (hth q hq), fun q hq => ?_, fun q hq => hts _ (hkc q hq), fun q hq => ?_, zret_ok hx hb hr hlocks rfl⟩
    · rw [← (hini h).1]
      exact (name_of_methodNamed B.named B.method).1
    · rcases hst v0 q hq with ⟨e1, e2⟩ | ⟨e1, e2⟩ | ⟨e1, e2⟩ | ⟨e1, e2⟩
      · refine ⟨by rw [e1]; rfl, "java/lang/String", "COMPACT_STRINGS", "Z", ?_, hts _ e2⟩
        rw [e1]
        exact hE.2.2.2.2.2.1
      · refine ⟨by rw [e1]; rcases hv0 with rfl | rfl <;> rfl, "jdk/internal/util/Preconditions", "SIOOBE_FORMATTER", "Ljava/util/function/BiFunction;", ?_, hts _ e2⟩
        rw [e1]
        exact hZ0
      · refine ⟨by rw [e1]; rfl, "java/lang/Integer", "DigitOnes", "[B", ?_, hts _ e2⟩
        rw [e1]
        exact hE.2.2.2.2.2.2.2.2.1.1
      · refine ⟨by rw [e1]; rfl, "java/lang/Integer", "DigitTens", "[B", ?_, hts _ e2⟩
        rw [e1]
        exact hE.2.2.2.2.2.2.2.2.2.1
    · rcases List.mem_cons.mp hq with rfl | hq
      · exact ⟨by decide, .byte, rfl, hE.2.2.2.2.2.2.2.2.1.2⟩
      · rcases List.mem_cons.mp hq with rfl | hq
        · exact ⟨by decide, .byte, rfl, hE.2.2.2.2.2.2.2.2.2.2⟩
        · rcases List.mem_cons.mp hq with rfl | hq
          · exact ⟨Nat.le_refl 1000, .int, rfl, hTS⟩
          · exact absurd hq List.not_mem_nil
  have hbd := zbody_sound ok hP hP0 h00 ⟨hlen, hbody⟩
  have hlv := lv_entry (args.map (zcv ad)) (n := maxL) (by rw [zlg_len]; exact hlen)
  rw [lg_entry_eq]
  rw [zlv_args] at hlv
  exact hbd ad s.heap [] _ hP1 hD1.self va_S.rf hlv (fun _ _ => rfl)
