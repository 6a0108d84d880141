/-! ===== METHODS WITH A HANDLER: what they catch they answer with -3 ===== -/
theorem CT_mono {l : Launch} {y : MethodName} {wd : Cond} {d mc ms : Nat} {al : Bool} {Sp : zSpec} (h : CT l y wd d mc ms al Sp) : CT l y wd d mc ms al (fun args w Q X => ∃ Q0 X0, Sp args w Q0 X0 ∧ (∀ r w', Q0 r w' → Q r w') ∧ (∀ E w', X0 E w' → X E w')) := by
  intro G cA ad w args sz Q X ⟨Q0, X0, h0, hq, hx⟩
  intro p e ha hc hk s m args' below hf happ hP ht
  obtain ⟨k, o, h1, h2, h3, hQ⟩ := h G cA ad w args sz Q0 X0 h0 p e ha hc hk s m args' below hf happ hP ht
  refine ⟨k, o, h1, h2, h3, ?_⟩
  rcases hQ with ⟨⟨⟨r, w', ad', g1, g2, g3⟩, g4⟩, g5⟩ | ⟨q, g0, E, ce, L, ⟨⟨w', ad', g1, g2⟩, g3⟩, g4⟩
  · exact Or.inl ⟨⟨⟨r, w', ad', g1, hq r w' g2, g3⟩, g4⟩, g5⟩
  · exact Or.inr ⟨q, g0, E, ce, L, ⟨⟨w', ad', hx E w' g1, g2⟩, g3⟩, g4⟩
def zMc (Sp : zSpec) : zSpec := fun args w Q X => ∃ Q0 X0, Sp args w Q0 X0 ∧ (∀ r w', Q0 r w' → Q r w') ∧ (∀ E w', X0 E w' → X E w')
/-- a handler: exception, handler's place, catch type, slot of the exception, length of its store; it answers -3 -/
abbrev zHd : Type := String × Nat × Nat × Nat × Nat
def zHdOK (cc : ByteArray) (own : String) (nL : Nat) (q : zHd) : Prop :=
  (q.2.2.1 ≠ 0 ∧ q.2.2.2.1 < nL) ∧ Cond.classLink own q.2.2.1 q.1 ∈ zTs ∧ Cond.castable q.1 q.1 ∈ zOth ∧
  ((∃ i : Fin 4, i.val = q.2.2.2.1 ∧ q.2.2.2.2 = 1 ∧ decode cc q.2.1 = .ok (.astore_n i, 1)) ∨ (q.2.2.2.2 = 2 ∧ decode cc q.2.1 = .ok (.astore q.2.2.2.1, 2))) ∧
  decode cc (q.2.1 + q.2.2.2.2) = .ok (.bipush (-3), 2) ∧ decode cc (q.2.1 + q.2.2.2.2 + 2) = .ok (.ireturn, 1)
/-- the handlers in their order, each behind those that don't take its exception -/
def zHdS (en : Nat) (hds : List zHd) : List (Nat × Nat × Nat × Nat) := hds.map (fun q => (0, en, q.2.1, q.2.2.1))
def zexcH (en : Nat) (hds : List zHd) (mc ms : Nat) (Q : Option Value → zW → Prop) : Nat → String → zL → zW → Nat → Nat → Prop := fun pc E _ w cu su =>
  ∃ q, hds = [q] ∧ q.1 = E ∧ pc < en ∧ cu ≤ mc ∧ su ≤ ms ∧ Q (some (.int (-nI 3))) w
section ZH
variable {p : Program} {l : Launch} {e : Env} {R : Room} {s : State} {m : MethodId} {args : Array Value} {below : List Frame} {meth : Method} {c : Code} {cc : ByteArray} {nL : Nat} {G : va_G} {cA : Nat → ClassId} {ad : Nat → Nat} {w0 : zW} {al : Bool} {mc ms : Nat} {Q : Option Value → zW → Prop} {X : String → zW → Prop}
theorem zexcH_ok {T : zT} {own : String} {en : Nat} {hds : List zHd} (hx : p.tables.exec = Jvm.exec) (hb : c.code = cc) (hr : meth.sig.returnType = some .int) (hlocks : meth.locks = false) (hown : s.vm.findClass own = some m.cls) (hE : zEnv G cA ad s (va_A (zcw cA ad w0) s.heap.size) s.heap)
    (htab : c.exceptionTable.toList = tableOf (zHdS en hds)) (hok : ∀ q ∈ hds, zHdOK cc own nL q) (hT : T.exc = zexcH en hds mc ms Q) : zExcOK (zGam p l e R s m args below meth c cc nL G cA ad w0 al mc ms Q X) T := by
  intro pc E L S w cu su h ad' H locs ls ce q9 hP hD hS hl ha h1 h2 h3
  rw [hT] at h
  obtain ⟨q, e1, rfl, hpc, hcu, hsu, hq⟩ := h
  have hts : ∀ w ∈ zTs, w.before args s = true := fun w hw => word_at (State.WarmedH.refl s) (good_of_word (zgood hw)) (hE.1 w hw)
  obtain ⟨⟨k1, k2⟩, k3, k4, k5, k7, k8⟩ := hok q (by rw [e1]; simp)
  have fin : ∀ t : State, t.heap = H → s.WarmedH t.vm → zQc G cA ad w0 s.heap.size al Q args s (.returned (some (.int (-nI 3)))) t := by
    intro t ht hW
    exact ⟨⟨some (.int (-nI 3)), w, ad', rfl, hq, ha, by rw [ht]; exact hP, hD⟩, hS.F ht⟩
  have ret : ∀ ls' : Array Slot, W p l e R s m args below meth c H locs cu su (vx_MQ below (zQc G cA ad w0 s.heap.size al Q) (zXc G cA ad w0 s.heap.size al X) args s mc ms (va_A (zcw cA ad w0) s.heap.size)) (F0 m (q.2.1 + q.2.2.2.2 + 2) ls' [.int (-nI 3)]) := fun ls' =>
    W.widen hcu hsu (vx_ret (W.iret (v := -nI 3) hx hb hr fin hS.2.2 k8 hlocks))
  have kc : ∀ ls' : Array Slot, W p l e R s m args below meth c H locs cu su (vx_MQ below (zQc G cA ad w0 s.heap.size al Q) (zXc G cA ad w0 s.heap.size al X) args s mc ms (va_A (zcw cA ad w0) s.heap.size)) (F0 m (q.2.1 + q.2.2.2.2) ls' []) := fun ls' => lv_bipush hx hb k7 (v := -nI 3) (by decide) (ret ls')
  refine vx_catch hown [] ⟨0, en, q.2.1, q.2.2.1⟩ [] (by rw [htab, e1]; simp [zHdS, tableOf]) (fun z hz => absurd hz List.not_mem_nil) ?_ k1 (hts _ k3) (zOth_use k4 (hE.2.1.2.1 _ k4)) h1 h2 h3 ?_
  · simp [covers, hpc]
  · show W p l e R s m args below meth c H locs cu su _ (F0 m q.2.1 ls [.ref q9])
    rcases k5 with ⟨i, i1, i2, i3⟩ | ⟨i2, i3⟩
    · have kc1 := kc
      rw [i2] at kc1
      exact lv_astore_n hx hb i3 rfl hl (show i.val < nL by omega) rfl (fun ls' _ => kc1 ls')
    · have kc1 := kc
      rw [i2] at kc1
      exact lv_astore hx hb i3 hl k2 rfl (fun ls' _ => kc1 ls')
end ZH
/-- the contract of a method with handlers -/
theorem zCT_ofH {l : Launch} {y : MethodName} {cc : ByteArray} {maxL : Nat} {d mc ms : Nat} {Sp : zSpec} {own : String} (cs : List (Nat × zCall)) (P : List zE) (en : Nat) (hds : List zHd) (hown : y.cls = own) (hy : plainName y.cls = true)
    (hP : ∀ q ∈ P, decode cc q.1 = .ok (q.2.1, q.2.2.1) ∧ ztg q.2.1 q.1 q.2.2.1 q.2.2.2 = true) (hP0 : ∃ q0 P', P = q0 :: P' ∧ q0.1 = 0) (hcs : ∀ q ∈ cs, zCallable l own d q) (hok : ∀ q ∈ hds, zHdOK cc own maxL q)
    (body : ∀ args w Q X, Sp args w Q X → zBody ([], cs, [], [], [], [], [], false, (mc, ms), zretP (some .int) mc ms Q, zexcH en hds mc ms Q, (false, w.length)) maxL P args w) : CT l y (.codeWith y cc maxL (some .int) (zHdS en hds)) d mc ms false Sp := by
  intro G cA ad w args sz Q X hSp
  refine vx_ofWH (cc := cc) (maxL := maxL) (ret := some .int) (hh := zHdS en hds) hy rfl ?_
  intro p e s m args' below meth c s₁ B hml hv
  obtain ⟨rfl, hsz, hP1, hD1, hE⟩ := hv
  subst hsz
  have hx := B.exec
  have hb := B.bytes
  have hr := B.returns
  have hownc : s.vm.findClass own = some m.cls := by rw [← hown]; exact findClass_of_methodNamed B.named
  have hlocks := B.notSynchronized
  obtain ⟨hlen, hbody⟩ := body args w Q X hSp
  obtain ⟨q0, P', hP0, h00⟩ := hP0
  have htab := vx_table (x := y) B (atoms_spec (ws := [Cond.codeWith y cc maxL (some .int) (zHdS en hds)]) B.pre _ (List.mem_singleton.mpr rfl))
  have hexc := zexcH_ok (p := p) (l := l) (e := e) (R := zRm d mc ms) (s := s) (m := m) (args := (args.map (zcv ad)).toArray) (below := below) (meth := meth) (c := c) (cc := cc) (nL := maxL) (G := G) (cA := cA) (ad := ad) (w0 := w) (al := false) (mc := mc) (ms := ms) (Q := Q) (X := X) (T := ([], cs, [], [], [], [], [], false, (mc, ms), zretP (some .int) mc ms Q, zexcH en hds mc ms Q, (false, w.length))) hx hb hr hlocks hownc hE htab hok rfl
  have hA : ∀ q, s.heap.size ≤ q → va_A (zcw cA ad w) s.heap.size q := fun q h => Or.inr h
  have base : zBase (zGam p l e (zRm d mc ms) s m (args.map (zcv ad)).toArray below meth c cc maxL G cA ad w false mc ms Q X) ([], cs, [], [], [], [], [], false, (mc, ms), zretP (some .int) mc ms Q, zexcH en hds mc ms Q, (false, w.length)) l own d :=
    ⟨rfl, hx, hb, hml, hownc, hE, Nat.le_refl _, Nat.le_refl _, hA, Nat.le_refl _, Nat.le_refl _, rfl, rfl, hexc⟩
  have hts : ∀ x ∈ zTs, x.before (args.map (zcv ad)).toArray s = true := zts base
  have ok : zOK (zGam p l e (zRm d mc ms) s m (args.map (zcv ad)).toArray below meth c cc maxL G cA ad w false mc ms Q X) ([], cs, [], [], [], [], [], false, (mc, ms), zretP (some .int) mc ms Q, zexcH en hds mc ms Q, (false, w.length)) own :=
    ⟨hx, hb, hownc, hts, hE.2.2.2.2.2.2.2.1, hA, rfl, rfl, Nat.le_refl _, Nat.le_refl _, fun q h => absurd h List.not_mem_nil, (fun h => nomatch h), fun q hq => hcs q hq _ _ base, fun q h => absurd h List.not_mem_nil, fun q h => absurd h List.not_mem_nil, fun q h => absurd h List.not_mem_nil, fun q h => absurd h List.not_mem_nil, fun q h => absurd h List.not_mem_nil, zret_ok hx hb hr hlocks rfl⟩
  have hbd := zbody_sound ok hP hP0 h00 ⟨hlen, hbody⟩
  have hlv := lv_entry (args.map (zcv ad)) (n := maxL) (by rw [zlg_len]; exact hlen)
  rw [lg_entry_eq]
  rw [zlv_args] at hlv
  exact hbd ad s.heap [] _ hP1 hD1.self va_S.rf hlv (fun _ _ => rfl)
set_option maxHeartbeats 2000000 in
/-- a static call of a method with handlers -/
theorem zcSX {l : Launch} {own : String} {d d' idx maxL mc ms n : Nat} {al : Bool} {Sp : zSpec} {bytes : ByteArray} {ret : Option FieldType} {ps : List Nat} {y : MethodName} {hh : List (Nat × Nat × Nat × Nat)} (hM : CT l y (.codeWith y bytes maxL ret hh) d' mc ms al Sp)
    (hz : zins ps (va_wsS own idx y [.codeWith y bytes maxL ret hh]) = true) (hy : y.cls ≠ "java/lang/invoke/MethodHandle" ∧ y.cls ≠ "java/lang/invoke/VarHandle" ∧ (parseMethodDescriptor y.desc).map (fun d => d.parameters.length) = some n) (hd : d' < d) (hm : maxL ≤ 20) : zCallable l own d (idx, 1, n, none, mc, ms, al, Sp) := by
  intro Γ T B pc L S as S' w cu su QN _ hd2 hp hrc hcat hcu hsu hal hN hSp ad H locs ls hP hD hS hl ha
  obtain ⟨hlen, rfl⟩ := zpop_top hp
  obtain ⟨e1, hx, hb, hml, hown, hE, hRf, hRl, hA, hrC, hrS, hTa, hTn, hex⟩ := id B
  subst e1
  have M := hM Γ.G Γ.cA ad w as H.size QN _ hSp
  exact zcall_fin B hP hD hS hl ha hal hN (vx_runSX (As := as.map (zcv ad)) (rest := S'.map (zcv ad)) ⟨hx, hb, hml, hown, zts B⟩ M (vx_cwSW n (zts B) (zins_good hz) rfl rfl rfl hy (zroom B hd hm)) ⟨zpre_blind, fun U hU hW => zpre_at B hP hD hS ha hU hW⟩ rfl (by rw [List.length_map]; exact hlen) hl.1 zstkS (zmon hcat) hd2 ⟨Nat.le_trans hcu hrC, Nat.le_trans hsu hrS⟩)
