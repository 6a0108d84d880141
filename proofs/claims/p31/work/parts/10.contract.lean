/-! ===== CONTRACTS: what a method's call answers, over any world ===== -/
def zNest : List (String × Nat × MethodName × String) := [(RX0, 43, yX4_isCell, RX4), (RX0, 59, yX4_columnOf, RX4), (RX2, 24, yX4_depthAt, RX4)]
def zStr : List (String × Nat × String) := [(RX4, 235, "no such cell"), (RX4, 251, "out of range"), (RX4, 91, "no such place"), (RX4, 237, "no such diver"), (RX4, 257, "the diver is not free"), (RX4, 262, "too little air"), (RX4, 264, "no shape there"), (RX4, 266, "a rock"), (RX4, 129, "no room for a thing"), (RX4, 239, "no such finder"), (RX4, 158, "the shape has a finder"), (RX4, 161, "no room for a claim"), (RX4, 244, "no such claim"), (RX4, 173, "the claim does not run"), (RX4, 179, "behind the last minute"), (RX4, 247, "no such thing")]
/-- words of the tables that no good word is -/
def zOth : List Cond := [.declares ⟨"java/lang/RuntimeException", "<init>", "(Ljava/lang/String;)V"⟩, .declares ⟨"java/lang/Exception", "<init>", "(Ljava/lang/String;)V"⟩, .declares ⟨"java/lang/Throwable", "<init>", "(Ljava/lang/String;)V"⟩,
  .castable "java/lang/IndexOutOfBoundsException" "java/lang/IndexOutOfBoundsException", .castable "java/lang/IllegalArgumentException" "java/lang/IllegalArgumentException", .castable "java/lang/IllegalStateException" "java/lang/IllegalStateException"]
theorem zOth_w : ∀ w ∈ zOth, (∃ x, w = .declares x) ∨ ∃ C T, w = .castable C T := List.forall_mem_cons.mpr ⟨Or.inl ⟨_, rfl⟩, List.forall_mem_cons.mpr ⟨Or.inl ⟨_, rfl⟩, List.forall_mem_cons.mpr ⟨Or.inl ⟨_, rfl⟩, List.forall_mem_cons.mpr ⟨Or.inr ⟨_, _, rfl⟩, List.forall_mem_cons.mpr ⟨Or.inr ⟨_, _, rfl⟩, List.forall_mem_cons.mpr ⟨Or.inr ⟨_, _, rfl⟩, fun _ h => absurd h List.not_mem_nil⟩⟩⟩⟩⟩⟩
theorem zOth_warm {w : Cond} (hw : w ∈ zOth) {s U : State} (hW : s.WarmedH U.vm) (h : va_Nw w s) : va_Nw w U := by
  rcases zOth_w w hw with ⟨x, rfl⟩ | ⟨C, T, rfl⟩
  · exact va_Nw.warmD hW h
  · exact va_Nw.warmC hW h
theorem zOth_use {w : Cond} (hw : w ∈ zOth) {A : Array Value} {U : State} (h : va_Nw w U) : w.before A U = true := by
  rcases zOth_w w hw with ⟨x, rfl⟩ | ⟨C, T, rfl⟩
  · exact va_Nw.use rfl h
  · exact va_Nw.use rfl h
/-- which exceptions are no others -/
def zNc : List (String × String) := []
def zOnes (j : Nat) : Int32 := nI (48 + j % 10)
def zTens (j : Nat) : Int32 := nI (48 + j / 10)
/-- the tables' words, the texts, the static fields: what no call changes -/
def zEnv (G : va_G) (cA : Nat → ClassId) (ad : Nat → Nat) (U : State) (A : Nat → Prop) (H : Heap) : Prop :=
  (∀ w ∈ zTs, w.before #[] U = true) ∧ ((∀ q ∈ zNest, va_Nw (.methodLinkNest q.1 q.2.1 q.2.2.1 q.2.2.2) U) ∧ (∀ x ∈ zOth, va_Nw x U) ∧ ∃ (L : Nat) (xs : Nat → Int32), L < 2 ^ 31 ∧ va_T .int (ad 1000) L (fun j => .int (xs j)) A U H) ∧ (∀ q ∈ zStr, ∃ a, vk_R q.1 q.2.1 q.2.2 a U) ∧ vx_Zq Bundle.tN "UNASSIGNED_STACK" Bundle.steD A U H ∧ vx_Zq Bundle.tN "SUPPRESSED_SENTINEL" Bundle.listD A U H ∧
  va_Z "java/lang/String" "COMPACT_STRINGS" "Z" (.int 1) A U H ∧ (∃ v0 : Value, (v0 = .null ∨ v0 = .ref 1001) ∧ va_Z "jdk/internal/util/Preconditions" "SIOOBE_FORMATTER" "Ljava/util/function/BiFunction;" (zcv ad v0) A U H) ∧ va_K G zCl (ztys cA) U ∧
  (va_Z "java/lang/Integer" "DigitOnes" "[B" (.ref (ad 1002)) A U H ∧ va_T .byte (ad 1002) 100 (fun j => .int (zOnes j)) A U H) ∧ (va_Z "java/lang/Integer" "DigitTens" "[B" (.ref (ad 1003)) A U H ∧ va_T .byte (ad 1003) 100 (fun j => .int (zTens j)) A U H)
theorem zgood {w : Cond} (h : w ∈ zTs) : goodWord w = true := (List.mem_filter.mp h).2
theorem zEnv.next {G : va_G} {cA : Nat → ClassId} {ad ad' : Nat → Nat} {s U : State} {A B : Nat → Prop} {H H1 : Heap} (h : zEnv G cA ad s A H) (hW : s.WarmedH U.vm) (hk : ∀ a : Nat, a < H.size → ¬ A a → H1[a]? = H[a]?) (hAB : ∀ q, B q → A q) (ha : ∀ k, 1000 ≤ k → ad' k = ad k) : zEnv G cA ad' U B H1 := by
  obtain ⟨h1, h2, h3, h4, h5, h6, ⟨v0, h7, h8⟩, h9, ⟨h10, h11⟩, ⟨h12, h13⟩⟩ := h
  have hvm := hW.alike
  refine ⟨fun w hw => word_at hW (good_of_word (zgood hw)) (h1 w hw), ⟨fun q hq => va_Nw.warmM hW (h2.1 q hq), fun x hx => zOth_warm hx hW (h2.2.1 x hx), (by obtain ⟨L, xs, hL, hT⟩ := h2.2.2; exact ⟨L, xs, hL, by rw [ha 1000 (by decide)]; exact ((hT.kept hk).narrow hAB).moved hvm⟩)⟩, fun q hq => ?_, ((h4.kept hk).narrow hAB).moved hvm, ((h5.kept hk).narrow hAB).moved hvm, ((h6.kept hk).narrow hAB).moved hvm, ⟨v0, h7, ?_⟩, h9.moved hvm, ⟨?_, ?_⟩, ⟨?_, ?_⟩⟩
  · obtain ⟨a, ha⟩ := h3 q hq
    exact ⟨a, vk_R.warm hW ha⟩
  · have e : zcv ad' v0 = zcv ad v0 := by
      rcases h7 with rfl | rfl
      · rfl
      · exact congrArg Value.ref (ha 1001 (by decide))
    rw [e]
    exact ((h8.kept hk).narrow hAB).moved hvm
  · rw [ha 1002 (by decide)]
    exact ((h10.kept hk).narrow hAB).moved hvm
  · rw [ha 1002 (by decide)]
    exact ((h11.kept hk).narrow hAB).moved hvm
  · rw [ha 1003 (by decide)]
    exact ((h12.kept hk).narrow hAB).moved hvm
  · rw [ha 1003 (by decide)]
    exact ((h13.kept hk).narrow hAB).moved hvm
def zRm (d mc ms : Nat) : Room := { frames := 4 + d, cells := mc, slots := ms, locals := 140 + 39 * d }
def zPre (G : va_G) (cA : Nat → ClassId) (ad : Nat → Nat) (w : zW) (sz : Nat) (args : zS) : Array Value → State → Prop :=
  va_Pc (args.map (zcv ad)) (fun U => U.heap.size = sz ∧ va_P G zCl (zcw cA ad w) U.heap ∧ va_D (fun _ => True) (zcw cA ad w) ∧ zEnv G cA ad U (va_A (zcw cA ad w) sz) U.heap)
def zQc (G : va_G) (cA : Nat → ClassId) (ad : Nat → Nat) (w : zW) (sz : Nat) (al : Bool) (Q : Option Value → zW → Prop) : Array Value → State → Outcome → State → Prop := fun _ st oc t =>
  (∃ (r : Option Value) (w' : zW) (ad' : Nat → Nat), oc = .returned (r.map (zcv ad')) ∧ Q r w' ∧ zag al w.length ad ad' ∧ va_P G zCl (zcw cA ad' w') t.heap ∧ va_D (va_A (zcw cA ad w) sz) (zcw cA ad' w')) ∧ va_F (va_A (zcw cA ad w) sz) st t
def zXc (G : va_G) (cA : Nat → ClassId) (ad : Nat → Nat) (w : zW) (sz : Nat) (al : Bool) (X : String → zW → Prop) : String → State → State → Prop := fun E st t =>
  (∃ (w' : zW) (ad' : Nat → Nat), X E w' ∧ zag al w.length ad ad' ∧ va_P G zCl (zcw cA ad' w') t.heap ∧ va_D (va_A (zcw cA ad w) sz) (zcw cA ad' w')) ∧ va_F (va_A (zcw cA ad w) sz) st t
/-- the contract of method y, at depth d, of mc cells and ms slots -/
def CT (l : Launch) (y : MethodName) (wd : Cond) (d mc ms : Nat) (al : Bool) (Sp : zSpec) : Prop :=
  ∀ (G : va_G) (cA : Nat → ClassId) (ad : Nat → Nat) (w : zW) (args : zS) (sz : Nat) (Q : Option Value → zW → Prop) (X : String → zW → Prop), Sp args w Q X → vx_Met l y [wd] (zRm d mc ms) (zPre G cA ad w sz args) (zQc G cA ad w sz al Q) (zXc G cA ad w sz al X) mc ms (va_A (zcw cA ad w) sz)
/-- what a thrown exception owes -/
def zExcOK (Γ : zX) (T : zT) : Prop := ∀ (pc : Nat) (E : String) (L : zL) (S : zS) (w : zW) (cu su : Nat), T.exc pc E L w cu su → ∀ (ad : Nat → Nat) (H : Heap) (locs : List Loc) (ls : Array Slot) (ce : Cell) (q9 : Addr), va_P Γ.G zCl (zcw Γ.cA ad w) H → va_D Γ.A (zcw Γ.cA ad w) → va_S Γ.A Γ.s.heap H locs → lv_has ls Γ.nL (zcl ad L) → zag Γ.al Γ.n0 Γ.ad ad → H[q9]? = some ce → ce.vm = .none → Γ.s.vm.findClass E = some ce.cls →
  vx_W Γ.p Γ.l Γ.e Γ.R Γ.s Γ.m Γ.args Γ.below Γ.meth Γ.c H locs cu su Γ.Q (F0 Γ.m pc ls (S.map (zcv ad))) q9
/-- what calls stand on -/
def zBase (Γ : zX) (T : zT) (l : Launch) (own : String) (d : Nat) : Prop :=
  Γ.l = l ∧ Γ.p.tables.exec = Jvm.exec ∧ Γ.c.code = Γ.cc ∧ Γ.c.maxLocals = Γ.nL ∧ Γ.s.vm.findClass own = some Γ.m.cls ∧ zEnv Γ.G Γ.cA Γ.ad Γ.s Γ.A Γ.s.heap ∧ 4 + d ≤ Γ.R.frames ∧ 140 + 39 * d ≤ Γ.R.locals ∧ (∀ q, Γ.s.heap.size ≤ q → Γ.A q) ∧ T.rc ≤ Γ.R.cells ∧ T.rs ≤ Γ.R.slots ∧ T.al = Γ.al ∧ T.n0 = Γ.n0 ∧ zExcOK Γ T
def zCallable (l : Launch) (own : String) (d : Nat) (q : Nat × zCall) : Prop := ∀ (Γ : zX) (T : zT), zBase Γ T l own d → zCallOK Γ T q
theorem zpop_s : ∀ {n : Nat} {S acc as S' : zS}, zpop n S acc = some (as, S') → ∃ p : zS, p.length = n ∧ S = p ++ S' ∧ as = p.reverse ++ acc
  | 0, S, acc, as, S', h => by
    cases h
    exact ⟨[], rfl, rfl, rfl⟩
  | n + 1, v :: S, acc, as, S', h => by
    obtain ⟨p, h1, h2, h3⟩ := zpop_s (n := n) (S := S) (acc := v :: acc) h
    exact ⟨v :: p, by simp [h1], by simp [h2], by simp [h3]⟩
  | _ + 1, [], _, _, _, h => by cases h
theorem zpop_top {n : Nat} {S as S' : zS} (h : zpop n S [] = some (as, S')) : as.length = n ∧ S = as.reverse ++ S' := by
  obtain ⟨p, h1, h2, h3⟩ := zpop_s h
  rw [List.append_nil] at h3
  subst h3
  exact ⟨by simp [h1], by simp [h2]⟩
theorem zcl_ag {ad ad' : Nat → Nat} {n : Nat} (h : ∀ k, (k < n ∨ 1000 ≤ k) → ad' k = ad k) {v : Value} (hv : zbV n v = true) : zcv ad' v = zcv ad v := by
  cases v <;> try rfl
  rename_i k
  simp only [zbV, Bool.or_eq_true] at hv
  exact congrArg Value.ref (h k (hv.elim (fun q => Or.inl (zblt q)) (fun q => Or.inr (Nat.le_of_ble_eq_true q))))
theorem zcS_ag {ad ad' : Nat → Nat} {n : Nat} (h : ∀ k, (k < n ∨ 1000 ≤ k) → ad' k = ad k) : ∀ {S : zS}, zbS n S = true → S.map (zcv ad') = S.map (zcv ad)
  | [], _ => rfl
  | v :: t, hv => by
    simp only [zbS, Bool.and_eq_true] at hv
    simp only [List.map_cons, zcl_ag h hv.1, zcS_ag h hv.2]
theorem zcL_ag {ad ad' : Nat → Nat} {n : Nat} (h : ∀ k, (k < n ∨ 1000 ≤ k) → ad' k = ad k) : ∀ {L : zL}, zbL n L = true → zcl ad' L = zcl ad L
  | [], _ => rfl
  | v :: t, hv => by
    simp only [zbL, Bool.and_eq_true] at hv
    have e := zcL_ag h hv.2
    unfold zcl at e ⊢
    simp only [List.map_cons, zcl_ag h hv.1, e]
/-- behind a call: the locals, the rest of the stack, the addresses -/
theorem zafter {Γ : zX} {T : zT} {al : Bool} {w : zW} {L : zL} {S' : zS} {ad ad' : Nat → Nat} (hTa : T.al = Γ.al) (hTn : T.n0 = Γ.n0) (hal : al = true → T.al = true ∧ T.n0 ≤ w.length ∧ zbL w.length L = true ∧ zbS w.length S' = true) (hag : zag al w.length ad ad') (ha : zag Γ.al Γ.n0 Γ.ad ad) : zcl ad' L = zcl ad L ∧ S'.map (zcv ad') = S'.map (zcv ad) ∧ zag Γ.al Γ.n0 Γ.ad ad' := by
  cases al with
  | false =>
    have e : ad' = ad := funext fun k => hag k (Or.inl rfl)
    subst e
    exact ⟨rfl, rfl, ha⟩
  | true =>
    obtain ⟨a1, a2, a3, a4⟩ := hal rfl
    have h : ∀ k, (k < w.length ∨ 1000 ≤ k) → ad' k = ad k := fun k hk => hag k (Or.inr hk)
    refine ⟨zcL_ag h a3, zcS_ag h a4, fun k hk => ?_⟩
    rw [hTn] at a2
    rw [hTa] at a1
    have hk' : k < w.length ∨ 1000 ≤ k := by
      rcases hk with hk | hk | hk
      · rw [a1] at hk; cases hk
      · exact Or.inl (Nat.lt_of_lt_of_le hk a2)
      · exact Or.inr hk
    rw [h k hk']
    exact ha k hk
theorem zvaA {A0 : Nat → Prop} {ws : va_W} {H0 H : Heap} {locs : List Loc} (hD : va_D A0 ws) (hS : va_S A0 H0 H locs) (hA : ∀ q, H0.size ≤ q → A0 q) : ∀ q, va_A ws H.size q → A0 q := by
  intro q h
  rcases h with ⟨k, e, h⟩ | h
  · exact hD.2 k (q, e) h
  · exact hA q (Nat.le_trans hS.1 h)
section ZC
variable {Γ : zX} {T : zT} {l : Launch} {own : String} {d pc : Nat} {L : zL} {S S' : zS} {w : zW} {cu su : Nat}
theorem zcall_fin (B : zBase Γ T l own d) {al : Bool} {mc ms : Nat} {QN : Option Value → zW → Prop} {a : Array Value} {ad : Nat → Nat} {H : Heap} {locs : List Loc} {ls : Array Slot} (hP : va_P Γ.G zCl (zcw Γ.cA ad w) H) (hD : va_D Γ.A (zcw Γ.cA ad w)) (hS : va_S Γ.A Γ.s.heap H locs) (hl : lv_has ls Γ.nL (zcl ad L)) (ha : zag Γ.al Γ.n0 Γ.ad ad)
    (hal : al = true → T.al = true ∧ T.n0 ≤ w.length ∧ zbL w.length L = true ∧ zbS w.length S' = true) (hN : ∀ r w', QN r w' → zSm Γ (pc + 3) L (zpush r S') w' (cu + mc) (su + ms))
    (run : vx_Run Γ.p Γ.l Γ.e Γ.R Γ.s Γ.m Γ.args Γ.below Γ.meth Γ.c H locs cu su mc ms (F0 Γ.m pc ls (S.map (zcv ad))) (S'.map (zcv ad)) (zQc Γ.G Γ.cA ad w H.size al QN a) (zXc Γ.G Γ.cA ad w H.size al (fun E w' => T.exc pc E L w' (cu + mc) (su + ms))) (va_A (zcw Γ.cA ad w) H.size)) :
    W Γ.p Γ.l Γ.e Γ.R Γ.s Γ.m Γ.args Γ.below Γ.meth Γ.c H locs cu su Γ.Q (F0 Γ.m pc ls (S.map (zcv ad))) := by
  obtain ⟨-, -, -, -, -, -, -, -, hA, -, -, hTa, hTn, hex⟩ := B
  have hsub := zvaA hD hS hA
  intro U hT X
  rcases run U hT X with ⟨v, st₀, t, T', Lc, h0, X', hL, e1, e2, ⟨⟨r, w', ad', hv, hq, hag, hP1, hD1⟩, hF⟩, st⟩ | ⟨q, st₀, t, T', Lc, E, ce, h0, X', hL, e1, e2, ⟨⟨w', ad', hq, hag, hP1, hD1⟩, hF⟩, hce, hcv, hcl, st⟩
  · obtain ⟨k1, k2, k3⟩ := vx_keep h0 e1 hS (fun q _ h => hsub q h) hsub hL hF
    obtain ⟨f1, f2, f3⟩ := zafter hTa hTn hal hag ha
    cases hv
    have h9 := hN r w' hq ad' T'.heap (locs ++ Lc) ls (by rw [e1]; exact hP1) (hD1.weaken (fun _ q _ h => hsub q.1 h)) k3 (by rw [f1]; exact hl) f3
    obtain ⟨t2, a1, b1⟩ := h9 T' rfl X'
    refine ⟨t2, st t2 ?_, b1⟩
    have e9 : (zpush r S').map (zcv ad') = (r.map (zcv ad')).toList ++ S'.map (zcv ad) := by
      cases r with
      | none => exact f2
      | some v => exact congrArg (List.cons (zcv ad' v)) f2
    rw [e9] at a1
    exact a1
  · obtain ⟨k1, k2, k3⟩ := vx_keep h0 e1 hS (fun q _ h => hsub q h) hsub hL hF
    obtain ⟨f1, f2, f3⟩ := zafter hTa hTn hal hag ha
    have h9 := hex pc E L S' w' _ _ hq ad' T'.heap (locs ++ Lc) ls ce q (by rw [e1]; exact hP1) (hD1.weaken (fun _ q _ h => hsub q.1 h)) k3 (by rw [f1]; exact hl) f3 (by rw [e1]; exact hce) hcv hcl
    rw [f2] at h9
    obtain ⟨t2, a1, b1⟩ := h9 T' rfl X'
    exact ⟨t2, st.trans a1, b1⟩
theorem zpre_blind {G : va_G} {cA : Nat → ClassId} {ad : Nat → Nat} {sz : Nat} {args : zS} : FrameBlind (zPre G cA ad w sz args) := by
  intro a U g mk h
  obtain ⟨h1, h2, h3, h4, h5⟩ := h
  exact ⟨h1, h2, h3, h4, h5.next (U := U.calling g mk a) (State.WarmedH.refl U) (fun _ _ _ => rfl) (fun _ h => h) (fun _ _ => rfl)⟩
theorem zpre_at (B : zBase Γ T l own d) {ad : Nat → Nat} {H : Heap} {locs : List Loc} {as : zS} (hP : va_P Γ.G zCl (zcw Γ.cA ad w) H) (hD : va_D Γ.A (zcw Γ.cA ad w)) (hS : va_S Γ.A Γ.s.heap H locs) (ha : zag Γ.al Γ.n0 Γ.ad ad) {U : State} (hU : U.heap = H) (hW : Γ.s.WarmedH U.vm) : zPre Γ.G Γ.cA ad w H.size as (as.map (zcv ad)).toArray U := by
  obtain ⟨-, -, -, -, -, hE, -, -, hA, -⟩ := B
  refine ⟨rfl, by rw [hU], by rw [hU]; exact hP, hD.weaken (fun _ _ _ _ => trivial), ?_⟩
  rw [hU]
  exact hE.next hW hS.2.1 (zvaA hD hS hA) (fun k hk => ha k (Or.inr (Or.inr hk)))
theorem zts {Γ : zX} {T : zT} {l : Launch} {own : String} {d : Nat} (B : zBase Γ T l own d) : ∀ w ∈ zTs, w.before Γ.args Γ.s = true := fun w hw => word_at (State.WarmedH.refl Γ.s) (good_of_word (zgood hw)) (B.2.2.2.2.2.1.1 w hw)
theorem zgi {wd : Cond} (h : wd ∈ zTs) : GoodIn zTs [wd] := fun w hw => by
  rw [List.mem_singleton.mp hw]
  exact ⟨h, good_of_word (zgood h)⟩
theorem zgi_app {a b : List Cond} (ha : ∀ w ∈ a, w ∈ zTs) (hb : ∀ w ∈ b, w ∈ zTs) : GoodIn zTs (a ++ b) := fun w hw => by
  have h : w ∈ zTs := (List.mem_append.mp hw).elim (ha w) (hb w)
  exact ⟨h, good_of_word (zgood h)⟩
theorem zroom {l : Launch} {own : String} (B : zBase Γ T l own d) {d' maxL mc ms : Nat} (hd : d' < d) (hm : maxL ≤ 20) : (zRm d' mc ms).frames + 1 ≤ Γ.R.frames ∧ 8 + (maxL + 11) + (zRm d' mc ms).locals ≤ Γ.R.locals := by
  obtain ⟨-, -, -, -, -, -, h1, h2, -⟩ := B
  simp only [zRm]
  omega
theorem zmon {m : MethodId} {pc : Nat} {ls : Array Slot} {st : List Value} {ad : Nat → Nat} {S' : zS} (h : zcat S' ≤ 8) : 2 * (F0 m pc ls st).monitorRoom + ((S'.map (zcv ad)).map fun v => v.category).sum ≤ 8 := lv_room (rest := st) (by rw [zcat_map]; exact h)
end ZC
