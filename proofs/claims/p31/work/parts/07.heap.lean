/-! ===== the abstract machine is sound: the heap, the switches, the whole step ===== -/
def zins : List Nat → List Cond → Bool
  | [], [] => true
  | p :: ps, w :: ws => decide (lw_tbl[p]? = some w) && goodWord w && zins ps ws
  | _, _ => false
theorem zins_in : ∀ {ps : List Nat} {ws : List Cond}, zins ps ws = true → ∀ w ∈ ws, w ∈ zTs
  | [], [], _, _, hw => by cases hw
  | p :: ps, x :: ws, h, w, hw => by
    simp only [zins, Bool.and_eq_true, decide_eq_true_eq] at h
    rcases List.mem_cons.mp hw with e | hw
    · subst e
      exact zmem h.1.1 h.1.2
    · exact zins_in h.2 w hw
  | [], _ :: _, h, _, _ => by cases h
  | _ :: _, [], h, _, _ => by cases h
theorem zc0 : zCls 0 (RJ4, TJ4, 4) := ⟨zins_in (ps := [157, 159, 161, 163]) (by decide +kernel), tyJ4_ok, nmJ4⟩
theorem zc1 : zCls 1 (RX0, TX0, 8) := ⟨zins_in (ps := [62, 64, 66, 68, 70, 72, 74, 76]) (by decide +kernel), tyX0_ok, nmX0⟩
theorem zc2 : zCls 2 (RX1, TX1, 4) := ⟨zins_in (ps := [104, 106, 108, 110]) (by decide +kernel), tyX1_ok, nmX1⟩
theorem zc3 : zCls 3 (RX2, TX2, 2) := ⟨zins_in (ps := [89, 91]) (by decide +kernel), tyX2_ok, nmX2⟩
theorem zc4 : zCls 4 (RX3, TX3, 5) := ⟨zins_in (ps := [124, 126, 128, 130, 132]) (by decide +kernel), tyX3_ok, nmX3⟩
theorem zc5 : zCls 5 (RX4, TX4, 6) := ⟨zins_in (ps := [173, 175, 177, 179, 181, 183]) (by decide +kernel), tyX4_ok, nmX4⟩
theorem zcls {ci : Nat} {C : vw_C} (h : zCl[ci]? = some C) : zCls ci C := by
  match ci, h with
  | 0, h => cases h; exact zc0
  | 1, h => cases h; exact zc1
  | 2, h => cases h; exact zc2
  | 3, h => cases h; exact zc3
  | 4, h => cases h; exact zc4
  | 5, h => cases h; exact zc5
  | n + 6, h => simp [zCl] at h
theorem zOK.hts {Γ : zX} {T : zT} {own : String} (C : zOK Γ T own) : ∀ w ∈ zTs, w.before Γ.args Γ.s = true := C.2.2.2.1
theorem zOK.hown {Γ : zX} {T : zT} {own : String} (C : zOK Γ T own) : Γ.s.vm.findClass own = some Γ.m.cls := C.2.2.1
theorem zOK.hK {Γ : zX} {T : zT} {own : String} (C : zOK Γ T own) : va_K Γ.G zCl (ztys Γ.cA) Γ.s := C.2.2.2.2.1
theorem zOK.hA {Γ : zX} {T : zT} {own : String} (C : zOK Γ T own) : ∀ q, Γ.s.heap.size ≤ q → Γ.A q := C.2.2.2.2.2.1
theorem zOK.al {Γ : zX} {T : zT} {own : String} (C : zOK Γ T own) : T.al = Γ.al := C.2.2.2.2.2.2.1
theorem zOK.n0 {Γ : zX} {T : zT} {own : String} (C : zOK Γ T own) : T.n0 = Γ.n0 := C.2.2.2.2.2.2.2.1
theorem zOK.rc {Γ : zX} {T : zT} {own : String} (C : zOK Γ T own) : T.rc ≤ Γ.R.cells := C.2.2.2.2.2.2.2.2.1
theorem zOK.rs {Γ : zX} {T : zT} {own : String} (C : zOK Γ T own) : T.rs ≤ Γ.R.slots := C.2.2.2.2.2.2.2.2.2.1
theorem zOK.fl {Γ : zX} {T : zT} {own : String} (C : zOK Γ T own) : ∀ q ∈ T.fl, zFld own q := C.2.2.2.2.2.2.2.2.2.2.1
theorem zOK.ini {Γ : zX} {T : zT} {own : String} (C : zOK Γ T own) : T.ini = true → Γ.meth.name = "<init>" ∧ ∀ q ∈ T.fl, ∀ C, zCl[q.2.1]? = some C → (C.2.1 q.2.2).1 = own := C.2.2.2.2.2.2.2.2.2.2.2.1
theorem zOK.cs {Γ : zX} {T : zT} {own : String} (C : zOK Γ T own) : ∀ q ∈ T.cs, zCallOK Γ T q := C.2.2.2.2.2.2.2.2.2.2.2.2.1
theorem zOK.nw {Γ : zX} {T : zT} {own : String} (C : zOK Γ T own) : ∀ q ∈ T.nw, zNew own q := C.2.2.2.2.2.2.2.2.2.2.2.2.2.1
theorem zOK.th {Γ : zX} {T : zT} {own : String} (C : zOK Γ T own) : ∀ q ∈ T.th, zThOK Γ T q := C.2.2.2.2.2.2.2.2.2.2.2.2.2.2.1
theorem zOK.st {Γ : zX} {T : zT} {own : String} (C : zOK Γ T own) : ∀ q ∈ T.st, zStc Γ own q := C.2.2.2.2.2.2.2.2.2.2.2.2.2.2.2.1
theorem zOK.sc {Γ : zX} {T : zT} {own : String} (C : zOK Γ T own) : ∀ q ∈ T.sc, zScr Γ q := C.2.2.2.2.2.2.2.2.2.2.2.2.2.2.2.2.2.1
theorem zOK.ret {Γ : zX} {T : zT} {own : String} (C : zOK Γ T own) : zRetOK Γ T := C.2.2.2.2.2.2.2.2.2.2.2.2.2.2.2.2.2.2
/-- the words that arrays want -/
theorem zarr_i {Γ : zX} {T : zT} {own : String} (C : zOK Γ T own) : (Cond.arrayClass .int).before Γ.args Γ.s = true := C.hts _ (zins_in (ps := [79]) (ws := [.arrayClass .int]) (by decide +kernel) _ List.mem_cons_self)
theorem zarr_b {Γ : zX} {T : zT} {own : String} (C : zOK Γ T own) : (Cond.arrayClass .byte).before Γ.args Γ.s = true := C.hts _ (zins_in (ps := [166]) (ws := [.arrayClass .byte]) (by decide +kernel) _ List.mem_cons_self)
theorem zag_out {Γ : zX} {ad : Nat → Nat} {k : Nat} (h : zag Γ.al Γ.n0 Γ.ad ad) (hk : 1000 ≤ k) : ad k = Γ.ad k := h k (Or.inr (Or.inr hk))
theorem zcv_out {Γ : zX} {ad : Nat → Nat} {v : Value} (h : zag Γ.al Γ.n0 Γ.ad ad) (hv : zbV 0 v = true) : zcv ad v = zcv Γ.ad v := by
  cases v <;> try rfl
  rename_i k
  simp only [zbV, Bool.or_eq_true] at hv
  rcases hv with hv | hv
  · simp [Nat.blt] at hv
  · exact congrArg Value.ref (zag_out h (Nat.le_of_ble_eq_true hv))
theorem zbS0 {n : Nat} : ∀ {fs : List Value}, zbS 0 fs = true → zbS n fs = true
  | [], _ => rfl
  | v :: t, h => by
    simp only [zbS, Bool.and_eq_true] at h ⊢
    refine ⟨?_, zbS0 h.2⟩
    have hb := h.1
    cases v <;> try rfl
    simp only [zbV, Bool.or_eq_true] at hb ⊢
    rcases hb with hb | hb
    · simp [Nat.blt] at hb
    · exact Or.inr hb
theorem zcS0 {ad : Nat → Nat} : ∀ {fs : List Value}, zbS 0 fs = true → fs.map (zcv (fun _ => 0)) = fs → fs.map (zcv ad) = fs
  | [], _, _ => rfl
  | v :: t, h, h2 => by
    simp only [zbS, Bool.and_eq_true] at h
    simp only [List.map_cons, List.cons.injEq] at h2
    simp only [List.map_cons, List.cons.injEq]
    refine ⟨?_, zcS0 h.2 h2.2⟩
    have hv := h2.1
    have hb := h.1
    cases v <;> try rfl
    rename_i r
    simp only [zbV, Bool.or_eq_true] at hb
    rcases hb with hb | hb
    · simp [Nat.blt] at hb
    · have h9 := Nat.le_of_ble_eq_true hb
      simp only [zcv, Value.ref.injEq] at hv
      subst hv
      exact absurd h9 (by decide)
section ZH
variable {Γ : zX} {T : zT} {own : String} {pc : Nat} {L : zL} {S : zS} {w : zW} {cu su : Nat}
theorem zs_getf (C : zOK Γ T own) {k a ci i : Nat} {o : Nat × List Value} {v : Value} (hd : decode Γ.cc pc = .ok (.getfield k, 3)) (hf : zlk k T.fl = some (ci, i)) (hw : w[a]? = some (.inr o)) (hc : o.1 = ci) (hv : o.2[i]? = some v) (kk : zSm Γ (pc + 3) L (v :: S) w cu su) : zSm Γ pc L (.ref a :: S) w cu su := by
  intro ad H locs ls hP hD hS hl ha
  obtain ⟨q, h1, h2, h3⟩ := C.fl _ (zlk_mem hf)
  subst hc
  exact va_get (C := q.1) (T := q.2.1) (N := q.2.2) C.1 C.2.1 C.hts (zcls h1).1 C.hown C.hK hP a (zcw_get hw) h1 i h2 (C.hts _ h3) (fun _ h => h) (v := zcv ad v) (by rw [List.getElem?_map, hv]; rfl) hd (kk ad H locs ls hP hD hS hl ha)
theorem zcv_fit {ad : Nat → Nat} {ty : FieldType} {v : Value} (h : narrow ty v = v ∧ fits ty v = true) : narrow ty (zcv ad v) = zcv ad v ∧ fits ty (zcv ad v) = true := by
  cases v <;> try exact h
  rename_i k
  obtain ⟨h1, h2⟩ := h
  cases ty <;> first | (simp_all [zcv, narrow, fits]; done) | exact ⟨rfl, rfl⟩
theorem zs_putf (C : zOK Γ T own) {k a ci i : Nat} {o : Nat × List Value} {v : Value} {q : vw_C} (hd : decode Γ.cc pc = .ok (.putfield k, 3)) (hf : zlk k T.fl = some (ci, i)) (hw : w[a]? = some (.inr o)) (hc : o.1 = ci) (hi : i < o.2.length) (hq : zCl[ci]? = some q) (hini : (q.2.1 i).2.2.2 = false ∨ T.ini = true) (hfit : narrow (zTy ci i) v = v ∧ fits (zTy ci i) v = true) (kk : zSm Γ (pc + 3) L S (w.set a (.inr (ci, o.2.set i v))) cu su) : zSm Γ pc L (v :: .ref a :: S) w cu su := by
  intro ad H locs ls hP hD hS hl ha
  obtain ⟨q', h1, h2, h3⟩ := C.fl _ (zlk_mem hf)
  cases hq.symm.trans h1
  subst hc
  obtain ⟨g1, g2, g3⟩ := zcls hq
  have hlt : a < w.length := (List.getElem?_eq_some_iff.mp hw).1
  obtain ⟨f1, f2⟩ := zcv_fit (ad := ad) hfit
  have fin : ∀ (H1 : Heap) (locs1 : List Loc), va_P Γ.G zCl ((zcw Γ.cA ad w).set a (ad a, .inr (o.1, (o.2.map (zcv ad)).set i (zcv ad v)))) H1 → va_D Γ.A ((zcw Γ.cA ad w).set a (ad a, .inr (o.1, (o.2.map (zcv ad)).set i (zcv ad v)))) → va_S Γ.A Γ.s.heap H1 locs1 → W Γ.p Γ.l Γ.e Γ.R Γ.s Γ.m Γ.args Γ.below Γ.meth Γ.c H1 locs1 cu su Γ.Q (F0 Γ.m (pc + 3) ls (S.map (zcv ad))) := by
    intro H1 locs1 hP1 hD1 hS1
    have e : (zcw Γ.cA ad w).set a (ad a, .inr (o.1, (o.2.map (zcv ad)).set i (zcv ad v))) = zcw Γ.cA ad (w.set a (.inr (o.1, o.2.set i v))) := by
      rw [← zcw_set hlt]
      congr 1
      simp only [zce, List.map_set]
    rw [e] at hP1 hD1
    exact kk ad H1 locs1 ls hP1 hD1 hS1 hl ha
  cases hfn : (q.2.1 i).2.2.2 with
  | false => exact va_put (C := q.1) (T := q.2.1) (N := q.2.2) C.1 C.2.1 C.hts g1 (zTy o.1) g2 g3 C.hown C.hK hP hD hS a (zcw_get hw) hq i h2 (C.hts _ h3) (fun _ h => h) hfn (g2 i h2) f1 f2 (by rw [List.length_map]; exact hi) hd fin
  | true =>
    have hin : T.ini = true := hini.resolve_left (by rw [hfn]; decide)
    obtain ⟨n1, n2⟩ := C.ini hin
    exact va_putF (C := q.1) (T := q.2.1) (N := q.2.2) C.1 C.2.1 C.hts g1 (zTy o.1) g2 g3 C.hown C.hK hP hD hS a (zcw_get hw) hq i h2 (C.hts _ h3) (fun _ h => h) hfn n1 (n2 _ (zlk_mem hf) _ hq) (g2 i h2) f1 f2 (by rw [List.length_map]; exact hi) hd fin
theorem zs_gets (C : zOK Γ T own) {k : Nat} {v : Value} (hd : decode Γ.cc pc = .ok (.getstatic k, 3)) (hf : zlk k T.st = some v) (kk : zSm Γ (pc + 3) L (v :: S) w cu su) : zSm Γ pc L S w cu su := by
  intro ad H locs ls hP hD hS hl ha
  obtain ⟨hb, Cn, n, d, hZ, hk⟩ := C.st _ (zlk_mem hf)
  have h := kk ad H locs ls hP hD hS hl ha
  refine va_gets C.1 C.2.1 hZ hS C.hown hk (fun _ h => h) hd ?_
  rw [← zcv_out ha hb]
  exact h
theorem zs_iald (C : zOK Γ T own) {a n : Nat} {f : Nat → Int32} {i : Int32} (hd : decode Γ.cc pc = .ok (.iaload, 1)) (hw : w[a]? = some (.inl (0, n, .inl f))) (hin : vp_in i n) (kk : zSm Γ (pc + 1) L (.int (f i.toNatClampNeg) :: S) w cu su) : zSm Γ pc L (.int i :: .ref a :: S) w cu su :=
  fun ad H locs ls hP hD hS hl ha => va_iald C.1 C.2.1 C.hK hP a 0 (zcw_get hw) rfl hin hd (kk ad H locs ls hP hD hS hl ha)
theorem zs_bald (C : zOK Γ T own) {a n : Nat} {f : Nat → Int32} {i : Int32} (hd : decode Γ.cc pc = .ok (.baload, 1)) (hw : w[a]? = some (.inl (2, n, .inl f))) (hin : vp_in i n) (kk : zSm Γ (pc + 1) L (.int (f i.toNatClampNeg) :: S) w cu su) : zSm Γ pc L (.int i :: .ref a :: S) w cu su :=
  fun ad H locs ls hP hD hS hl ha => va_bald C.1 C.2.1 C.hK hP a 2 (zcw_get hw) rfl hin hd (kk ad H locs ls hP hD hS hl ha)
theorem zs_iast (C : zOK Γ T own) {a n : Nat} {f : Nat → Int32} {i x : Int32} (hd : decode Γ.cc pc = .ok (.iastore, 1)) (hw : w[a]? = some (.inl (0, n, .inl f))) (hin : vp_in i n) (kk : zSm Γ (pc + 1) L S (w.set a (.inl (0, n, .inl (upd f i.toNatClampNeg x)))) cu su) : zSm Γ pc L (.int x :: .int i :: .ref a :: S) w cu su := by
  intro ad H locs ls hP hD hS hl ha
  have hlt : a < w.length := (List.getElem?_eq_some_iff.mp hw).1
  refine va_iast C.1 C.2.1 C.hK hP hD hS a 0 (zcw_get hw) rfl hin hd (fun H1 locs1 hP1 hD1 hS1 => ?_)
  rw [show (ad a, (Sum.inl (Γ.cA 0, n, .inl (upd f i.toNatClampNeg x)) : va_E)) = (ad a, zce Γ.cA ad (.inl (0, n, .inl (upd f i.toNatClampNeg x)))) from rfl, zcw_set hlt] at hP1 hD1
  exact kk ad H1 locs1 ls hP1 hD1 hS1 hl ha
theorem zs_bast (C : zOK Γ T own) {a n : Nat} {f : Nat → Int32} {i x : Int32} (hd : decode Γ.cc pc = .ok (.bastore, 1)) (hw : w[a]? = some (.inl (2, n, .inl f))) (hin : vp_in i n) (kk : zSm Γ (pc + 1) L S (w.set a (.inl (2, n, .inl (upd f i.toNatClampNeg (vp_nar .byte x))))) cu su) : zSm Γ pc L (.int x :: .int i :: .ref a :: S) w cu su := by
  intro ad H locs ls hP hD hS hl ha
  have hlt : a < w.length := (List.getElem?_eq_some_iff.mp hw).1
  refine va_bast C.1 C.2.1 C.hK hP hD hS a 2 (zcw_get hw) rfl hin hd (fun H1 locs1 hP1 hD1 hS1 => ?_)
  rw [show (ad a, (Sum.inl (Γ.cA 2, n, .inl (upd f i.toNatClampNeg (vp_nar .byte x))) : va_E)) = (ad a, zce Γ.cA ad (.inl (2, n, .inl (upd f i.toNatClampNeg (vp_nar .byte x))))) from rfl, zcw_set hlt] at hP1 hD1
  exact kk ad H1 locs1 ls hP1 hD1 hS1 hl ha
theorem zs_alen (C : zOK Γ T own) {a t n : Nat} {x : (Nat → Int32) ⊕ (Nat → Int64) ⊕ (Nat → UInt32) ⊕ (Nat → UInt64) ⊕ (Nat → Option Nat)} (hd : decode Γ.cc pc = .ok (.arraylength, 1)) (hw : w[a]? = some (.inl (t, n, x))) (ht : t < 3) (kk : zSm Γ (pc + 1) L (.int (nI n) :: S) w cu su) : zSm Γ pc L (.ref a :: S) w cu su := by
  intro ad H locs ls hP hD hS hl ha
  have h := kk ad H locs ls hP hD hS hl ha
  match t, ht with
  | 0, _ => exact va_alen C.1 C.2.1 C.hK hP a 0 (zcw_get hw) rfl rfl hd h
  | 1, _ => exact va_alen C.1 C.2.1 C.hK hP a 1 (zcw_get hw) rfl rfl hd h
  | 2, _ => exact va_alen C.1 C.2.1 C.hK hP a 2 (zcw_get hw) rfl rfl hd h
theorem zs_sald (C : zOK Γ T own) {a n : Nat} {f : Nat → Int32} {i : Int32} (hd : decode Γ.cc pc = .ok (.iaload, 1)) (ha0 : 1000 ≤ a) (hsc : zlk a T.sc = some (0, n, f)) (hin : vp_in i n) (kk : zSm Γ (pc + 1) L (.int (f i.toNatClampNeg) :: S) w cu su) : zSm Γ pc L (.int i :: .ref a :: S) w cu su := by
  intro ad H locs ls hP hD hS hl ha
  obtain ⟨-, ty, e, hX⟩ := C.sc _ (zlk_mem hsc)
  cases e
  have h := kk ad H locs ls hP hD hS hl ha
  show W _ _ _ _ _ _ _ _ _ _ _ _ _ _ _ (F0 Γ.m pc ls (.int i :: .ref (ad a) :: S.map (zcv ad)))
  rw [zag_out ha ha0]
  exact va_ti C.1 C.2.1 hX hS hin rfl hd h
theorem zs_sbld (C : zOK Γ T own) {a n : Nat} {f : Nat → Int32} {i : Int32} (hd : decode Γ.cc pc = .ok (.baload, 1)) (ha0 : 1000 ≤ a) (hsc : zlk a T.sc = some (2, n, f)) (hin : vp_in i n) (kk : zSm Γ (pc + 1) L (.int (f i.toNatClampNeg) :: S) w cu su) : zSm Γ pc L (.int i :: .ref a :: S) w cu su := by
  intro ad H locs ls hP hD hS hl ha
  obtain ⟨-, ty, e, hX⟩ := C.sc _ (zlk_mem hsc)
  cases e
  have h := kk ad H locs ls hP hD hS hl ha
  show W _ _ _ _ _ _ _ _ _ _ _ _ _ _ _ (F0 Γ.m pc ls (.int i :: .ref (ad a) :: S.map (zcv ad)))
  rw [zag_out ha ha0]
  exact va_tb C.1 C.2.1 hX hS hin rfl hd h
theorem zs_slen (C : zOK Γ T own) {a t n : Nat} {f : Nat → Int32} (hd : decode Γ.cc pc = .ok (.arraylength, 1)) (ha0 : 1000 ≤ a) (hsc : zlk a T.sc = some (t, n, f)) (kk : zSm Γ (pc + 1) L (.int (nI n) :: S) w cu su) : zSm Γ pc L (.ref a :: S) w cu su := by
  intro ad H locs ls hP hD hS hl ha
  obtain ⟨-, ty, e, hX⟩ := C.sc _ (zlk_mem hsc)
  have h := kk ad H locs ls hP hD hS hl ha
  show W _ _ _ _ _ _ _ _ _ _ _ _ _ _ _ (F0 Γ.m pc ls (.ref (ad a) :: S.map (zcv ad)))
  rw [zag_out ha ha0]
  exact va_tlen C.1 C.2.1 hX hS rfl hd h
theorem zag_up {Γ : zX} {ad : Nat → Nat} {n q : Nat} (hal : Γ.al = true) (hn0 : Γ.n0 ≤ n) (hn : n < 1000) (h : zag Γ.al Γ.n0 Γ.ad ad) : zag Γ.al Γ.n0 Γ.ad (va_up ad n q) := by
  intro k hk
  have hne : k ≠ n := by
    rcases hk with hk | hk | hk
    · rw [hal] at hk; cases hk
    · omega
    · omega
  show (if k = n then q else ad k) = Γ.ad k
  rw [if_neg hne]
  exact h k hk
theorem zs_new (C : zOK Γ T own) {k ci n : Nat} {fs : List Value} (hd : decode Γ.cc pc = .ok (.new k, 3)) (hf : zlk k T.nw = some (ci, n, fs)) (hal : T.al = true) (hn : w.length < 1000) (hn0 : T.n0 ≤ w.length) (hL : zbL w.length L = true) (hS0 : zbS w.length S = true) (hw : zbW w.length w = true) (hc : cu + 1 ≤ T.rc) (hs : su + n ≤ T.rs)
    (kk : zSm Γ (pc + 3) L (.ref w.length :: S) (w ++ [.inr (ci, fs)]) (cu + 1) (su + n)) : zSm Γ pc L S w cu su := by
  intro ad H locs ls hP hD hS hl ha
  obtain ⟨q, h1, h2, h3, h4, h5, h6, h7, h8⟩ := C.nw _ (zlk_mem hf)
  have hal' : Γ.al = true := by rw [← C.al]; exact hal
  have hn0' : Γ.n0 ≤ w.length := by rw [← C.n0]; exact hn0
  subst h2
  have hfs : ∀ ad' : Nat → Nat, fs.map (zcv ad') = fs := fun _ => zcS0 h4 h5
  refine va_new (C := q.1) (T := q.2.1) (N := q.2.2) (fs := fs) C.1 C.2.1 C.hts (zcls h1).1 (zTy ci) (zcls h1).2.1 C.hown (C.hts _ h6) (C.hts _ h7) (C.hts _ h8) C.hK hP hD hS C.hA h1 h3 (Nat.le_trans hc C.rc) (Nat.le_trans hs C.rs) hd (fun a H1 hP1 hD1 hS1 => ?_)
  have hce : (Sum.inr (ci, fs) : va_E) = zce Γ.cA ad (.inr (ci, fs)) := by simp only [zce, hfs]
  have hbE : zbE w.length (.inr (ci, fs)) = true := zbS0 h4
  rw [hce, zcw_push hn hw hbE] at hP1 hD1
  have h9 := kk (va_up ad w.length a) H1 locs ls hP1 hD1 hS1 (by rw [zcl_up hn hL]; exact hl) (zag_up hal' hn0' hn ha)
  rw [List.map_cons, zcS_up hn hS0] at h9
  have e9 : zcv (va_up ad w.length a) (.ref w.length) = .ref a := by simp [zcv, va_up]
  rw [e9] at h9
  exact h9
theorem zs_newa (C : zOK Γ T own) {t N : Nat} {n : Int32} {ty : ArrayType} {ft : FieldType} {a0 : vp_A} (hd : decode Γ.cc pc = .ok (.newarray ty, 2)) (harr : (Cond.arrayClass (newarray.typeOf ty)).before Γ.args Γ.s = true) (hty : newarray.typeOf ty = ft) (ht : (ztys Γ.cA)[t]? = some (Γ.cA t, ft)) (hprim : ∀ U : State, ∀ c : ClassId, va_RA U c ft → U.vm.findClass ("[" ++ ft.toString) = some c) (hcell : ∀ cA : ClassId, vp_cell cA a0 = arrV cA N (fun _ => defaultValue ft)) (hn : n = nI N) (hN : N ≤ 65536) (hcb : componentBytes ft ≤ 8)
    (hal : T.al = true) (hl0 : w.length < 1000) (hn0 : T.n0 ≤ w.length) (hL : zbL w.length L = true) (hS0 : zbS w.length S = true) (hw : zbW w.length w = true) (hc : cu + 1 ≤ T.rc) (hs : su + N ≤ T.rs)
    (kk : zSm Γ (pc + 2) L (.ref w.length :: S) (w ++ [.inl (t, a0)]) (cu + 1) (su + N)) : zSm Γ pc L (.int n :: S) w cu su := by
  intro ad H locs ls hP hD hS hl ha
  have hal' : Γ.al = true := by rw [← C.al]; exact hal
  have hn0' : Γ.n0 ≤ w.length := by rw [← C.n0]; exact hn0
  subst hn
  have hm : N * componentBytes ft ≤ 65536 * 8 := Nat.mul_le_mul hN hcb
  refine va_newa (ty := ft) (a0 := a0) (N' := N) C.1 C.2.1 harr hty C.hK hP hD hS C.hA hcell (nI_pos (by omega)) (nI_clamp (by omega)) (by omega) (Nat.le_trans hc C.rc) (Nat.le_trans hs C.rs) hd (fun a cA H1 hK1 hP1 hD1 hS1 => ?_)
  have e1 : cA = Γ.cA t := by
    have h1 := (hK1.2 3 (cA, ft) (by rfl)).2
    have h2 := (C.hK.2 t _ ht).2
    exact Option.some.inj ((hprim _ _ h1).symm.trans (hprim _ _ h2))
  subst e1
  rw [show (Sum.inl (Γ.cA t, a0) : va_E) = zce Γ.cA ad (.inl (t, a0)) from rfl, zcw_push hl0 hw rfl] at hP1 hD1
  have h9 := kk (va_up ad w.length a) H1 locs ls hP1 hD1 hS1 (by rw [zcl_up hl0 hL]; exact hl) (zag_up hal' hn0' hl0 ha)
  rw [List.map_cons, zcS_up hl0 hS0] at h9
  have e9 : zcv (va_up ad w.length a) (.ref w.length) = .ref a := by simp [zcv, va_up]
  rw [e9] at h9
  exact h9
theorem zs_lcmp (C : zOK Γ T own) {x y : Int64} (hd : decode Γ.cc pc = .ok (.lcmp, 1)) (k1 : x = y → zSm Γ (pc + 1) L (.int 0 :: S) w cu su) (k2 : ¬ x = y → ∀ z : Int32, ¬ z = 0 → zSm Γ (pc + 1) L (.int z :: S) w cu su) : zSm Γ pc L (.long y :: .long x :: S) w cu su := by
  intro ad H locs ls hP hD hS hl ha
  refine W.lcmp C.1 C.2.1 hd ?_
  by_cases e : x = y
  · subst e
    have h0 : lg_cmp x x = 0 := by simp [lg_cmp]
    rw [h0]
    exact k1 rfl ad H locs ls hP hD hS hl ha
  · have h0 : ¬ lg_cmp x y = 0 := by
      unfold lg_cmp
      split
      · decide
      · first | decide | (rw [if_neg e]; decide)
    exact k2 e _ h0 ad H locs ls hP hD hS hl ha
end ZH
