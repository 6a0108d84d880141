/-! ===== the abstract machine is sound ===== -/
/-- a private method that a StringBuilder has from above: what a call by its name selects -/
def zXs : Cond := .selects RJ4 yJ5_ensureCapacityInternal_d00df yJ5_ensureCapacityInternal_d00df
def zTs : List Cond := (zXs :: lw_tbl).filter goodWord
theorem zXs_mem : zXs ∈ zTs := List.mem_filter.mpr ⟨List.mem_cons_self, by decide +kernel⟩
theorem zmem {i : Nat} {w : Cond} (h : lw_tbl[i]? = some w) (g : goodWord w = true) : w ∈ zTs := List.mem_filter.mpr ⟨List.mem_cons_of_mem _ (List.mem_of_getElem? h), g⟩
def ztys (cA : Nat → ClassId) : List (ClassId × FieldType) := [(cA 0, .int), (cA 1, .int), (cA 2, .byte)]
def zFld (own : String) (q : Nat × Nat × Nat) : Prop := ∃ C : vw_C, zCl[q.2.1]? = some C ∧ q.2.2 < C.2.2 ∧ Cond.fieldLink own q.1 (C.2.1 q.2.2).1 (C.2.1 q.2.2).2.1 (C.2.1 q.2.2).2.2.1 ∈ zTs
def zCls (ci : Nat) (C : vw_C) : Prop := (∀ w ∈ u_ws C.1 C.2.1 C.2.2, w ∈ zTs) ∧ (∀ k, k < C.2.2 → parseFieldDescriptor (C.2.1 k).2.2.1 = some (zTy ci k)) ∧ (∀ a, a < C.2.2 → ∀ b, b < C.2.2 → a ≠ b → (C.2.1 a).2.1 ≠ (C.2.1 b).2.1)
def zNew (own : String) (q : Nat × Nat × Nat × List Value) : Prop := ∃ C : vw_C, zCl[q.2.1]? = some C ∧ C.2.2 = q.2.2.1 ∧ (∀ j, j < C.2.2 → defaultValue (zTy q.2.1 j) = vp_V q.2.2.2 j) ∧ zbS 0 q.2.2.2 = true ∧ q.2.2.2.map (zcv (fun _ => 0)) = q.2.2.2 ∧ Cond.classLink own q.1 C.1 ∈ zTs ∧ Cond.instantiable C.1 C.2.2 ∈ zTs ∧ Cond.initialized C.1 ∈ zTs
def zStc (Γ : zX) (own : String) (q : Nat × Value) : Prop := zbV 0 q.2 = true ∧ ∃ C n d : String, va_Z C n d (zcv Γ.ad q.2) Γ.A Γ.s Γ.s.heap ∧ (Cond.fieldLink own q.1 C n d).before Γ.args Γ.s = true
def zScr (Γ : zX) (q : Nat × Nat × Nat × (Nat → Int32)) : Prop := 1000 ≤ q.1 ∧ ∃ ty : FieldType, (ztys (fun _ => 0))[q.2.1]? = some (0, ty) ∧ va_T ty (Γ.ad q.1) q.2.2.1 (fun j => .int (q.2.2.2 j)) Γ.A Γ.s Γ.s.heap
def zinstr (kd k : Nat) : Instr := match kd with
  | 0 => .invokevirtual k
  | 1 => .invokestatic k
  | _ => .invokespecial k
def zCallOK (Γ : zX) (T : zT) (q : Nat × zCall) : Prop := ∀ (pc : Nat) (L : zL) (S as S' : zS) (w : zW) (cu su : Nat) (QN : Option Value → zW → Prop), q.2.1 < 3 → decode Γ.cc pc = .ok (zinstr q.2.1 q.1, 3) → zpop q.2.2.1 S [] = some (as, S') → zrcv q.2.2.2.1 as w = true → zcat S' ≤ 8 → cu + q.2.2.2.2.1 ≤ T.rc → su + q.2.2.2.2.2.1 ≤ T.rs →
  (q.2.2.2.2.2.2.1 = true → T.al = true ∧ T.n0 ≤ w.length ∧ zbL w.length L = true ∧ zbS w.length S' = true) →
  (∀ r w', QN r w' → zSm Γ (pc + 3) L (zpush r S') w' (cu + q.2.2.2.2.1) (su + q.2.2.2.2.2.1)) →
  q.2.2.2.2.2.2.2 as w QN (fun E w' => T.exc pc E L w' (cu + q.2.2.2.2.1) (su + q.2.2.2.2.2.1)) → zSm Γ pc L S w cu su
def zThOK (Γ : zX) (T : zT) (q : Nat × String) : Prop := ∀ (L : zL) (S : zS) (w : zW) (cu su : Nat), T.exc q.1 q.2 L w (cu + 1) (su + 6) → zcat S ≤ 8 → zSm Γ q.1 L S w cu su
def zRetOK (Γ : zX) (T : zT) : Prop := ∀ (v : Option Value) (pc : Nat) (i : Instr) (L : zL) (w : zW) (cu su : Nat), decode Γ.cc pc = .ok (i, 1) → (match v with | none => i = .return_ | some (.int _) => i = .ireturn | some (.ref _) => i = .areturn | _ => False) → T.ret v w cu su → zSm Γ pc L v.toList w cu su
def zOK (Γ : zX) (T : zT) (own : String) : Prop :=
  Γ.p.tables.exec = Jvm.exec ∧ Γ.c.code = Γ.cc ∧ Γ.s.vm.findClass own = some Γ.m.cls ∧ (∀ w ∈ zTs, w.before Γ.args Γ.s = true) ∧ va_K Γ.G zCl (ztys Γ.cA) Γ.s ∧ (∀ q, Γ.s.heap.size ≤ q → Γ.A q) ∧ T.al = Γ.al ∧ T.n0 = Γ.n0 ∧ T.rc ≤ Γ.R.cells ∧ T.rs ≤ Γ.R.slots ∧
  (∀ q ∈ T.fl, zFld own q) ∧ (T.ini = true → Γ.meth.name = "<init>" ∧ ∀ q ∈ T.fl, ∀ C, zCl[q.2.1]? = some C → (C.2.1 q.2.2).1 = own) ∧ (∀ q ∈ T.cs, zCallOK Γ T q) ∧ (∀ q ∈ T.nw, zNew own q) ∧ (∀ q ∈ T.th, zThOK Γ T q) ∧ (∀ q ∈ T.st, zStc Γ own q) ∧ (∀ q ∈ T.kc, (Cond.constant own q.1 q.2).before Γ.args Γ.s = true) ∧ (∀ q ∈ T.sc, zScr Γ q) ∧ zRetOK Γ T
section ZS
variable {Γ : zX} {T : zT} {own : String} {pc : Nat} {L : zL} {S : zS} {w : zW} {cu su : Nat}
theorem zs_iconst (C : zOK Γ T own) {n : Int} {v : Int32} (hd : decode Γ.cc pc = .ok (.iconst n, 1)) (hv : Int32.ofInt n = v) (k : zSm Γ (pc + 1) L (.int v :: S) w cu su) : zSm Γ pc L S w cu su :=
  fun ad H locs ls hP hD hS hl ha => lv_iconst C.1 C.2.1 hd hv (k ad H locs ls hP hD hS hl ha)
theorem zs_bipush (C : zOK Γ T own) {n : Int} {v : Int32} (hd : decode Γ.cc pc = .ok (.bipush n, 2)) (hv : (Int8.ofInt n).toInt32 = v) (k : zSm Γ (pc + 2) L (.int v :: S) w cu su) : zSm Γ pc L S w cu su :=
  fun ad H locs ls hP hD hS hl ha => lv_bipush C.1 C.2.1 hd hv (k ad H locs ls hP hD hS hl ha)
theorem zs_sipush (C : zOK Γ T own) {n : Int} {v : Int32} (hd : decode Γ.cc pc = .ok (.sipush n, 3)) (hv : (Int16.ofInt n).toInt32 = v) (k : zSm Γ (pc + 3) L (.int v :: S) w cu su) : zSm Γ pc L S w cu su :=
  fun ad H locs ls hP hD hS hl ha => lv_sipush C.1 C.2.1 hd hv (k ad H locs ls hP hD hS hl ha)
theorem zs_lconst (C : zOK Γ T own) {n : Fin 2} (hd : decode Γ.cc pc = .ok (.lconst n, 1)) (k : zSm Γ (pc + 1) L (.long (Int64.ofNat n.val) :: S) w cu su) : zSm Γ pc L S w cu su :=
  fun ad H locs ls hP hD hS hl ha => lv_lconst C.1 C.2.1 hd rfl (k ad H locs ls hP hD hS hl ha)
theorem zs_ldc (C : zOK Γ T own) {i : Nat} {v : Int32} (hd : decode Γ.cc pc = .ok (.ldc i, 2)) (hv : zlk i T.kc = some v) (k : zSm Γ (pc + 2) L (.int v :: S) w cu su) : zSm Γ pc L S w cu su :=
  fun ad H locs ls hP hD hS hl ha => lv_ldc C.1 C.2.1 C.2.2.1 (C.2.2.2.2.2.2.2.2.2.2.2.2.2.2.2.2.1 _ (zlk_mem hv)) hd (k ad H locs ls hP hD hS hl ha)
theorem zs_null (C : zOK Γ T own) (hd : decode Γ.cc pc = .ok (.aconst_null, 1)) (k : zSm Γ (pc + 1) L (.null :: S) w cu su) : zSm Γ pc L S w cu su :=
  fun ad H locs ls hP hD hS hl ha => lv_null C.1 C.2.1 hd (k ad H locs ls hP hD hS hl ha)
theorem zs_iload_n (C : zOK Γ T own) {i : Fin 4} {x : Int32} (hd : decode Γ.cc pc = .ok (.iload_n i, 1)) (hv : zlk i.val L = some (.int x)) (k : zSm Γ (pc + 1) L (.int x :: S) w cu su) : zSm Γ pc L S w cu su :=
  fun ad H locs ls hP hD hS hl ha => lv_iload_n C.1 C.2.1 hd rfl (zlk_at hl hv) (k ad H locs ls hP hD hS hl ha)
theorem zs_iload (C : zOK Γ T own) {i : Nat} {x : Int32} (hd : decode Γ.cc pc = .ok (.iload i, 2)) (hv : zlk i L = some (.int x)) (k : zSm Γ (pc + 2) L (.int x :: S) w cu su) : zSm Γ pc L S w cu su :=
  fun ad H locs ls hP hD hS hl ha => lv_iload C.1 C.2.1 hd (zlk_at hl hv) (k ad H locs ls hP hD hS hl ha)
theorem zs_aload_n (C : zOK Γ T own) {i : Fin 4} {x : Nat} (hd : decode Γ.cc pc = .ok (.aload_n i, 1)) (hv : zlk i.val L = some (.ref x)) (k : zSm Γ (pc + 1) L (.ref x :: S) w cu su) : zSm Γ pc L S w cu su :=
  fun ad H locs ls hP hD hS hl ha => lv_aload_n C.1 C.2.1 hd rfl (zlk_at hl hv) (k ad H locs ls hP hD hS hl ha)
theorem zs_aload (C : zOK Γ T own) {i : Nat} {x : Nat} (hd : decode Γ.cc pc = .ok (.aload i, 2)) (hv : zlk i L = some (.ref x)) (k : zSm Γ (pc + 2) L (.ref x :: S) w cu su) : zSm Γ pc L S w cu su :=
  fun ad H locs ls hP hD hS hl ha => lv_aload C.1 C.2.1 hd (zlk_at hl hv) (k ad H locs ls hP hD hS hl ha)
theorem zs_aload_nN (C : zOK Γ T own) {i : Fin 4} (hd : decode Γ.cc pc = .ok (.aload_n i, 1)) (hv : zlk i.val L = some .null) (k : zSm Γ (pc + 1) L (.null :: S) w cu su) : zSm Γ pc L S w cu su :=
  fun ad H locs ls hP hD hS hl ha => lv_aload_nN C.1 C.2.1 hd rfl (zlk_at hl hv) (k ad H locs ls hP hD hS hl ha)
theorem zs_aloadN (C : zOK Γ T own) {i : Nat} (hd : decode Γ.cc pc = .ok (.aload i, 2)) (hv : zlk i L = some .null) (k : zSm Γ (pc + 2) L (.null :: S) w cu su) : zSm Γ pc L S w cu su :=
  fun ad H locs ls hP hD hS hl ha => lv_aloadN C.1 C.2.1 hd (zlk_at hl hv) (k ad H locs ls hP hD hS hl ha)
theorem zs_istore_n (C : zOK Γ T own) {i : Fin 4} {x : Int32} (hd : decode Γ.cc pc = .ok (.istore_n i, 1)) (hn : i.val < Γ.nL) (k : zSm Γ (pc + 1) (zset i.val (.int x) L) S w cu su) : zSm Γ pc L (.int x :: S) w cu su :=
  fun ad H locs ls hP hD hS hl ha => lv_istore_n C.1 C.2.1 hd rfl hl hn rfl (fun ls' hl' => k ad H locs ls' hP hD hS (zset_has (v := .int x) hl') ha)
theorem zs_istore (C : zOK Γ T own) {i : Nat} {x : Int32} (hd : decode Γ.cc pc = .ok (.istore i, 2)) (hn : i < Γ.nL) (k : zSm Γ (pc + 2) (zset i (.int x) L) S w cu su) : zSm Γ pc L (.int x :: S) w cu su :=
  fun ad H locs ls hP hD hS hl ha => lv_istore C.1 C.2.1 hd hl hn rfl (fun ls' hl' => k ad H locs ls' hP hD hS (zset_has (v := .int x) hl') ha)
theorem zs_astore_n (C : zOK Γ T own) {i : Fin 4} {x : Nat} (hd : decode Γ.cc pc = .ok (.astore_n i, 1)) (hn : i.val < Γ.nL) (k : zSm Γ (pc + 1) (zset i.val (.ref x) L) S w cu su) : zSm Γ pc L (.ref x :: S) w cu su :=
  fun ad H locs ls hP hD hS hl ha => lv_astore_n C.1 C.2.1 hd rfl hl hn rfl (fun ls' hl' => k ad H locs ls' hP hD hS (zset_has (v := .ref x) hl') ha)
theorem zs_astore (C : zOK Γ T own) {i : Nat} {x : Nat} (hd : decode Γ.cc pc = .ok (.astore i, 2)) (hn : i < Γ.nL) (k : zSm Γ (pc + 2) (zset i (.ref x) L) S w cu su) : zSm Γ pc L (.ref x :: S) w cu su :=
  fun ad H locs ls hP hD hS hl ha => lv_astore C.1 C.2.1 hd hl hn rfl (fun ls' hl' => k ad H locs ls' hP hD hS (zset_has (v := .ref x) hl') ha)
theorem zs_astore_nN (C : zOK Γ T own) {i : Fin 4} (hd : decode Γ.cc pc = .ok (.astore_n i, 1)) (hn : i.val < Γ.nL) (k : zSm Γ (pc + 1) (zset i.val .null L) S w cu su) : zSm Γ pc L (.null :: S) w cu su :=
  fun ad H locs ls hP hD hS hl ha => lv_astore_nN C.1 C.2.1 hd rfl hl hn rfl (fun ls' hl' => k ad H locs ls' hP hD hS (zset_has (v := .null) hl') ha)
theorem zs_astoreN (C : zOK Γ T own) {i : Nat} (hd : decode Γ.cc pc = .ok (.astore i, 2)) (hn : i < Γ.nL) (k : zSm Γ (pc + 2) (zset i .null L) S w cu su) : zSm Γ pc L (.null :: S) w cu su :=
  fun ad H locs ls hP hD hS hl ha => lv_astoreN C.1 C.2.1 hd hl hn rfl (fun ls' hl' => k ad H locs ls' hP hD hS (zset_has (v := .null) hl') ha)
theorem zs_iinc (C : zOK Γ T own) {i : Nat} {n : Int} {x d : Int32} (hd : decode Γ.cc pc = .ok (.iinc i n, 3)) (hn : i < Γ.nL) (hv : zlk i L = some (.int x)) (he : Int32.ofInt n = d) (k : zSm Γ (pc + 3) (zset i (.int (x + d)) L) S w cu su) : zSm Γ pc L S w cu su := by
  intro ad H locs ls hP hD hS hl ha
  obtain ⟨j, hj⟩ := List.getElem?_of_mem (List.mem_map.mpr ⟨(i, Value.int x), zlk_mem hv, rfl⟩ : (i, zcv ad (.int x)) ∈ zcl ad L)
  exact lv_iinc C.1 C.2.1 hd hl (k := j) hj (v := x + d) (by rw [he]) hn rfl (fun ls' hl' => k ad H locs ls' hP hD hS (zset_has (v := .int (x + d)) hl') ha)
theorem zs_iadd (C : zOK Γ T own) {x y : Int32} (hd : decode Γ.cc pc = .ok (.iadd, 1)) (k : zSm Γ (pc + 1) L (.int (x + y) :: S) w cu su) : zSm Γ pc L (.int y :: .int x :: S) w cu su :=
  fun ad H locs ls hP hD hS hl ha => lv_iadd C.1 C.2.1 hd (k ad H locs ls hP hD hS hl ha)
theorem zs_isub (C : zOK Γ T own) {x y : Int32} (hd : decode Γ.cc pc = .ok (.isub, 1)) (k : zSm Γ (pc + 1) L (.int (x - y) :: S) w cu su) : zSm Γ pc L (.int y :: .int x :: S) w cu su :=
  fun ad H locs ls hP hD hS hl ha => lv_isub C.1 C.2.1 hd (k ad H locs ls hP hD hS hl ha)
theorem zs_imul (C : zOK Γ T own) {x y : Int32} (hd : decode Γ.cc pc = .ok (.imul, 1)) (k : zSm Γ (pc + 1) L (.int (x * y) :: S) w cu su) : zSm Γ pc L (.int y :: .int x :: S) w cu su :=
  fun ad H locs ls hP hD hS hl ha => lv_imul C.1 C.2.1 hd (k ad H locs ls hP hD hS hl ha)
theorem zs_iand (C : zOK Γ T own) {x y : Int32} (hd : decode Γ.cc pc = .ok (.iand, 1)) (k : zSm Γ (pc + 1) L (.int (x &&& y) :: S) w cu su) : zSm Γ pc L (.int y :: .int x :: S) w cu su :=
  fun ad H locs ls hP hD hS hl ha => lv_iand C.1 C.2.1 hd (k ad H locs ls hP hD hS hl ha)
theorem zs_ior (C : zOK Γ T own) {x y : Int32} (hd : decode Γ.cc pc = .ok (.ior, 1)) (k : zSm Γ (pc + 1) L (.int (x ||| y) :: S) w cu su) : zSm Γ pc L (.int y :: .int x :: S) w cu su :=
  fun ad H locs ls hP hD hS hl ha => lv_ior C.1 C.2.1 hd (k ad H locs ls hP hD hS hl ha)
theorem zs_ishl (C : zOK Γ T own) {x y : Int32} (hd : decode Γ.cc pc = .ok (.ishl, 1)) (k : zSm Γ (pc + 1) L (.int (x <<< (y &&& 31)) :: S) w cu su) : zSm Γ pc L (.int y :: .int x :: S) w cu su :=
  fun ad H locs ls hP hD hS hl ha => lv_ishl C.1 C.2.1 hd (k ad H locs ls hP hD hS hl ha)
theorem zs_ishr (C : zOK Γ T own) {x y : Int32} (hd : decode Γ.cc pc = .ok (.ishr, 1)) (k : zSm Γ (pc + 1) L (.int (x >>> (y &&& 31)) :: S) w cu su) : zSm Γ pc L (.int y :: .int x :: S) w cu su :=
  fun ad H locs ls hP hD hS hl ha => lv_ishr C.1 C.2.1 hd (k ad H locs ls hP hD hS hl ha)
theorem zs_iushr (C : zOK Γ T own) {x y : Int32} (hd : decode Γ.cc pc = .ok (.iushr, 1)) (k : zSm Γ (pc + 1) L (.int ((x.toUInt32 >>> (y.toUInt32 &&& Int32.toUInt32 31)).toInt32) :: S) w cu su) : zSm Γ pc L (.int y :: .int x :: S) w cu su :=
  fun ad H locs ls hP hD hS hl ha => lv_iushr C.1 C.2.1 hd rfl (k ad H locs ls hP hD hS hl ha)
theorem zs_idiv (C : zOK Γ T own) {x y : Int32} (hd : decode Γ.cc pc = .ok (.idiv, 1)) (hne : ¬ y = 0) (k : zSm Γ (pc + 1) L (.int (x / y) :: S) w cu su) : zSm Γ pc L (.int y :: .int x :: S) w cu su :=
  fun ad H locs ls hP hD hS hl ha => lv_idiv C.1 C.2.1 hd hne (k ad H locs ls hP hD hS hl ha)
theorem zs_irem (C : zOK Γ T own) {x y : Int32} (hd : decode Γ.cc pc = .ok (.irem, 1)) (hne : ¬ y = 0) (k : zSm Γ (pc + 1) L (.int (x - x / y * y) :: S) w cu su) : zSm Γ pc L (.int y :: .int x :: S) w cu su :=
  fun ad H locs ls hP hD hS hl ha => lv_irem C.1 C.2.1 hd hne (k ad H locs ls hP hD hS hl ha)
theorem zs_ineg (C : zOK Γ T own) {x : Int32} (hd : decode Γ.cc pc = .ok (.ineg, 1)) (k : zSm Γ (pc + 1) L (.int (-x) :: S) w cu su) : zSm Γ pc L (.int x :: S) w cu su :=
  fun ad H locs ls hP hD hS hl ha => lv_ineg C.1 C.2.1 hd (k ad H locs ls hP hD hS hl ha)
theorem zs_i2b (C : zOK Γ T own) {x : Int32} (hd : decode Γ.cc pc = .ok (.i2b, 1)) (k : zSm Γ (pc + 1) L (.int x.toInt8.toInt32 :: S) w cu su) : zSm Γ pc L (.int x :: S) w cu su :=
  fun ad H locs ls hP hD hS hl ha => lv_i2b C.1 C.2.1 hd rfl (k ad H locs ls hP hD hS hl ha)
theorem zs_i2c (C : zOK Γ T own) {x : Int32} (hd : decode Γ.cc pc = .ok (.i2c, 1)) (k : zSm Γ (pc + 1) L (.int (x.toUInt32 % 65536).toInt32 :: S) w cu su) : zSm Γ pc L (.int x :: S) w cu su :=
  fun ad H locs ls hP hD hS hl ha => lv_i2c C.1 C.2.1 hd rfl (k ad H locs ls hP hD hS hl ha)
theorem zs_i2l (C : zOK Γ T own) {x : Int32} (hd : decode Γ.cc pc = .ok (.i2l, 1)) (k : zSm Γ (pc + 1) L (.long x.toInt64 :: S) w cu su) : zSm Γ pc L (.int x :: S) w cu su :=
  fun ad H locs ls hP hD hS hl ha => lv_i2l C.1 C.2.1 hd rfl (k ad H locs ls hP hD hS hl ha)
theorem zs_dup (C : zOK Γ T own) {v : Value} (hd : decode Γ.cc pc = .ok (.dup, 1)) (hv : v.category = 1) (k : zSm Γ (pc + 1) L (v :: v :: S) w cu su) : zSm Γ pc L (v :: S) w cu su :=
  fun ad H locs ls hP hD hS hl ha => lv_dup C.1 C.2.1 hd ((zcv_cat ad v).trans hv) (k ad H locs ls hP hD hS hl ha)
theorem zs_pop (C : zOK Γ T own) {v : Value} (hd : decode Γ.cc pc = .ok (.pop, 1)) (hv : v.category = 1) (k : zSm Γ (pc + 1) L S w cu su) : zSm Γ pc L (v :: S) w cu su :=
  fun ad H locs ls hP hD hS hl ha => lv_pop C.1 C.2.1 hd ((zcv_cat ad v).trans hv) (k ad H locs ls hP hD hS hl ha)
theorem zs_dup_x1 (C : zOK Γ T own) {a b : Value} (hd : decode Γ.cc pc = .ok (.dup_x1, 1)) (hv : a.category = 1) (hv2 : b.category = 1) (k : zSm Γ (pc + 1) L (a :: b :: a :: S) w cu su) : zSm Γ pc L (a :: b :: S) w cu su :=
  fun ad H locs ls hP hD hS hl ha => lv_dup_x1 C.1 C.2.1 hd ((zcv_cat ad a).trans hv) ((zcv_cat ad b).trans hv2) (k ad H locs ls hP hD hS hl ha)
theorem zs_dup2 (C : zOK Γ T own) {a b : Value} (hd : decode Γ.cc pc = .ok (.dup2, 1)) (hv : a.category = 1) (hv2 : b.category = 1) (k : zSm Γ (pc + 1) L (a :: b :: a :: b :: S) w cu su) : zSm Γ pc L (a :: b :: S) w cu su :=
  fun ad H locs ls hP hD hS hl ha => lv_dup2_11 C.1 C.2.1 hd ((zcv_cat ad a).trans hv) ((zcv_cat ad b).trans hv2) (k ad H locs ls hP hD hS hl ha)
theorem zs_goto (C : zOK Γ T own) {off : Int} {t : Nat} (hd : decode Γ.cc pc = .ok (.goto off, 3)) (ht : (pc : Int) + off = (t : Int)) (k : zSm Γ t L S w cu su) : zSm Γ pc L S w cu su :=
  fun ad H locs ls hP hD hS hl ha => lv_goto C.1 C.2.1 hd ht (k ad H locs ls hP hD hS hl ha)
theorem zs_if_eq (C : zOK Γ T own) {x : Int32} {off : Int} {t : Nat} (hd : decode Γ.cc pc = .ok (.ifCond .eq off, 3)) (ht : (pc : Int) + off = (t : Int)) (k1 : x = 0 → zSm Γ t L S w cu su) (k2 : ¬ x = 0 → zSm Γ (pc + 3) L S w cu su) : zSm Γ pc L (.int x :: S) w cu su :=
  fun ad H locs ls hP hD hS hl ha => lv_if_eq C.1 C.2.1 hd ht (fun h => k1 h ad H locs ls hP hD hS hl ha) (fun h => k2 h ad H locs ls hP hD hS hl ha)
theorem zs_if_ne (C : zOK Γ T own) {x : Int32} {off : Int} {t : Nat} (hd : decode Γ.cc pc = .ok (.ifCond .ne off, 3)) (ht : (pc : Int) + off = (t : Int)) (k1 : ¬ x = 0 → zSm Γ t L S w cu su) (k2 : x = 0 → zSm Γ (pc + 3) L S w cu su) : zSm Γ pc L (.int x :: S) w cu su :=
  fun ad H locs ls hP hD hS hl ha => lv_if_ne C.1 C.2.1 hd ht (fun h => k1 h ad H locs ls hP hD hS hl ha) (fun h => k2 h ad H locs ls hP hD hS hl ha)
theorem zs_if_lt (C : zOK Γ T own) {x : Int32} {off : Int} {t : Nat} (hd : decode Γ.cc pc = .ok (.ifCond .lt off, 3)) (ht : (pc : Int) + off = (t : Int)) (k1 : x < 0 → zSm Γ t L S w cu su) (k2 : ¬ x < 0 → zSm Γ (pc + 3) L S w cu su) : zSm Γ pc L (.int x :: S) w cu su :=
  fun ad H locs ls hP hD hS hl ha => lv_if_lt C.1 C.2.1 hd ht (fun h => k1 h ad H locs ls hP hD hS hl ha) (fun h => k2 h ad H locs ls hP hD hS hl ha)
theorem zle_nlt {x y : Int32} : y ≤ x ↔ ¬ x < y := Int32.not_lt.symm
theorem zs_if_ge (C : zOK Γ T own) {x : Int32} {off : Int} {t : Nat} (hd : decode Γ.cc pc = .ok (.ifCond .ge off, 3)) (ht : (pc : Int) + off = (t : Int)) (k1 : ¬ x < 0 → zSm Γ t L S w cu su) (k2 : x < 0 → zSm Γ (pc + 3) L S w cu su) : zSm Γ pc L (.int x :: S) w cu su :=
  fun ad H locs ls hP hD hS hl ha => lv_if_ge C.1 C.2.1 hd ht (fun h => k1 (zle_nlt.mp h) ad H locs ls hP hD hS hl ha) (fun h => k2 (Classical.byContradiction fun q => h (zle_nlt.mpr q)) ad H locs ls hP hD hS hl ha)
theorem zs_if_le (C : zOK Γ T own) {x : Int32} {off : Int} {t : Nat} (hd : decode Γ.cc pc = .ok (.ifCond .le off, 3)) (ht : (pc : Int) + off = (t : Int)) (k1 : ¬ 0 < x → zSm Γ t L S w cu su) (k2 : 0 < x → zSm Γ (pc + 3) L S w cu su) : zSm Γ pc L (.int x :: S) w cu su :=
  fun ad H locs ls hP hD hS hl ha => lv_if_le C.1 C.2.1 hd ht (fun h => k1 (zle_nlt.mp h) ad H locs ls hP hD hS hl ha) (fun h => k2 (Classical.byContradiction fun q => h (zle_nlt.mpr q)) ad H locs ls hP hD hS hl ha)
theorem zs_if_gt (C : zOK Γ T own) {x : Int32} {off : Int} {t : Nat} (hd : decode Γ.cc pc = .ok (.ifCond .gt off, 3)) (ht : (pc : Int) + off = (t : Int)) (k1 : 0 < x → zSm Γ t L S w cu su) (k2 : ¬ 0 < x → zSm Γ (pc + 3) L S w cu su) : zSm Γ pc L (.int x :: S) w cu su :=
  fun ad H locs ls hP hD hS hl ha => lv_if_gt C.1 C.2.1 hd ht (fun h => k1 h ad H locs ls hP hD hS hl ha) (fun h => k2 h ad H locs ls hP hD hS hl ha)
theorem zs_icmp_eq (C : zOK Γ T own) {x y : Int32} {off : Int} {t : Nat} (hd : decode Γ.cc pc = .ok (.if_icmp .eq off, 3)) (ht : (pc : Int) + off = (t : Int)) (k1 : x = y → zSm Γ t L S w cu su) (k2 : ¬ x = y → zSm Γ (pc + 3) L S w cu su) : zSm Γ pc L (.int y :: .int x :: S) w cu su :=
  fun ad H locs ls hP hD hS hl ha => lv_icmp_eq C.1 C.2.1 hd ht (fun h => k1 h ad H locs ls hP hD hS hl ha) (fun h => k2 h ad H locs ls hP hD hS hl ha)
theorem zs_icmp_ne (C : zOK Γ T own) {x y : Int32} {off : Int} {t : Nat} (hd : decode Γ.cc pc = .ok (.if_icmp .ne off, 3)) (ht : (pc : Int) + off = (t : Int)) (k1 : ¬ x = y → zSm Γ t L S w cu su) (k2 : x = y → zSm Γ (pc + 3) L S w cu su) : zSm Γ pc L (.int y :: .int x :: S) w cu su :=
  fun ad H locs ls hP hD hS hl ha => lv_icmp_ne C.1 C.2.1 hd ht (fun h => k1 h ad H locs ls hP hD hS hl ha) (fun h => k2 h ad H locs ls hP hD hS hl ha)
theorem zs_icmp_lt (C : zOK Γ T own) {x y : Int32} {off : Int} {t : Nat} (hd : decode Γ.cc pc = .ok (.if_icmp .lt off, 3)) (ht : (pc : Int) + off = (t : Int)) (k1 : x < y → zSm Γ t L S w cu su) (k2 : ¬ x < y → zSm Γ (pc + 3) L S w cu su) : zSm Γ pc L (.int y :: .int x :: S) w cu su :=
  fun ad H locs ls hP hD hS hl ha => lv_icmp_lt C.1 C.2.1 hd ht (fun h => k1 h ad H locs ls hP hD hS hl ha) (fun h => k2 h ad H locs ls hP hD hS hl ha)
theorem zs_icmp_ge (C : zOK Γ T own) {x y : Int32} {off : Int} {t : Nat} (hd : decode Γ.cc pc = .ok (.if_icmp .ge off, 3)) (ht : (pc : Int) + off = (t : Int)) (k1 : ¬ x < y → zSm Γ t L S w cu su) (k2 : x < y → zSm Γ (pc + 3) L S w cu su) : zSm Γ pc L (.int y :: .int x :: S) w cu su :=
  fun ad H locs ls hP hD hS hl ha => lv_icmp_ge C.1 C.2.1 hd ht (fun h => k1 (zle_nlt.mp h) ad H locs ls hP hD hS hl ha) (fun h => k2 (Classical.byContradiction fun q => h (zle_nlt.mpr q)) ad H locs ls hP hD hS hl ha)
theorem zs_icmp_gt (C : zOK Γ T own) {x y : Int32} {off : Int} {t : Nat} (hd : decode Γ.cc pc = .ok (.if_icmp .gt off, 3)) (ht : (pc : Int) + off = (t : Int)) (k1 : y < x → zSm Γ t L S w cu su) (k2 : ¬ y < x → zSm Γ (pc + 3) L S w cu su) : zSm Γ pc L (.int y :: .int x :: S) w cu su :=
  fun ad H locs ls hP hD hS hl ha => lv_icmp_gt C.1 C.2.1 hd ht (fun h => k1 h ad H locs ls hP hD hS hl ha) (fun h => k2 h ad H locs ls hP hD hS hl ha)
theorem zs_icmp_le (C : zOK Γ T own) {x y : Int32} {off : Int} {t : Nat} (hd : decode Γ.cc pc = .ok (.if_icmp .le off, 3)) (ht : (pc : Int) + off = (t : Int)) (k1 : ¬ y < x → zSm Γ t L S w cu su) (k2 : y < x → zSm Γ (pc + 3) L S w cu su) : zSm Γ pc L (.int y :: .int x :: S) w cu su :=
  fun ad H locs ls hP hD hS hl ha => lv_icmp_le C.1 C.2.1 hd ht (fun h => k1 (zle_nlt.mp h) ad H locs ls hP hD hS hl ha) (fun h => k2 (Classical.byContradiction fun q => h (zle_nlt.mpr q)) ad H locs ls hP hD hS hl ha)
end ZS
