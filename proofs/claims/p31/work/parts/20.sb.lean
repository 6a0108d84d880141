/-! ===== members of the JDK: StringBuilder ===== -/
def zspMin : zSpec := fun args w Q _ => ∃ x y, args = [.int x, .int y] ∧ Q (some (.int (if y < x then y else x))) w
/-- Math.min is the machine's own -/
theorem zcMin {l : Launch} {own : String} {d idx : Nat} {ps : List Nat} (hz : zins ps [.methodLink own idx Lib.Math.min.name, .static Lib.Math.min.name, .initialized "java/lang/Math", .code Lib.Math.min.name Lib.Math.min.code 2 (some .int)] = true) (hd : 0 < d) : zCallable l own d (idx, 1, 2, none, 0, 0, false, zspMin) := by
  intro Γ T B pc L S as S' w cu su QN _ hd2 hp hrc hcat hcu hsu hal hN hSp ad H locs ls hP hD hS hl ha
  obtain ⟨hlen, rfl⟩ := zpop_top hp
  obtain ⟨x, y, rfl, hq⟩ := hSp
  obtain ⟨e1, hx, hb, hml, hown, hE, hRf, hRl, hA, hrC, hrS, hTa, hTn, hex⟩ := id B
  have hm9 : ∀ w ∈ [Cond.methodLink own idx Lib.Math.min.name, .static Lib.Math.min.name, .initialized "java/lang/Math", .code Lib.Math.min.name Lib.Math.min.code 2 (some .int)], w.before Γ.args Γ.s = true := fun w hw => zts B w (zins_in hz w hw)
  have h9 := hN _ w hq ad H locs ls hP hD hS hl ha
  have h8 : ((S'.map (zcv ad)).map fun v => v.category).sum ≤ 8 := by rw [zcat_map]; exact hcat
  exact va_mmin hx hb (hml.trans hl.1.symm) hown (hm9 _ (by simp)) (hm9 _ (by simp)) (hm9 _ (by simp)) (hm9 _ (by simp)) (by omega) (Nat.le_trans (Nat.add_le_add_right h8 13) (by omega)) (Nat.le_trans hcu hrC) (Nat.le_trans hsu hrS) hd2 h9
/-- a private method of a class above the receiver's: what a call by its name selects -/
theorem zsel_private {y y' : MethodName} {C : String} {s : State} {args : Array Value} {n : Nat} (hy : y.cls ≠ "java/lang/invoke/MethodHandle" ∧ y.cls ≠ "java/lang/invoke/VarHandle") (hcc : y'.cls = y.cls)
    (hins : (Cond.instantiable C n).before args s = true) (hpriv : (Cond.privateMethod y).before args s = true) (hinst : (Cond.instanceMethod y).before args s = true) (hs : (Cond.selects C y' y').before args s = true) :
    (Cond.selects C y y).before args s = true := by
  obtain ⟨c, k, hc, hk, -, hniab, -, -⟩ := Cond.instantiable_spec hins
  obtain ⟨mk, methM, hnamed, hmethM, -, -⟩ := Cond.instanceMethod_spec hinst
  have hfound : s.methodFound? y.cls y.name y.desc = some mk := State.methodFound?_of_named hnamed hy
  obtain ⟨c2, r2, m2, -, -, q3, -, kP, hkP, hkPi⟩ := Cond.selects_spec hs
  have hcls : mk.cls = m2.cls := Option.some.inj ((findClass_of_methodNamed hnamed).symm.trans ((congrArg s.vm.findClass hcc.symm).trans (findClass_of_methodNamed q3)))
  have hsel : selectMethod {} s.vm c mk = .method mk := selectMethod_private hmethM (Cond.privateMethod_at hpriv mk methM hnamed hmethM)
  simp only [Cond.before, Cond.holds, Cond.value, hc, hfound, hnamed, hsel, hcls, hkP]
  simp; exact hkPi
set_option maxHeartbeats 2000000 in
theorem zcUP {l : Launch} {own : String} {ci d d' idx maxL mc ms n : Nat} {al : Bool} {Sp : zSpec} {bytes : ByteArray} {ret : Option FieldType} {ps : List Nat} {y : MethodName} {C : vw_C} (hM : CT l y (.code y bytes maxL ret) d' mc ms al Sp)
    (hz : zins ps [.methodLink own idx y, .sameMethod y.cls y.cls y.name y.desc, .instanceMethod y, .initialized y.cls, .code y bytes maxL ret] = true) (hc : zCl[ci]? = some C) (hsm : Cond.selects C.1 y y ∈ zTs)
    (hy : y.cls ≠ "java/lang/invoke/MethodHandle" ∧ y.cls ≠ "java/lang/invoke/VarHandle" ∧ (parseMethodDescriptor y.desc).map (fun d => d.parameters.length) = some n) (hd : d' < d) (hm : maxL ≤ 20) : zCallable l own d (idx, 0, n + 1, some ci, mc, ms, al, Sp) := by
  intro Γ T B pc L S as S' w cu su QN _ hd2 hp hrc hcat hcu hsu hal hN hSp ad H locs ls hP hD hS hl ha
  obtain ⟨hlen, rfl⟩ := zpop_top hp
  obtain ⟨k, as', o, rfl, hw, rfl⟩ := zrcv_s hrc
  obtain ⟨e1, hx, hb, hml, hown, hE, hRf, hRl, hA, hrC, hrS, hTa, hTn, hex⟩ := id B
  subst e1
  have M := hM Γ.G Γ.cA ad w (.ref k :: as') H.size QN _ hSp
  have hq : ∀ w ∈ [Cond.methodLink own idx y, .sameMethod y.cls y.cls y.name y.desc, .instanceMethod y, .initialized y.cls, .code y bytes maxL ret], w ∈ zTs := zins_in hz
  have hG : GoodIn zTs (va_wsU own idx C.1 y.cls y y [.code y bytes maxL ret]) := fun w hw => by
    have h : w ∈ zTs := by
      have hw2 : w ∈ [Cond.methodLink own idx y, .sameMethod y.cls y.cls y.name y.desc, .selects C.1 y y, .instanceMethod y, .initialized y.cls, .code y bytes maxL ret] := hw
      simp only [List.mem_cons, List.not_mem_nil, or_false] at hw2
      rcases hw2 with e | e | e | e | e | e
      · exact hq w (by rw [e]; simp)
      · exact hq w (by rw [e]; simp)
      · rw [e]; exact hsm
      · exact hq w (by rw [e]; simp)
      · exact hq w (by rw [e]; simp)
      · exact hq w (by rw [e]; simp)
    exact ⟨h, good_of_word (zgood h)⟩
  exact zcall_fin B hP hD hS hl ha hal hN (vx_runU (As := as'.map (zcv ad)) (rest := S'.map (zcv ad)) (b := ad k) ⟨hx, hb, hml, hown, zts B⟩ M (va_cwU n (zts B) hG rfl rfl rfl rfl hy (zroom B hd hm)) ⟨zpre_blind, va_recv hE.2.2.2.2.2.2.2.1 hP hc (zcw_get hw), fun U hU hW => zpre_at (as := .ref k :: as') B hP hD hS ha hU hW⟩ rfl (by rw [List.length_map]; simpa using hlen) hl.1 zstk (zmon hcat) hd2 ⟨Nat.le_trans hcu hrC, Nat.le_trans hsu hrS⟩)
/-- a row of signs written from c on -/
def zwr (f : Nat → Int32) (c : Nat) : List Nat → Nat → Int32
  | [] => f
  | x :: t => zwr (upd f c (nI x)) (c + 1) t
theorem zwr_below : ∀ (l : List Nat) (f : Nat → Int32) (c j : Nat), j < c → zwr f c l j = f j
  | [], _, _, _, _ => rfl
  | x :: t, f, c, j, h => by
    show zwr (upd f c (nI x)) (c + 1) t j = f j
    rw [zwr_below t _ _ _ (by omega), pk_un (by omega)]
theorem zwr_get : ∀ (l : List Nat) (f : Nat → Int32) (c j : Nat) (h : j < l.length), zwr f c l (c + j) = nI (l[j])
  | [], _, _, j, h => absurd h (Nat.not_lt_zero j)
  | x :: t, f, c, j, h => by
    show zwr (upd f c (nI x)) (c + 1) t (c + j) = _
    cases j with
    | zero =>
      show zwr (upd f c (nI x)) (c + 1) t c = nI x
      rw [zwr_below t _ _ _ (by omega), pk_us]
    | succ j => rw [show c + (j + 1) = c + 1 + j by omega, zwr_get t _ _ j (by simpa using h)]; rfl
theorem zwr_app : ∀ (l l' : List Nat) (f : Nat → Int32) (c : Nat), zwr f c (l ++ l') = zwr (zwr f c l) (c + l.length) l'
  | [], l', f, c => rfl
  | x :: t, l', f, c => by
    show zwr (upd f c (nI x)) (c + 1) (t ++ l') = _
    rw [zwr_app t l', show c + (x :: t).length = c + 1 + t.length by simp; omega]
    rfl
/-- the digits of a number below 100 -/
def zdg (n : Nat) : List Nat := if n < 10 then [48 + n] else [48 + n / 10, 48 + n % 10]
theorem zdg_len {n : Nat} : (zdg n).length ≤ 2 ∧ 1 ≤ (zdg n).length := by unfold zdg; split <;> simp
def sp_J5_length : zSpec := fun args w Q _ => ∃ α ν r, args = [.ref 19] ∧ w = WX α ν r ∧ Q (some (.int (ν 6))) (WX α ν r)
def sp_J5_length_8abf5 : zSpec := sp_J5_length
def fl_RJ5 : List (Nat × Nat × Nat) := [(15, 0, 0), (22, 0, 1), (73, 0, 2), (79, 0, 3)]
theorem hfl_RJ5 : ∀ q ∈ fl_RJ5, zFld RJ5 q := zfld_of (ps := [153, 154, 155, 156]) (by decide +kernel)
def pg_J5_length_8abf5 : List zE := [(0, .aload_n 0, 1, []), (1, .getfield 79, 3, []), (4, .ireturn, 1, [])]
theorem hp_J5_length_8abf5 : ∀ q ∈ pg_J5_length_8abf5, decode cJ5_length_8abf5 q.1 = .ok (q.2.1, q.2.2.1) ∧ ztg q.2.1 q.1 q.2.2.1 q.2.2.2 = true := zpg_of (by decide +kernel)
def cs_J5_length_8abf5 : List (Nat × zCall) := []
theorem hcs_J5_length_8abf5 {l : Launch} (hl0 : l.stackTraces = false) : ∀ q ∈ cs_J5_length_8abf5, zCallable l RJ5 1 q := fun _ h => absurd h List.not_mem_nil
def th_J5_length_8abf5 : List (Nat × String) := []
theorem hth_J5_length_8abf5 : ∀ q ∈ th_J5_length_8abf5, zThrow cJ5_length_8abf5 RJ5 q := fun _ h => absurd h List.not_mem_nil
def kc_J5_length_8abf5 : List (Nat × Int32) := []
theorem hkc_J5_length_8abf5 : ∀ q ∈ kc_J5_length_8abf5, Cond.constant RJ5 q.1 q.2 ∈ zTs := fun _ h => absurd h List.not_mem_nil
def nw_J5_length_8abf5 : List (Nat × Nat × Nat × List Value) := []
theorem hnw_J5_length_8abf5 : ∀ q ∈ nw_J5_length_8abf5, zNew RJ5 q := fun _ h => absurd h List.not_mem_nil
set_option maxHeartbeats 4000000 in
set_option maxRecDepth 20000 in
theorem c_J5_length_8abf5 {l : Launch} (hl0 : l.stackTraces = false) : CT l yJ5_length_8abf5 (.code yJ5_length_8abf5 cJ5_length_8abf5 1 (some .int)) 1 0 0 false sp_J5_length_8abf5 := by
  refine zCT_of hl0 (own := RJ5) fl_RJ5 cs_J5_length_8abf5 nw_J5_length_8abf5 th_J5_length_8abf5 kc_J5_length_8abf5 (fun _ => []) false pg_J5_length_8abf5 rfl (by decide +kernel) hp_J5_length_8abf5 ⟨_, _, rfl, rfl⟩ hfl_RJ5 (fun h => nomatch h) (hcs_J5_length_8abf5 hl0) hnw_J5_length_8abf5 hth_J5_length_8abf5 (fun _ _ h => absurd h List.not_mem_nil) hkc_J5_length_8abf5 (fun args w Q X v0 hv0 h => ?_)
  obtain ⟨α, ν, r, rfl, rfl, hQ⟩ := h
  refine ⟨Nat.le_of_ble_eq_true rfl, 20, [], ?_, fun q hq => absurd hq List.not_mem_nil⟩
  (conv => whnf)
  exact hQ
def sp_J4_length_8abf5 : zSpec := sp_J5_length
def fl_RJ4 : List (Nat × Nat × Nat) := []
theorem hfl_RJ4 : ∀ q ∈ fl_RJ4, zFld RJ4 q := zfld_of (ps := []) (by decide +kernel)
def pg_J4_length_8abf5 : List zE := [(0, .aload_n 0, 1, []), (1, .invokespecial 343, 3, []), (4, .ireturn, 1, [])]
theorem hp_J4_length_8abf5 : ∀ q ∈ pg_J4_length_8abf5, decode cJ4_length_8abf5 q.1 = .ok (q.2.1, q.2.2.1) ∧ ztg q.2.1 q.1 q.2.2.1 q.2.2.2 = true := zpg_of (by decide +kernel)
def cs_J4_length_8abf5 : List (Nat × zCall) := [(343, 2, 1, some 0, 0, 0, false, sp_J5_length_8abf5)]
theorem hcs_J4_length_8abf5 {l : Launch} (hl0 : l.stackTraces = false) : ∀ q ∈ cs_J4_length_8abf5, zCallable l RJ4 2 q := List.forall_mem_cons.mpr ⟨zcSU (C := (RJ4, TJ4, 4)) (ps := [798, 857, 165, 799, 20, 800]) (c_J5_length_8abf5 hl0) (by decide +kernel) rfl ⟨by decide +kernel, by decide +kernel⟩ (by decide) (by decide), fun _ h => absurd h List.not_mem_nil⟩
def th_J4_length_8abf5 : List (Nat × String) := []
theorem hth_J4_length_8abf5 : ∀ q ∈ th_J4_length_8abf5, zThrow cJ4_length_8abf5 RJ4 q := fun _ h => absurd h List.not_mem_nil
def kc_J4_length_8abf5 : List (Nat × Int32) := []
theorem hkc_J4_length_8abf5 : ∀ q ∈ kc_J4_length_8abf5, Cond.constant RJ4 q.1 q.2 ∈ zTs := fun _ h => absurd h List.not_mem_nil
def nw_J4_length_8abf5 : List (Nat × Nat × Nat × List Value) := []
theorem hnw_J4_length_8abf5 : ∀ q ∈ nw_J4_length_8abf5, zNew RJ4 q := fun _ h => absurd h List.not_mem_nil
set_option maxHeartbeats 4000000 in
set_option maxRecDepth 20000 in
theorem c_J4_length_8abf5 {l : Launch} (hl0 : l.stackTraces = false) : CT l yJ4_length_8abf5 (.code yJ4_length_8abf5 cJ4_length_8abf5 1 (some .int)) 2 0 0 false sp_J4_length_8abf5 := by
  refine zCT_of hl0 (own := RJ4) fl_RJ4 cs_J4_length_8abf5 nw_J4_length_8abf5 th_J4_length_8abf5 kc_J4_length_8abf5 (fun _ => []) false pg_J4_length_8abf5 rfl (by decide +kernel) hp_J4_length_8abf5 ⟨_, _, rfl, rfl⟩ hfl_RJ4 (fun h => nomatch h) (hcs_J4_length_8abf5 hl0) hnw_J4_length_8abf5 hth_J4_length_8abf5 (fun _ _ h => absurd h List.not_mem_nil) hkc_J4_length_8abf5 (fun args w Q X v0 hv0 h => ?_)
  obtain ⟨α, ν, r, rfl, rfl, hQ⟩ := h
  refine ⟨Nat.le_of_ble_eq_true rfl, 20, [], ?_, fun q hq => absurd hq List.not_mem_nil⟩
  (conv => whnf)
  refine ⟨α, ν, r, rfl, rfl, ?_⟩
  (conv => whnf)
  exact hQ
def sp_J5_isLatin1_aae02 : zSpec := fun args w Q _ => ∃ α ν r, args = [.ref 19] ∧ w = WX α ν r ∧ Q (some (.int 1)) (WX α ν r)
def pg_J5_isLatin1_aae02 : List zE := [(0, .getstatic 18, 3, []), (3, .ifCond .eq 14, 3, [17]), (6, .aload_n 0, 1, []), (7, .getfield 22, 3, []), (10, .ifCond .ne 7, 3, [17]), (13, .iconst 1, 1, [1]), (14, .goto 4, 3, [18]), (17, .iconst 0, 1, [0]), (18, .ireturn, 1, [])]
theorem hp_J5_isLatin1_aae02 : ∀ q ∈ pg_J5_isLatin1_aae02, decode cJ5_isLatin1_aae02 q.1 = .ok (q.2.1, q.2.2.1) ∧ ztg q.2.1 q.1 q.2.2.1 q.2.2.2 = true := zpg_of (by decide +kernel)
def cs_J5_isLatin1_aae02 : List (Nat × zCall) := []
theorem hcs_J5_isLatin1_aae02 {l : Launch} (hl0 : l.stackTraces = false) : ∀ q ∈ cs_J5_isLatin1_aae02, zCallable l RJ5 1 q := fun _ h => absurd h List.not_mem_nil
def th_J5_isLatin1_aae02 : List (Nat × String) := []
theorem hth_J5_isLatin1_aae02 : ∀ q ∈ th_J5_isLatin1_aae02, zThrow cJ5_isLatin1_aae02 RJ5 q := fun _ h => absurd h List.not_mem_nil
def kc_J5_isLatin1_aae02 : List (Nat × Int32) := []
theorem hkc_J5_isLatin1_aae02 : ∀ q ∈ kc_J5_isLatin1_aae02, Cond.constant RJ5 q.1 q.2 ∈ zTs := fun _ h => absurd h List.not_mem_nil
def nw_J5_isLatin1_aae02 : List (Nat × Nat × Nat × List Value) := []
theorem hnw_J5_isLatin1_aae02 : ∀ q ∈ nw_J5_isLatin1_aae02, zNew RJ5 q := fun _ h => absurd h List.not_mem_nil
set_option maxHeartbeats 4000000 in
set_option maxRecDepth 20000 in
theorem c_J5_isLatin1_aae02 {l : Launch} (hl0 : l.stackTraces = false) : CT l yJ5_isLatin1_aae02 (.code yJ5_isLatin1_aae02 cJ5_isLatin1_aae02 1 (some .boolean)) 1 0 0 false sp_J5_isLatin1_aae02 := by
  refine zCT_of hl0 (own := RJ5) fl_RJ5 cs_J5_isLatin1_aae02 nw_J5_isLatin1_aae02 th_J5_isLatin1_aae02 kc_J5_isLatin1_aae02 (fun v0 => [(18, .int 1)]) false pg_J5_isLatin1_aae02 rfl (by decide +kernel) hp_J5_isLatin1_aae02 ⟨_, _, rfl, rfl⟩ hfl_RJ5 (fun h => nomatch h) (hcs_J5_isLatin1_aae02 hl0) hnw_J5_isLatin1_aae02 hth_J5_isLatin1_aae02 (fun v0 => List.forall_mem_cons.mpr ⟨Or.inl ⟨rfl, show Cond.fieldLink RJ5 18 "java/lang/String" "COMPACT_STRINGS" "Z" ∈ zTs from zmem (i := 144) (by decide +kernel) rfl⟩, fun _ h => absurd h List.not_mem_nil⟩) hkc_J5_isLatin1_aae02 (fun args w Q X v0 hv0 h => ?_)
  obtain ⟨α, ν, r, rfl, rfl, hQ⟩ := h
  refine ⟨Nat.le_of_ble_eq_true rfl, 20, [], ?_, fun q hq => absurd hq List.not_mem_nil⟩
  (conv => whnf)
  refine And.intro (fun c => absurd c (show ¬ _ from (by decide))) (fun _ => ?_)
  (conv => whnf)
  refine And.intro (fun _ => ?_) (fun c => absurd (show _ from rfl) c)
  (conv => whnf)
  exact ⟨Or.inr rfl, hQ⟩
theorem pk_ishr0 (x : Int32) : x >>> ((0 : Int32) &&& 31) = x := by
  have h : (0 : Int32) &&& 31 = 0 := by decide
  rw [h]
  apply Int32.toInt_inj.mp
  rw [pk_shr x 0 0 (by decide)]
  simp
def sp_J5_ensureCapacityInternal_d00df : zSpec := fun args w Q _ => ∃ α ν r n, n ≤ 16 ∧ args = [.ref 19, .int (nI n)] ∧ w = WX α ν r ∧ Q none (WX α ν r)
def pg_J5_ensureCapacityInternal_d00df : List zE := [(0, .aload_n 0, 1, []), (1, .getfield 15, 3, []), (4, .arraylength, 1, []), (5, .aload_n 0, 1, []), (6, .getfield 22, 3, []), (9, .ishr, 1, []), (10, .istore_n 2, 1, []), (11, .iload_n 1, 1, []), (12, .iload_n 2, 1, []), (13, .isub, 1, []), (14, .ifCond .le 24, 3, [38]), (17, .aload_n 0, 1, []), (18, .aload_n 0, 1, []), (19, .getfield 15, 3, []), (22, .aload_n 0, 1, []), (23, .iload_n 1, 1, []), (24, .invokevirtual 104, 3, []), (27, .aload_n 0, 1, []), (28, .getfield 22, 3, []), (31, .ishl, 1, []), (32, .invokestatic 108, 3, []), (35, .putfield 15, 3, []), (38, .return_, 1, [])]
theorem hp_J5_ensureCapacityInternal_d00df : ∀ q ∈ pg_J5_ensureCapacityInternal_d00df, decode cJ5_ensureCapacityInternal_d00df q.1 = .ok (q.2.1, q.2.2.1) ∧ ztg q.2.1 q.1 q.2.2.1 q.2.2.2 = true := zpg_of (by decide +kernel)
def cs_J5_ensureCapacityInternal_d00df : List (Nat × zCall) := []
theorem hcs_J5_ensureCapacityInternal_d00df {l : Launch} (hl0 : l.stackTraces = false) : ∀ q ∈ cs_J5_ensureCapacityInternal_d00df, zCallable l RJ5 1 q := fun _ h => absurd h List.not_mem_nil
def th_J5_ensureCapacityInternal_d00df : List (Nat × String) := []
theorem hth_J5_ensureCapacityInternal_d00df : ∀ q ∈ th_J5_ensureCapacityInternal_d00df, zThrow cJ5_ensureCapacityInternal_d00df RJ5 q := fun _ h => absurd h List.not_mem_nil
def kc_J5_ensureCapacityInternal_d00df : List (Nat × Int32) := []
theorem hkc_J5_ensureCapacityInternal_d00df : ∀ q ∈ kc_J5_ensureCapacityInternal_d00df, Cond.constant RJ5 q.1 q.2 ∈ zTs := fun _ h => absurd h List.not_mem_nil
def nw_J5_ensureCapacityInternal_d00df : List (Nat × Nat × Nat × List Value) := []
theorem hnw_J5_ensureCapacityInternal_d00df : ∀ q ∈ nw_J5_ensureCapacityInternal_d00df, zNew RJ5 q := fun _ h => absurd h List.not_mem_nil
set_option maxHeartbeats 4000000 in
set_option maxRecDepth 20000 in
theorem c_J5_ensureCapacityInternal_d00df {l : Launch} (hl0 : l.stackTraces = false) : CT l yJ5_ensureCapacityInternal_d00df (.code yJ5_ensureCapacityInternal_d00df cJ5_ensureCapacityInternal_d00df 3 none) 1 0 0 false sp_J5_ensureCapacityInternal_d00df := by
  refine zCT_of hl0 (own := RJ5) fl_RJ5 cs_J5_ensureCapacityInternal_d00df nw_J5_ensureCapacityInternal_d00df th_J5_ensureCapacityInternal_d00df kc_J5_ensureCapacityInternal_d00df (fun _ => []) false pg_J5_ensureCapacityInternal_d00df rfl (by decide +kernel) hp_J5_ensureCapacityInternal_d00df ⟨_, _, rfl, rfl⟩ hfl_RJ5 (fun h => nomatch h) (hcs_J5_ensureCapacityInternal_d00df hl0) hnw_J5_ensureCapacityInternal_d00df hth_J5_ensureCapacityInternal_d00df (fun _ _ h => absurd h List.not_mem_nil) hkc_J5_ensureCapacityInternal_d00df (fun args w Q X v0 hv0 h => ?_)
  obtain ⟨α, ν, r, n, hn, rfl, rfl, hQ⟩ := h
  refine ⟨Nat.le_of_ble_eq_true rfl, 20, [], ?_, fun q hq => absurd hq List.not_mem_nil⟩
  (conv => whnf)
  dsimp only
  rw [pk_ishr0]
  refine And.intro (fun c => ?_) (fun c => ?_)
  · exfalso
    have c2 : 0 < nI n - nI 16 := c
    have := Int32.lt_iff_toInt_lt.mp c2
    rw [pk_sub_toInt (by omega) (by decide)] at this
    have e : (0 : Int32).toInt = 0 := by decide
    omega
  · (conv => whnf)
    exact hQ
def sp_J5_setLength_d00df : zSpec := fun args w Q _ => ∃ α ν r c, c < 2 ^ 31 ∧ ν 6 = nI c ∧ args = [.ref 19, .int (nI 0)] ∧ w = WX α ν r ∧ ∀ y, Q none (WX α (zu (zu ν 7 y) 6 (nI 0)) r)
def pg_J5_setLength_d00df : List zE := [(0, .iload_n 1, 1, []), (1, .ifCond .ge 12, 3, [13]), (4, .new 129, 3, []), (7, .dup, 1, []), (8, .iload_n 1, 1, []), (9, .invokespecial 131, 3, []), (12, .athrow, 1, []), (13, .aload_n 0, 1, []), (14, .iload_n 1, 1, []), (15, .invokevirtual 100, 3, []), (18, .aload_n 0, 1, []), (19, .getfield 79, 3, []), (22, .iload_n 1, 1, []), (23, .if_icmp .ge 40, 3, [63]), (26, .aload_n 0, 1, []), (27, .invokevirtual 83, 3, []), (30, .ifCond .eq 18, 3, [48]), (33, .aload_n 0, 1, []), (34, .getfield 15, 3, []), (37, .aload_n 0, 1, []), (38, .getfield 79, 3, []), (41, .iload_n 1, 1, []), (42, .invokestatic 133, 3, []), (45, .goto 31, 3, [76]), (48, .aload_n 0, 1, []), (49, .getfield 15, 3, []), (52, .aload_n 0, 1, []), (53, .getfield 79, 3, []), (56, .iload_n 1, 1, []), (57, .invokestatic 137, 3, []), (60, .goto 16, 3, [76]), (63, .aload_n 0, 1, []), (64, .getfield 79, 3, []), (67, .iload_n 1, 1, []), (68, .if_icmp .le 8, 3, [76]), (71, .aload_n 0, 1, []), (72, .iconst 1, 1, [1]), (73, .putfield 73, 3, []), (76, .aload_n 0, 1, []), (77, .iload_n 1, 1, []), (78, .putfield 79, 3, []), (81, .return_, 1, [])]
theorem hp_J5_setLength_d00df : ∀ q ∈ pg_J5_setLength_d00df, decode cJ5_setLength_d00df q.1 = .ok (q.2.1, q.2.2.1) ∧ ztg q.2.1 q.1 q.2.2.1 q.2.2.2 = true := zpg_of (by decide +kernel)
def cs_J5_setLength_d00df : List (Nat × zCall) := [(100, 0, 2, some 0, 0, 0, false, sp_J5_ensureCapacityInternal_d00df), (83, 0, 1, some 0, 0, 0, false, sp_J5_isLatin1_aae02)]
theorem hcs_J5_setLength_d00df {l : Launch} (hl0 : l.stackTraces = false) : ∀ q ∈ cs_J5_setLength_d00df, zCallable l RJ5 2 q := List.forall_mem_cons.mpr ⟨zcUP (C := (RJ4, TJ4, 4)) (ps := [651, 852, 653, 20, 654]) (c_J5_ensureCapacityInternal_d00df hl0) (by decide +kernel) rfl zXs_mem ⟨by decide +kernel, by decide +kernel, by decide +kernel⟩ (by decide) (by decide), List.forall_mem_cons.mpr ⟨zcU (C := (RJ4, TJ4, 4)) (x := yJ5_isLatin1_aae02) (owner := RJ5) (ps := [684, 686, 687, 685, 20, 688]) (c_J5_isLatin1_aae02 hl0) (by decide +kernel) rfl rfl ⟨by decide +kernel, by decide +kernel, by decide +kernel⟩ (by decide) (by decide), fun _ h => absurd h List.not_mem_nil⟩⟩
def th_J5_setLength_d00df : List (Nat × String) := []
theorem hth_J5_setLength_d00df : ∀ q ∈ th_J5_setLength_d00df, zThrow cJ5_setLength_d00df RJ5 q := fun _ h => absurd h List.not_mem_nil
def kc_J5_setLength_d00df : List (Nat × Int32) := []
theorem hkc_J5_setLength_d00df : ∀ q ∈ kc_J5_setLength_d00df, Cond.constant RJ5 q.1 q.2 ∈ zTs := fun _ h => absurd h List.not_mem_nil
def nw_J5_setLength_d00df : List (Nat × Nat × Nat × List Value) := []
theorem hnw_J5_setLength_d00df : ∀ q ∈ nw_J5_setLength_d00df, zNew RJ5 q := fun _ h => absurd h List.not_mem_nil
set_option maxHeartbeats 4000000 in
set_option maxRecDepth 20000 in
theorem c_J5_setLength_d00df {l : Launch} (hl0 : l.stackTraces = false) : CT l yJ5_setLength_d00df (.code yJ5_setLength_d00df cJ5_setLength_d00df 2 none) 2 0 0 false sp_J5_setLength_d00df := by
  refine zCT_of hl0 (own := RJ5) fl_RJ5 cs_J5_setLength_d00df nw_J5_setLength_d00df th_J5_setLength_d00df kc_J5_setLength_d00df (fun _ => []) false pg_J5_setLength_d00df rfl (by decide +kernel) hp_J5_setLength_d00df ⟨_, _, rfl, rfl⟩ hfl_RJ5 (fun h => nomatch h) (hcs_J5_setLength_d00df hl0) hnw_J5_setLength_d00df hth_J5_setLength_d00df (fun _ _ h => absurd h List.not_mem_nil) hkc_J5_setLength_d00df (fun args w Q X v0 hv0 h => ?_)
  obtain ⟨α, ν, r, c, hc, hν, rfl, rfl, hQ⟩ := h
  refine ⟨Nat.le_of_ble_eq_true rfl, 60, [], ?_, fun q hq => absurd hq List.not_mem_nil⟩
  (conv => whnf)
  refine And.intro (fun c => absurd c (show ¬ _ from (by decide))) (fun _ => ?_)
  (conv => whnf)
  refine ⟨α, ν, r, 0, by omega, rfl, rfl, ?_⟩
  (conv => whnf)
  rw [hν]
  refine And.intro (fun c => absurd c (show ¬ _ from (nI_pos hc))) (fun _ => ?_)
  (conv => whnf)
  rw [hν]
  refine And.intro (fun d => ?_) (fun d => ?_)
  · (conv => whnf)
    refine ⟨rfl, rfl, ?_⟩
    (conv => whnf)
    exact hQ 1
  · (conv => whnf)
    exact hQ (ν 7)
def sp_J4_setLength_d00df : zSpec := sp_J5_setLength_d00df
def pg_J4_setLength_d00df : List zE := [(0, .aload_n 0, 1, []), (1, .iload_n 1, 1, []), (2, .invokespecial 333, 3, []), (5, .return_, 1, [])]
theorem hp_J4_setLength_d00df : ∀ q ∈ pg_J4_setLength_d00df, decode cJ4_setLength_d00df q.1 = .ok (q.2.1, q.2.2.1) ∧ ztg q.2.1 q.1 q.2.2.1 q.2.2.2 = true := zpg_of (by decide +kernel)
def cs_J4_setLength_d00df : List (Nat × zCall) := [(333, 2, 2, some 0, 0, 0, false, sp_J5_setLength_d00df)]
theorem hcs_J4_setLength_d00df {l : Launch} (hl0 : l.stackTraces = false) : ∀ q ∈ cs_J4_setLength_d00df, zCallable l RJ4 3 q := List.forall_mem_cons.mpr ⟨zcSU (C := (RJ4, TJ4, 4)) (ps := [648, 851, 165, 649, 20, 650]) (c_J5_setLength_d00df hl0) (by decide +kernel) rfl ⟨by decide +kernel, by decide +kernel⟩ (by decide) (by decide), fun _ h => absurd h List.not_mem_nil⟩
def th_J4_setLength_d00df : List (Nat × String) := []
theorem hth_J4_setLength_d00df : ∀ q ∈ th_J4_setLength_d00df, zThrow cJ4_setLength_d00df RJ4 q := fun _ h => absurd h List.not_mem_nil
def kc_J4_setLength_d00df : List (Nat × Int32) := []
theorem hkc_J4_setLength_d00df : ∀ q ∈ kc_J4_setLength_d00df, Cond.constant RJ4 q.1 q.2 ∈ zTs := fun _ h => absurd h List.not_mem_nil
def nw_J4_setLength_d00df : List (Nat × Nat × Nat × List Value) := []
theorem hnw_J4_setLength_d00df : ∀ q ∈ nw_J4_setLength_d00df, zNew RJ4 q := fun _ h => absurd h List.not_mem_nil
set_option maxHeartbeats 4000000 in
set_option maxRecDepth 20000 in
theorem c_J4_setLength_d00df {l : Launch} (hl0 : l.stackTraces = false) : CT l yJ4_setLength_d00df (.code yJ4_setLength_d00df cJ4_setLength_d00df 2 none) 3 0 0 false sp_J4_setLength_d00df := by
  refine zCT_of hl0 (own := RJ4) fl_RJ4 cs_J4_setLength_d00df nw_J4_setLength_d00df th_J4_setLength_d00df kc_J4_setLength_d00df (fun _ => []) false pg_J4_setLength_d00df rfl (by decide +kernel) hp_J4_setLength_d00df ⟨_, _, rfl, rfl⟩ hfl_RJ4 (fun h => nomatch h) (hcs_J4_setLength_d00df hl0) hnw_J4_setLength_d00df hth_J4_setLength_d00df (fun _ _ h => absurd h List.not_mem_nil) hkc_J4_setLength_d00df (fun args w Q X v0 hv0 h => ?_)
  obtain ⟨α, ν, r, c, hc, hν, rfl, rfl, hQ⟩ := h
  refine ⟨Nat.le_of_ble_eq_true rfl, 20, [], ?_, fun q hq => absurd hq List.not_mem_nil⟩
  (conv => whnf)
  refine ⟨α, ν, r, c, hc, hν, rfl, rfl, fun y => ?_⟩
  (conv => whnf)
  exact hQ y
def sp_J1_canEncode_fc78d : zSpec := fun args w Q _ => ∃ x, x < 128 ∧ args = [.int (nI x)] ∧ Q (some (.int 1)) w
def fl_RJ1 : List (Nat × Nat × Nat) := []
theorem hfl_RJ1 : ∀ q ∈ fl_RJ1, zFld RJ1 q := zfld_of (ps := []) (by decide +kernel)
def pg_J1_canEncode_fc78d : List zE := [(0, .iload_n 0, 1, []), (1, .sipush 255, 3, [255]), (4, .if_icmp .gt 7, 3, [11]), (7, .iconst 1, 1, [1]), (8, .goto 4, 3, [12]), (11, .iconst 0, 1, [0]), (12, .ireturn, 1, [])]
theorem hp_J1_canEncode_fc78d : ∀ q ∈ pg_J1_canEncode_fc78d, decode cJ1_canEncode_fc78d q.1 = .ok (q.2.1, q.2.2.1) ∧ ztg q.2.1 q.1 q.2.2.1 q.2.2.2 = true := zpg_of (by decide +kernel)
def cs_J1_canEncode_fc78d : List (Nat × zCall) := []
theorem hcs_J1_canEncode_fc78d {l : Launch} (hl0 : l.stackTraces = false) : ∀ q ∈ cs_J1_canEncode_fc78d, zCallable l RJ1 1 q := fun _ h => absurd h List.not_mem_nil
def th_J1_canEncode_fc78d : List (Nat × String) := []
theorem hth_J1_canEncode_fc78d : ∀ q ∈ th_J1_canEncode_fc78d, zThrow cJ1_canEncode_fc78d RJ1 q := fun _ h => absurd h List.not_mem_nil
def kc_J1_canEncode_fc78d : List (Nat × Int32) := []
theorem hkc_J1_canEncode_fc78d : ∀ q ∈ kc_J1_canEncode_fc78d, Cond.constant RJ1 q.1 q.2 ∈ zTs := fun _ h => absurd h List.not_mem_nil
def nw_J1_canEncode_fc78d : List (Nat × Nat × Nat × List Value) := []
theorem hnw_J1_canEncode_fc78d : ∀ q ∈ nw_J1_canEncode_fc78d, zNew RJ1 q := fun _ h => absurd h List.not_mem_nil
set_option maxHeartbeats 4000000 in
set_option maxRecDepth 20000 in
theorem c_J1_canEncode_fc78d {l : Launch} (hl0 : l.stackTraces = false) : CT l yJ1_canEncode_fc78d (.code yJ1_canEncode_fc78d cJ1_canEncode_fc78d 1 (some .boolean)) 1 0 0 false sp_J1_canEncode_fc78d := by
  refine zCT_of hl0 (own := RJ1) fl_RJ1 cs_J1_canEncode_fc78d nw_J1_canEncode_fc78d th_J1_canEncode_fc78d kc_J1_canEncode_fc78d (fun _ => []) false pg_J1_canEncode_fc78d rfl (by decide +kernel) hp_J1_canEncode_fc78d ⟨_, _, rfl, rfl⟩ hfl_RJ1 (fun h => nomatch h) (hcs_J1_canEncode_fc78d hl0) hnw_J1_canEncode_fc78d hth_J1_canEncode_fc78d (fun _ _ h => absurd h List.not_mem_nil) hkc_J1_canEncode_fc78d (fun args w Q X v0 hv0 h => ?_)
  obtain ⟨x, hx, rfl, hQ⟩ := h
  refine ⟨Nat.le_of_ble_eq_true rfl, 20, [], ?_, fun q hq => absurd hq List.not_mem_nil⟩
  (conv => whnf)
  refine And.intro (fun c => absurd c (show ¬ _ from (nI_nlt (show x ≤ 255 by omega) (by omega)))) (fun _ => ?_)
  (conv => whnf)
  exact ⟨Or.inr rfl, hQ⟩
theorem pk_b7 {x : Nat} (hx : x < 128) : vp_nar .byte (nI x).toInt8.toInt32 = nI x := by
  have h : ∀ y : Fin 128, vp_nar .byte (nI y.val).toInt8.toInt32 = nI y.val := by decide +kernel
  exact h ⟨x, hx⟩
theorem pk_b8 {x : Nat} (hx : x < 128) : vp_nar .byte (nI x) = nI x := by
  have h : ∀ y : Fin 128, vp_nar .byte (nI y.val) = nI y.val := by decide +kernel
  exact h ⟨x, hx⟩
theorem pk_c7 {x : Nat} (hx : x < 128) : ((nI x &&& nI 255).toUInt32 % 65536).toInt32 = nI x := by
  have h : ∀ y : Fin 128, ((nI y.val &&& nI 255).toUInt32 % 65536).toInt32 = nI y.val := by decide +kernel
  exact h ⟨x, hx⟩
def sp_J5_append_3fe6f : zSpec := fun args w Q _ => ∃ α ν r c x, c < 16 ∧ ν 6 = nI c ∧ x < 128 ∧ args = [.ref 19, .int (nI x)] ∧ w = WX α ν r ∧ Q (some (.ref 19)) (WX (zu α 14 (zwr (α 14) c [x])) (zu ν 6 (nI (c + 1))) r)
def pg_J5_append_3fe6f : List zE := [(0, .aload_n 0, 1, []), (1, .aload_n 0, 1, []), (2, .getfield 79, 3, []), (5, .iconst 1, 1, [1]), (6, .iadd, 1, []), (7, .invokevirtual 100, 3, []), (10, .aload_n 0, 1, []), (11, .invokevirtual 83, 3, []), (14, .ifCond .eq 31, 3, [45]), (17, .iload_n 1, 1, []), (18, .invokestatic 191, 3, []), (21, .ifCond .eq 24, 3, [45]), (24, .aload_n 0, 1, []), (25, .getfield 15, 3, []), (28, .aload_n 0, 1, []), (29, .dup, 1, []), (30, .getfield 79, 3, []), (33, .dup_x1, 1, []), (34, .iconst 1, 1, [1]), (35, .iadd, 1, []), (36, .putfield 79, 3, []), (39, .iload_n 1, 1, []), (40, .i2b, 1, []), (41, .bastore, 1, []), (42, .goto 33, 3, [75]), (45, .aload_n 0, 1, []), (46, .invokevirtual 83, 3, []), (49, .ifCond .eq 7, 3, [56]), (52, .aload_n 0, 1, []), (53, .invokevirtual 195, 3, []), (56, .aload_n 0, 1, []), (57, .getfield 15, 3, []), (60, .aload_n 0, 1, []), (61, .dup, 1, []), (62, .getfield 79, 3, []), (65, .dup_x1, 1, []), (66, .iconst 1, 1, [1]), (67, .iadd, 1, []), (68, .putfield 79, 3, []), (71, .iload_n 1, 1, []), (72, .invokestatic 197, 3, []), (75, .aload_n 0, 1, []), (76, .areturn, 1, [])]
theorem hp_J5_append_3fe6f : ∀ q ∈ pg_J5_append_3fe6f, decode cJ5_append_3fe6f q.1 = .ok (q.2.1, q.2.2.1) ∧ ztg q.2.1 q.1 q.2.2.1 q.2.2.2 = true := zpg_of (by decide +kernel)
def cs_J5_append_3fe6f : List (Nat × zCall) := [(100, 0, 2, some 0, 0, 0, false, sp_J5_ensureCapacityInternal_d00df), (83, 0, 1, some 0, 0, 0, false, sp_J5_isLatin1_aae02), (191, 1, 1, none, 0, 0, false, sp_J1_canEncode_fc78d)]
theorem hcs_J5_append_3fe6f {l : Launch} (hl0 : l.stackTraces = false) : ∀ q ∈ cs_J5_append_3fe6f, zCallable l RJ5 2 q := List.forall_mem_cons.mpr ⟨zcUP (C := (RJ4, TJ4, 4)) (ps := [651, 852, 653, 20, 654]) (c_J5_ensureCapacityInternal_d00df hl0) (by decide +kernel) rfl zXs_mem ⟨by decide +kernel, by decide +kernel, by decide +kernel⟩ (by decide) (by decide), List.forall_mem_cons.mpr ⟨zcU (C := (RJ4, TJ4, 4)) (x := yJ5_isLatin1_aae02) (owner := RJ5) (ps := [684, 686, 687, 685, 20, 688]) (c_J5_isLatin1_aae02 hl0) (by decide +kernel) rfl rfl ⟨by decide +kernel, by decide +kernel, by decide +kernel⟩ (by decide) (by decide), List.forall_mem_cons.mpr ⟨zcS (ps := [712, 713, 33, 714]) (c_J1_canEncode_fc78d hl0) (by decide +kernel) ⟨by decide +kernel, by decide +kernel, by decide +kernel⟩ (by decide) (by decide), fun _ h => absurd h List.not_mem_nil⟩⟩⟩
def th_J5_append_3fe6f : List (Nat × String) := []
theorem hth_J5_append_3fe6f : ∀ q ∈ th_J5_append_3fe6f, zThrow cJ5_append_3fe6f RJ5 q := fun _ h => absurd h List.not_mem_nil
def kc_J5_append_3fe6f : List (Nat × Int32) := []
theorem hkc_J5_append_3fe6f : ∀ q ∈ kc_J5_append_3fe6f, Cond.constant RJ5 q.1 q.2 ∈ zTs := fun _ h => absurd h List.not_mem_nil
def nw_J5_append_3fe6f : List (Nat × Nat × Nat × List Value) := []
theorem hnw_J5_append_3fe6f : ∀ q ∈ nw_J5_append_3fe6f, zNew RJ5 q := fun _ h => absurd h List.not_mem_nil
set_option maxHeartbeats 4000000 in
set_option maxRecDepth 20000 in
theorem c_J5_append_3fe6f {l : Launch} (hl0 : l.stackTraces = false) : CT l yJ5_append_3fe6f (.code yJ5_append_3fe6f cJ5_append_3fe6f 2 (some (.object "java/lang/AbstractStringBuilder"))) 2 0 0 false sp_J5_append_3fe6f := by
  refine zCT_of hl0 (own := RJ5) fl_RJ5 cs_J5_append_3fe6f nw_J5_append_3fe6f th_J5_append_3fe6f kc_J5_append_3fe6f (fun _ => []) false pg_J5_append_3fe6f rfl (by decide +kernel) hp_J5_append_3fe6f ⟨_, _, rfl, rfl⟩ hfl_RJ5 (fun h => nomatch h) (hcs_J5_append_3fe6f hl0) hnw_J5_append_3fe6f hth_J5_append_3fe6f (fun _ _ h => absurd h List.not_mem_nil) hkc_J5_append_3fe6f (fun args w Q X v0 hv0 h => ?_)
  obtain ⟨α, ν, r, c, x, hc, hν, hx, rfl, rfl, hQ⟩ := h
  refine ⟨Nat.le_of_ble_eq_true rfl, 60, [], ?_, fun q hq => absurd hq List.not_mem_nil⟩
  (conv => whnf)
  refine ⟨α, ν, r, c + 1, by omega, by rw [hν, ← nI_add]; rfl, rfl, ?_⟩
  (conv => whnf)
  refine ⟨α, ν, r, rfl, rfl, ?_⟩
  (conv => whnf)
  refine And.intro (fun c => absurd c (show ¬ _ from (by decide))) (fun _ => ?_)
  (conv => whnf)
  refine ⟨x, hx, rfl, ?_⟩
  (conv => whnf)
  refine And.intro (fun c => absurd c (show ¬ _ from (by decide))) (fun _ => ?_)
  (conv => whnf)
  rw [hν]
  refine ⟨vp_in_nI hc (by decide), ?_⟩
  (conv => whnf)
  rw [nI_clamp (by omega), pk_b7 hx]
  dsimp only [zkon]
  rw [nI_add]
  exact hQ
def sp_J4_append_cf468 : zSpec := sp_J5_append_3fe6f
def pg_J4_append_cf468 : List zE := [(0, .aload_n 0, 1, []), (1, .iload_n 1, 1, []), (2, .invokespecial 50, 3, []), (5, .pop, 1, []), (6, .aload_n 0, 1, []), (7, .areturn, 1, [])]
theorem hp_J4_append_cf468 : ∀ q ∈ pg_J4_append_cf468, decode cJ4_append_cf468 q.1 = .ok (q.2.1, q.2.2.1) ∧ ztg q.2.1 q.1 q.2.2.1 q.2.2.2 = true := zpg_of (by decide +kernel)
def cs_J4_append_cf468 : List (Nat × zCall) := [(50, 2, 2, some 0, 0, 0, false, sp_J5_append_3fe6f)]
theorem hcs_J4_append_cf468 {l : Launch} (hl0 : l.stackTraces = false) : ∀ q ∈ cs_J4_append_cf468, zCallable l RJ4 3 q := List.forall_mem_cons.mpr ⟨zcSU (C := (RJ4, TJ4, 4)) (ps := [709, 854, 165, 710, 20, 711]) (c_J5_append_3fe6f hl0) (by decide +kernel) rfl ⟨by decide +kernel, by decide +kernel⟩ (by decide) (by decide), fun _ h => absurd h List.not_mem_nil⟩
def th_J4_append_cf468 : List (Nat × String) := []
theorem hth_J4_append_cf468 : ∀ q ∈ th_J4_append_cf468, zThrow cJ4_append_cf468 RJ4 q := fun _ h => absurd h List.not_mem_nil
def kc_J4_append_cf468 : List (Nat × Int32) := []
theorem hkc_J4_append_cf468 : ∀ q ∈ kc_J4_append_cf468, Cond.constant RJ4 q.1 q.2 ∈ zTs := fun _ h => absurd h List.not_mem_nil
def nw_J4_append_cf468 : List (Nat × Nat × Nat × List Value) := []
theorem hnw_J4_append_cf468 : ∀ q ∈ nw_J4_append_cf468, zNew RJ4 q := fun _ h => absurd h List.not_mem_nil
set_option maxHeartbeats 4000000 in
set_option maxRecDepth 20000 in
theorem c_J4_append_cf468 {l : Launch} (hl0 : l.stackTraces = false) : CT l yJ4_append_cf468 (.code yJ4_append_cf468 cJ4_append_cf468 2 (some (.object "java/lang/StringBuilder"))) 3 0 0 false sp_J4_append_cf468 := by
  refine zCT_of hl0 (own := RJ4) fl_RJ4 cs_J4_append_cf468 nw_J4_append_cf468 th_J4_append_cf468 kc_J4_append_cf468 (fun _ => []) false pg_J4_append_cf468 rfl (by decide +kernel) hp_J4_append_cf468 ⟨_, _, rfl, rfl⟩ hfl_RJ4 (fun h => nomatch h) (hcs_J4_append_cf468 hl0) hnw_J4_append_cf468 hth_J4_append_cf468 (fun _ _ h => absurd h List.not_mem_nil) hkc_J4_append_cf468 (fun args w Q X v0 hv0 h => ?_)
  obtain ⟨α, ν, r, c, x, hc, hν, hx, rfl, rfl, hQ⟩ := h
  refine ⟨Nat.le_of_ble_eq_true rfl, 20, [], ?_, fun q hq => absurd hq List.not_mem_nil⟩
  (conv => whnf)
  refine ⟨α, ν, r, c, x, hc, hν, hx, rfl, rfl, ?_⟩
  (conv => whnf)
  exact hQ
def sp_J6_stringSize_0f7a4 : zSpec := fun args w Q _ => ∃ n, n < 100 ∧ args = [.int (nI n)] ∧ Q (some (.int (nI (zdg n).length))) w
theorem pk_neg {n : Nat} (hn : n < 2 ^ 30) : (-nI n).toInt = -(n : Int) := by
  have h := pk_sub_toInt (a := 0) (b := n) (by decide) hn
  rw [show nI 0 - nI n = -nI n by rw [Int32.sub_eq_add_neg, show nI 0 = 0 from nI_0, Int32.zero_add]] at h
  omega
theorem pk_neglt {a b : Nat} (ha : a < 2 ^ 30) (hb : b < 2 ^ 30) : -nI a < -nI b ↔ b < a := by
  rw [Int32.lt_iff_toInt_lt, pk_neg ha, pk_neg hb]
  omega
theorem zdg_1 {n : Nat} (h : n < 10) : zdg n = [48 + n] := if_pos h
theorem zdg_2 {n : Nat} (h : ¬ n < 10) : zdg n = [48 + n / 10, 48 + n % 10] := if_neg h
def fl_RJ6 : List (Nat × Nat × Nat) := []
theorem hfl_RJ6 : ∀ q ∈ fl_RJ6, zFld RJ6 q := zfld_of (ps := []) (by decide +kernel)
def pg_J6_stringSize_0f7a4 : List zE := [(0, .iconst 1, 1, [1]), (1, .istore_n 1, 1, []), (2, .iload_n 0, 1, []), (3, .ifCond .lt 8, 3, [11]), (6, .iconst 0, 1, [0]), (7, .istore_n 1, 1, []), (8, .iload_n 0, 1, []), (9, .ineg, 1, []), (10, .istore_n 0, 1, []), (11, .bipush (-10), 2, [0, 10]), (13, .istore_n 2, 1, []), (14, .iconst 1, 1, [1]), (15, .istore_n 3, 1, []), (16, .iload_n 3, 1, []), (17, .bipush 10, 2, [10]), (19, .if_icmp .ge 23, 3, [42]), (22, .iload_n 0, 1, []), (23, .iload_n 2, 1, []), (24, .if_icmp .le 7, 3, [31]), (27, .iload_n 3, 1, []), (28, .iload_n 1, 1, []), (29, .iadd, 1, []), (30, .ireturn, 1, []), (31, .bipush 10, 2, [10]), (33, .iload_n 2, 1, []), (34, .imul, 1, []), (35, .istore_n 2, 1, []), (36, .iinc 3 1, 3, [1]), (39, .goto (-23), 3, [16]), (42, .bipush 10, 2, [10]), (44, .iload_n 1, 1, []), (45, .iadd, 1, []), (46, .ireturn, 1, [])]
theorem hp_J6_stringSize_0f7a4 : ∀ q ∈ pg_J6_stringSize_0f7a4, decode cJ6_stringSize_0f7a4 q.1 = .ok (q.2.1, q.2.2.1) ∧ ztg q.2.1 q.1 q.2.2.1 q.2.2.2 = true := zpg_of (by decide +kernel)
def cs_J6_stringSize_0f7a4 : List (Nat × zCall) := []
theorem hcs_J6_stringSize_0f7a4 {l : Launch} (hl0 : l.stackTraces = false) : ∀ q ∈ cs_J6_stringSize_0f7a4, zCallable l RJ6 1 q := fun _ h => absurd h List.not_mem_nil
def th_J6_stringSize_0f7a4 : List (Nat × String) := []
theorem hth_J6_stringSize_0f7a4 : ∀ q ∈ th_J6_stringSize_0f7a4, zThrow cJ6_stringSize_0f7a4 RJ6 q := fun _ h => absurd h List.not_mem_nil
def kc_J6_stringSize_0f7a4 : List (Nat × Int32) := []
theorem hkc_J6_stringSize_0f7a4 : ∀ q ∈ kc_J6_stringSize_0f7a4, Cond.constant RJ6 q.1 q.2 ∈ zTs := fun _ h => absurd h List.not_mem_nil
def nw_J6_stringSize_0f7a4 : List (Nat × Nat × Nat × List Value) := []
theorem hnw_J6_stringSize_0f7a4 : ∀ q ∈ nw_J6_stringSize_0f7a4, zNew RJ6 q := fun _ h => absurd h List.not_mem_nil
set_option maxHeartbeats 4000000 in
set_option maxRecDepth 20000 in
theorem c_J6_stringSize_0f7a4 {l : Launch} (hl0 : l.stackTraces = false) : CT l yJ6_stringSize_0f7a4 (.code yJ6_stringSize_0f7a4 cJ6_stringSize_0f7a4 4 (some .int)) 1 0 0 false sp_J6_stringSize_0f7a4 := by
  refine zCT_of hl0 (own := RJ6) fl_RJ6 cs_J6_stringSize_0f7a4 nw_J6_stringSize_0f7a4 th_J6_stringSize_0f7a4 kc_J6_stringSize_0f7a4 (fun _ => []) false pg_J6_stringSize_0f7a4 rfl (by decide +kernel) hp_J6_stringSize_0f7a4 ⟨_, _, rfl, rfl⟩ hfl_RJ6 (fun h => nomatch h) (hcs_J6_stringSize_0f7a4 hl0) hnw_J6_stringSize_0f7a4 hth_J6_stringSize_0f7a4 (fun _ _ h => absurd h List.not_mem_nil) hkc_J6_stringSize_0f7a4 (fun args w Q X v0 hv0 h => ?_)
  obtain ⟨n, hn, rfl, hQ⟩ := h
  refine ⟨Nat.le_of_ble_eq_true rfl, 60, [(16, fun m L S w' cu su => ∃ i, zsub [(0, .int (-nI n)), (1, .int (nI 0)), (2, .int (-nI (10 ^ i))), (3, .int (nI i))] L ∧ S = [] ∧ w' = w ∧ (i = 1 ∨ i = 2 ∧ ¬ n < 10) ∧ m = 3 - i ∧ cu = 0 ∧ su = 0)], ?_, zone ?_⟩
  · (conv => whnf)
    refine And.intro (fun c => absurd c (show ¬ _ from (nI_pos (show n < 2 ^ 31 by omega)))) (fun _ => ?_)
    (conv => whnf)
    exact ⟨2, 1, ⟨rfl, rfl, rfl, rfl, trivial⟩, rfl, rfl, Or.inl rfl, rfl, rfl, rfl⟩
  · rintro m L S w' cu su ⟨i, hL, rfl, rfl, hi, rfl, rfl, rfl⟩
    refine ⟨_, hL, ?_⟩
    rcases hi with rfl | ⟨rfl, hi⟩
    · (conv => whnf)
      refine And.intro (fun _ => ?_) (fun c => absurd (show _ from (by decide)) c)
      (conv => whnf)
      refine And.intro (fun c => ?_) (fun c => ?_)
      · have c2 : n < 10 := (pk_neglt (a := 10) (b := n) (by decide) (by omega)).mp c
        (conv => whnf)
        rw [zdg_1 c2] at hQ
        exact hQ
      · have c2 : ¬ n < 10 := fun h => c ((pk_neglt (a := 10) (b := n) (by decide) (by omega)).mpr h)
        (conv => whnf)
        exact ⟨1, by omega, 2, ⟨rfl, rfl, congrArg (fun x => some (Value.int x)) (show nI 10 * -nI 10 = -nI (10 ^ 2) by decide), zi1 rfl, trivial⟩, rfl, rfl, Or.inr ⟨rfl, c2⟩, rfl, rfl, rfl⟩
    · (conv => whnf)
      refine And.intro (fun _ => ?_) (fun c => absurd (show _ from (by decide)) c)
      (conv => whnf)
      refine And.intro (fun _ => ?_) (fun c => absurd (show _ from ((pk_neglt (a := 100) (b := n) (by decide) (by omega)).mpr hn)) c)
      (conv => whnf)
      rw [zdg_2 hi] at hQ
      exact hQ
/-- what getChars writes ahead of place e -/
def sp_J6_getChars_ba4f3 : zSpec := fun args w Q _ => ∃ α ν r n c, n < 100 ∧ c + (zdg n).length ≤ 16 ∧ args = [.int (nI n), .int (nI (c + (zdg n).length)), .ref 20] ∧ w = WX α ν r ∧ Q (some (.int (nI c))) (WX (zu α 14 (zwr (α 14) c (zdg n))) ν r)
theorem pk_negneg (x : Int32) : - -x = x := Int32.neg_neg
theorem pk_neg2 (n : Nat) : ((fun x : Int32 => -x) (-nI n)) = nI n := pk_negneg _
theorem upd_comm (f : Nat → Int32) {a b : Nat} (h : a ≠ b) (x y : Int32) : upd (upd f a x) b y = upd (upd f b y) a x := by
  funext j
  unfold upd
  by_cases h1 : j = a
  · subst h1
    simp [h]
  · by_cases h2 : j = b
    · simp [h1, h2]
      intro e; omega
    · simp [h1, h2]
def pg_J6_getChars_ba4f3 : List zE := [(0, .iload_n 1, 1, []), (1, .istore 5, 2, []), (3, .iload_n 0, 1, []), (4, .ifCond .ge 7, 3, [11]), (7, .iconst 1, 1, [1]), (8, .goto 4, 3, [12]), (11, .iconst 0, 1, [0]), (12, .istore 6, 2, []), (14, .iload 6, 2, []), (16, .ifCond .ne 6, 3, [22]), (19, .iload_n 0, 1, []), (20, .ineg, 1, []), (21, .istore_n 0, 1, []), (22, .iload_n 0, 1, []), (23, .bipush (-100), 2, [0, 100]), (25, .if_icmp .gt 47, 3, [72]), (28, .iload_n 0, 1, []), (29, .bipush 100, 2, [100]), (31, .idiv, 1, []), (32, .istore_n 3, 1, []), (33, .iload_n 3, 1, []), (34, .bipush 100, 2, [100]), (36, .imul, 1, []), (37, .iload_n 0, 1, []), (38, .isub, 1, []), (39, .istore 4, 2, []), (41, .iload_n 3, 1, []), (42, .istore_n 0, 1, []), (43, .aload_n 2, 1, []), (44, .iinc 5 (-1), 3, []), (47, .iload 5, 2, []), (49, .getstatic 83, 3, []), (52, .iload 4, 2, []), (54, .baload, 1, []), (55, .bastore, 1, []), (56, .aload_n 2, 1, []), (57, .iinc 5 (-1), 3, []), (60, .iload 5, 2, []), (62, .getstatic 87, 3, []), (65, .iload 4, 2, []), (67, .baload, 1, []), (68, .bastore, 1, []), (69, .goto (-47), 3, [22]), (72, .aload_n 2, 1, []), (73, .iinc 5 (-1), 3, []), (76, .iload 5, 2, []), (78, .getstatic 83, 3, []), (81, .iload_n 0, 1, []), (82, .ineg, 1, []), (83, .baload, 1, []), (84, .bastore, 1, []), (85, .iload_n 0, 1, []), (86, .bipush (-9), 2, [0, 9]), (88, .if_icmp .ge 16, 3, [104]), (91, .aload_n 2, 1, []), (92, .iinc 5 (-1), 3, []), (95, .iload 5, 2, []), (97, .getstatic 87, 3, []), (100, .iload_n 0, 1, []), (101, .ineg, 1, []), (102, .baload, 1, []), (103, .bastore, 1, []), (104, .iload 6, 2, []), (106, .ifCond .eq 12, 3, [118]), (109, .aload_n 2, 1, []), (110, .iinc 5 (-1), 3, []), (113, .iload 5, 2, []), (115, .bipush 45, 2, [45]), (117, .bastore, 1, []), (118, .iload 5, 2, []), (120, .ireturn, 1, [])]
theorem hp_J6_getChars_ba4f3 : ∀ q ∈ pg_J6_getChars_ba4f3, decode cJ6_getChars_ba4f3 q.1 = .ok (q.2.1, q.2.2.1) ∧ ztg q.2.1 q.1 q.2.2.1 q.2.2.2 = true := zpg_of (by decide +kernel)
def cs_J6_getChars_ba4f3 : List (Nat × zCall) := []
theorem hcs_J6_getChars_ba4f3 {l : Launch} (hl0 : l.stackTraces = false) : ∀ q ∈ cs_J6_getChars_ba4f3, zCallable l RJ6 1 q := fun _ h => absurd h List.not_mem_nil
def th_J6_getChars_ba4f3 : List (Nat × String) := []
theorem hth_J6_getChars_ba4f3 : ∀ q ∈ th_J6_getChars_ba4f3, zThrow cJ6_getChars_ba4f3 RJ6 q := fun _ h => absurd h List.not_mem_nil
def kc_J6_getChars_ba4f3 : List (Nat × Int32) := []
theorem hkc_J6_getChars_ba4f3 : ∀ q ∈ kc_J6_getChars_ba4f3, Cond.constant RJ6 q.1 q.2 ∈ zTs := fun _ h => absurd h List.not_mem_nil
def nw_J6_getChars_ba4f3 : List (Nat × Nat × Nat × List Value) := []
theorem hnw_J6_getChars_ba4f3 : ∀ q ∈ nw_J6_getChars_ba4f3, zNew RJ6 q := fun _ h => absurd h List.not_mem_nil
set_option maxHeartbeats 4000000 in
set_option maxRecDepth 20000 in
theorem c_J6_getChars_ba4f3 {l : Launch} (hl0 : l.stackTraces = false) : CT l yJ6_getChars_ba4f3 (.code yJ6_getChars_ba4f3 cJ6_getChars_ba4f3 7 (some .int)) 1 0 0 false sp_J6_getChars_ba4f3 := by
  refine zCT_of hl0 (own := RJ6) fl_RJ6 cs_J6_getChars_ba4f3 nw_J6_getChars_ba4f3 th_J6_getChars_ba4f3 kc_J6_getChars_ba4f3 (fun v0 => [(83, .ref 1002), (87, .ref 1003)]) false pg_J6_getChars_ba4f3 rfl (by decide +kernel) hp_J6_getChars_ba4f3 ⟨_, _, rfl, rfl⟩ hfl_RJ6 (fun h => nomatch h) (hcs_J6_getChars_ba4f3 hl0) hnw_J6_getChars_ba4f3 hth_J6_getChars_ba4f3 (fun v0 => List.forall_mem_cons.mpr ⟨Or.inr (Or.inr (Or.inl ⟨rfl, show Cond.fieldLink RJ6 83 "java/lang/Integer" "DigitOnes" "[B" ∈ zTs from zmem (i := 773) (by decide +kernel) rfl⟩)), List.forall_mem_cons.mpr ⟨Or.inr (Or.inr (Or.inr ⟨rfl, show Cond.fieldLink RJ6 87 "java/lang/Integer" "DigitTens" "[B" ∈ zTs from zmem (i := 775) (by decide +kernel) rfl⟩)), fun _ h => absurd h List.not_mem_nil⟩⟩) hkc_J6_getChars_ba4f3 (fun args w Q X v0 hv0 h => ?_)
  obtain ⟨α, ν, r, n, c, hn, hc, rfl, rfl, hQ⟩ := h
  refine ⟨Nat.le_of_ble_eq_true rfl, 80, [(22, fun m L S w' cu su => zsub [(0, .int (-nI n)), (2, .ref 20), (5, .int (nI (c + (zdg n).length))), (6, .int (nI 0))] L ∧ S = [] ∧ w' = WX α ν r ∧ m = 0 ∧ cu = 0 ∧ su = 0)], ?_, zone ?_⟩
  · (conv => whnf)
    refine And.intro (fun c => absurd c (show ¬ _ from (nI_pos (show n < 2 ^ 31 by omega)))) (fun _ => ?_)
    (conv => whnf)
    refine And.intro (fun _ => ?_) (fun c => absurd (show _ from rfl) c)
    (conv => whnf)
    exact ⟨0, ⟨rfl, rfl, rfl, rfl, trivial⟩, rfl, rfl, rfl, rfl, rfl⟩
  · rintro m L S w' cu su ⟨hL, rfl, rfl, rfl, rfl, rfl⟩
    refine ⟨_, hL, ?_⟩
    (conv => whnf)
    refine And.intro (fun _ => ?_) (fun c => absurd (show _ from ((pk_neglt (a := 100) (b := n) (by decide) (by omega)).mpr hn)) c)
    by_cases h1 : n < 10
    · rw [zdg_1 h1] at hc hQ
      rw [zdg_1 h1]
      have hc' : c < 16 := by
        have : c + 1 ≤ 16 := hc
        omega
      (conv => whnf)
      rw [pk_neg2]
      refine ⟨vp_in_nI (show n < 100 by omega) (by decide), ?_⟩
      (conv => whnf)
      dsimp only [zkon]
      have e1 : nI (c + [48 + n].length) + -1 = nI c := pk_m1 c
      rw [e1]
      refine ⟨vp_in_nI hc' (by decide), ?_⟩
      (conv => whnf)
      refine And.intro (fun d => absurd d (show ¬ _ from fun d => ?_)) (fun _ => ?_)
      · have := (pk_neglt (a := n) (b := 9) (by omega) (by decide)).mp d
        omega
      · (conv => whnf)
        refine And.intro (fun _ => ?_) (fun c => absurd (show _ from rfl) c)
        (conv => whnf)
        rw [nI_clamp (by omega), nI_clamp (by omega)]
        unfold zOnes
        rw [Nat.mod_eq_of_lt h1, pk_b8 (by omega)]
        exact hQ
    · rw [zdg_2 h1] at hc hQ
      rw [zdg_2 h1]
      have hc' : c + 1 < 16 := by
        have : c + 2 ≤ 16 := hc
        omega
      (conv => whnf)
      rw [pk_neg2]
      refine ⟨vp_in_nI (show n < 100 by omega) (by decide), ?_⟩
      (conv => whnf)
      dsimp only [zkon]
      have e1 : nI (c + [48 + n / 10, 48 + n % 10].length) + -1 = nI (c + 1) := pk_m1 (c + 1)
      have e2 : nI (c + 1) + -1 = nI c := pk_m1 c
      rw [e1]
      refine ⟨vp_in_nI hc' (by decide), ?_⟩
      (conv => whnf)
      refine And.intro (fun _ => ?_) (fun c => absurd (show _ from ((pk_neglt (a := n) (b := 9) (by omega) (by decide)).mpr (by omega))) c)
      (conv => whnf)
      rw [pk_neg2]
      refine ⟨vp_in_nI (show n < 100 by omega) (by decide), ?_⟩
      (conv => whnf)
      dsimp only [zkon]
      rw [e2]
      refine ⟨vp_in_nI (show c < 16 by omega) (by decide), ?_⟩
      (conv => whnf)
      refine And.intro (fun _ => ?_) (fun c => absurd (show _ from rfl) c)
      (conv => whnf)
      rw [nI_clamp (show n < 2 ^ 31 by omega), nI_clamp (show c + 1 < 2 ^ 31 by omega), nI_clamp (show c < 2 ^ 31 by omega)]
      unfold zOnes zTens
      rw [pk_b8 (by omega), pk_b8 (by omega)]
      have e3 : zwr (α 14) c [48 + n / 10, 48 + n % 10] = upd (upd (α 14) (c + 1) (nI (48 + n % 10))) c (nI (48 + n / 10)) := upd_comm (α 14) (by omega) _ _
      rw [e3] at hQ
      exact hQ
def sp_J5_append_c97b9 : zSpec := fun args w Q _ => ∃ α ν r c n, n < 100 ∧ c + (zdg n).length ≤ 16 ∧ ν 6 = nI c ∧ args = [.ref 19, .int (nI n)] ∧ w = WX α ν r ∧ Q (some (.ref 19)) (WX (zu α 14 (zwr (α 14) c (zdg n))) (zu ν 6 (nI (c + (zdg n).length))) r)
def pg_J5_append_c97b9 : List zE := [(0, .aload_n 0, 1, []), (1, .getfield 79, 3, []), (4, .istore_n 2, 1, []), (5, .iload_n 2, 1, []), (6, .iload_n 1, 1, []), (7, .invokestatic 245, 3, []), (10, .iadd, 1, []), (11, .istore_n 3, 1, []), (12, .aload_n 0, 1, []), (13, .iload_n 3, 1, []), (14, .invokevirtual 100, 3, []), (17, .aload_n 0, 1, []), (18, .invokevirtual 83, 3, []), (21, .ifCond .eq 16, 3, [37]), (24, .iload_n 1, 1, []), (25, .iload_n 3, 1, []), (26, .aload_n 0, 1, []), (27, .getfield 15, 3, []), (30, .invokestatic 248, 3, []), (33, .pop, 1, []), (34, .goto 14, 3, [48]), (37, .iload_n 1, 1, []), (38, .iload_n 2, 1, []), (39, .iload_n 3, 1, []), (40, .aload_n 0, 1, []), (41, .getfield 15, 3, []), (44, .invokestatic 251, 3, []), (47, .pop, 1, []), (48, .aload_n 0, 1, []), (49, .iload_n 3, 1, []), (50, .putfield 79, 3, []), (53, .aload_n 0, 1, []), (54, .areturn, 1, [])]
theorem hp_J5_append_c97b9 : ∀ q ∈ pg_J5_append_c97b9, decode cJ5_append_c97b9 q.1 = .ok (q.2.1, q.2.2.1) ∧ ztg q.2.1 q.1 q.2.2.1 q.2.2.2 = true := zpg_of (by decide +kernel)
def cs_J5_append_c97b9 : List (Nat × zCall) := [(245, 1, 1, none, 0, 0, false, sp_J6_stringSize_0f7a4), (100, 0, 2, some 0, 0, 0, false, sp_J5_ensureCapacityInternal_d00df), (83, 0, 1, some 0, 0, 0, false, sp_J5_isLatin1_aae02), (248, 1, 3, none, 0, 0, false, sp_J6_getChars_ba4f3)]
theorem hcs_J5_append_c97b9 {l : Launch} (hl0 : l.stackTraces = false) : ∀ q ∈ cs_J5_append_c97b9, zCallable l RJ5 2 q := List.forall_mem_cons.mpr ⟨zcS (ps := [767, 768, 36, 769]) (c_J6_stringSize_0f7a4 hl0) (by decide +kernel) ⟨by decide +kernel, by decide +kernel, by decide +kernel⟩ (by decide) (by decide), List.forall_mem_cons.mpr ⟨zcUP (C := (RJ4, TJ4, 4)) (ps := [651, 852, 653, 20, 654]) (c_J5_ensureCapacityInternal_d00df hl0) (by decide +kernel) rfl zXs_mem ⟨by decide +kernel, by decide +kernel, by decide +kernel⟩ (by decide) (by decide), List.forall_mem_cons.mpr ⟨zcU (C := (RJ4, TJ4, 4)) (x := yJ5_isLatin1_aae02) (owner := RJ5) (ps := [684, 686, 687, 685, 20, 688]) (c_J5_isLatin1_aae02 hl0) (by decide +kernel) rfl rfl ⟨by decide +kernel, by decide +kernel, by decide +kernel⟩ (by decide) (by decide), List.forall_mem_cons.mpr ⟨zcS (ps := [770, 771, 36, 772]) (c_J6_getChars_ba4f3 hl0) (by decide +kernel) ⟨by decide +kernel, by decide +kernel, by decide +kernel⟩ (by decide) (by decide), fun _ h => absurd h List.not_mem_nil⟩⟩⟩⟩
def th_J5_append_c97b9 : List (Nat × String) := []
theorem hth_J5_append_c97b9 : ∀ q ∈ th_J5_append_c97b9, zThrow cJ5_append_c97b9 RJ5 q := fun _ h => absurd h List.not_mem_nil
def kc_J5_append_c97b9 : List (Nat × Int32) := []
theorem hkc_J5_append_c97b9 : ∀ q ∈ kc_J5_append_c97b9, Cond.constant RJ5 q.1 q.2 ∈ zTs := fun _ h => absurd h List.not_mem_nil
def nw_J5_append_c97b9 : List (Nat × Nat × Nat × List Value) := []
theorem hnw_J5_append_c97b9 : ∀ q ∈ nw_J5_append_c97b9, zNew RJ5 q := fun _ h => absurd h List.not_mem_nil
set_option maxHeartbeats 4000000 in
set_option maxRecDepth 20000 in
theorem c_J5_append_c97b9 {l : Launch} (hl0 : l.stackTraces = false) : CT l yJ5_append_c97b9 (.code yJ5_append_c97b9 cJ5_append_c97b9 4 (some (.object "java/lang/AbstractStringBuilder"))) 2 0 0 false sp_J5_append_c97b9 := by
  refine zCT_of hl0 (own := RJ5) fl_RJ5 cs_J5_append_c97b9 nw_J5_append_c97b9 th_J5_append_c97b9 kc_J5_append_c97b9 (fun _ => []) false pg_J5_append_c97b9 rfl (by decide +kernel) hp_J5_append_c97b9 ⟨_, _, rfl, rfl⟩ hfl_RJ5 (fun h => nomatch h) (hcs_J5_append_c97b9 hl0) hnw_J5_append_c97b9 hth_J5_append_c97b9 (fun _ _ h => absurd h List.not_mem_nil) hkc_J5_append_c97b9 (fun args w Q X v0 hv0 h => ?_)
  obtain ⟨α, ν, r, c, n, hn, hc, hν, rfl, rfl, hQ⟩ := h
  refine ⟨Nat.le_of_ble_eq_true rfl, 60, [], ?_, fun q hq => absurd hq List.not_mem_nil⟩
  (conv => whnf)
  refine ⟨n, hn, rfl, ?_⟩
  (conv => whnf)
  rw [hν]
  dsimp only [zkon]
  rw [nI_add]
  refine ⟨α, ν, r, _, hc, rfl, rfl, ?_⟩
  (conv => whnf)
  refine ⟨α, ν, r, rfl, rfl, ?_⟩
  (conv => whnf)
  refine And.intro (fun c => absurd c (show ¬ _ from (by decide))) (fun _ => ?_)
  (conv => whnf)
  refine ⟨α, ν, r, n, c, hn, hc, rfl, rfl, ?_⟩
  (conv => whnf)
  exact hQ
def sp_J4_append_bf812 : zSpec := sp_J5_append_c97b9
def pg_J4_append_bf812 : List zE := [(0, .aload_n 0, 1, []), (1, .iload_n 1, 1, []), (2, .invokespecial 53, 3, []), (5, .pop, 1, []), (6, .aload_n 0, 1, []), (7, .areturn, 1, [])]
theorem hp_J4_append_bf812 : ∀ q ∈ pg_J4_append_bf812, decode cJ4_append_bf812 q.1 = .ok (q.2.1, q.2.2.1) ∧ ztg q.2.1 q.1 q.2.2.1 q.2.2.2 = true := zpg_of (by decide +kernel)
def cs_J4_append_bf812 : List (Nat × zCall) := [(53, 2, 2, some 0, 0, 0, false, sp_J5_append_c97b9)]
theorem hcs_J4_append_bf812 {l : Launch} (hl0 : l.stackTraces = false) : ∀ q ∈ cs_J4_append_bf812, zCallable l RJ4 3 q := List.forall_mem_cons.mpr ⟨zcSU (C := (RJ4, TJ4, 4)) (ps := [764, 856, 165, 765, 20, 766]) (c_J5_append_c97b9 hl0) (by decide +kernel) rfl ⟨by decide +kernel, by decide +kernel⟩ (by decide) (by decide), fun _ h => absurd h List.not_mem_nil⟩
def th_J4_append_bf812 : List (Nat × String) := []
theorem hth_J4_append_bf812 : ∀ q ∈ th_J4_append_bf812, zThrow cJ4_append_bf812 RJ4 q := fun _ h => absurd h List.not_mem_nil
def kc_J4_append_bf812 : List (Nat × Int32) := []
theorem hkc_J4_append_bf812 : ∀ q ∈ kc_J4_append_bf812, Cond.constant RJ4 q.1 q.2 ∈ zTs := fun _ h => absurd h List.not_mem_nil
def nw_J4_append_bf812 : List (Nat × Nat × Nat × List Value) := []
theorem hnw_J4_append_bf812 : ∀ q ∈ nw_J4_append_bf812, zNew RJ4 q := fun _ h => absurd h List.not_mem_nil
set_option maxHeartbeats 4000000 in
set_option maxRecDepth 20000 in
theorem c_J4_append_bf812 {l : Launch} (hl0 : l.stackTraces = false) : CT l yJ4_append_bf812 (.code yJ4_append_bf812 cJ4_append_bf812 2 (some (.object "java/lang/StringBuilder"))) 3 0 0 false sp_J4_append_bf812 := by
  refine zCT_of hl0 (own := RJ4) fl_RJ4 cs_J4_append_bf812 nw_J4_append_bf812 th_J4_append_bf812 kc_J4_append_bf812 (fun _ => []) false pg_J4_append_bf812 rfl (by decide +kernel) hp_J4_append_bf812 ⟨_, _, rfl, rfl⟩ hfl_RJ4 (fun h => nomatch h) (hcs_J4_append_bf812 hl0) hnw_J4_append_bf812 hth_J4_append_bf812 (fun _ _ h => absurd h List.not_mem_nil) hkc_J4_append_bf812 (fun args w Q X v0 hv0 h => ?_)
  obtain ⟨α, ν, r, c, n, hn, hc, hν, rfl, rfl, hQ⟩ := h
  refine ⟨Nat.le_of_ble_eq_true rfl, 20, [], ?_, fun q hq => absurd hq List.not_mem_nil⟩
  (conv => whnf)
  refine ⟨α, ν, r, c, n, hn, hc, hν, rfl, rfl, ?_⟩
  (conv => whnf)
  exact hQ
def sp_J3_checkIndex_8e157 : zSpec := fun args w Q _ => ∃ j n v, (v = .null ∨ v = .ref 1001) ∧ j < n ∧ n < 2 ^ 31 ∧ args = [.int (nI j), .int (nI n), v] ∧ Q (some (.int (nI j))) w
def fl_RJ3 : List (Nat × Nat × Nat) := []
theorem hfl_RJ3 : ∀ q ∈ fl_RJ3, zFld RJ3 q := zfld_of (ps := []) (by decide +kernel)
def pg_J3_checkIndex_8e157 : List zE := [(0, .iload_n 0, 1, []), (1, .ifCond .lt 8, 3, [9]), (4, .iload_n 0, 1, []), (5, .iload_n 1, 1, []), (6, .if_icmp .lt 10, 3, [16]), (9, .aload_n 2, 1, []), (10, .iload_n 0, 1, []), (11, .iload_n 1, 1, []), (12, .invokestatic 95, 3, []), (15, .athrow, 1, []), (16, .iload_n 0, 1, []), (17, .ireturn, 1, [])]
theorem hp_J3_checkIndex_8e157 : ∀ q ∈ pg_J3_checkIndex_8e157, decode cJ3_checkIndex_8e157 q.1 = .ok (q.2.1, q.2.2.1) ∧ ztg q.2.1 q.1 q.2.2.1 q.2.2.2 = true := zpg_of (by decide +kernel)
def cs_J3_checkIndex_8e157 : List (Nat × zCall) := []
theorem hcs_J3_checkIndex_8e157 {l : Launch} (hl0 : l.stackTraces = false) : ∀ q ∈ cs_J3_checkIndex_8e157, zCallable l RJ3 1 q := fun _ h => absurd h List.not_mem_nil
def th_J3_checkIndex_8e157 : List (Nat × String) := []
theorem hth_J3_checkIndex_8e157 : ∀ q ∈ th_J3_checkIndex_8e157, zThrow cJ3_checkIndex_8e157 RJ3 q := fun _ h => absurd h List.not_mem_nil
def kc_J3_checkIndex_8e157 : List (Nat × Int32) := []
theorem hkc_J3_checkIndex_8e157 : ∀ q ∈ kc_J3_checkIndex_8e157, Cond.constant RJ3 q.1 q.2 ∈ zTs := fun _ h => absurd h List.not_mem_nil
def nw_J3_checkIndex_8e157 : List (Nat × Nat × Nat × List Value) := []
theorem hnw_J3_checkIndex_8e157 : ∀ q ∈ nw_J3_checkIndex_8e157, zNew RJ3 q := fun _ h => absurd h List.not_mem_nil
set_option maxHeartbeats 4000000 in
set_option maxRecDepth 20000 in
theorem c_J3_checkIndex_8e157 {l : Launch} (hl0 : l.stackTraces = false) : CT l yJ3_checkIndex_8e157 (.code yJ3_checkIndex_8e157 cJ3_checkIndex_8e157 3 (some .int)) 1 0 0 false sp_J3_checkIndex_8e157 := by
  refine zCT_of hl0 (own := RJ3) fl_RJ3 cs_J3_checkIndex_8e157 nw_J3_checkIndex_8e157 th_J3_checkIndex_8e157 kc_J3_checkIndex_8e157 (fun _ => []) false pg_J3_checkIndex_8e157 rfl (by decide +kernel) hp_J3_checkIndex_8e157 ⟨_, _, rfl, rfl⟩ hfl_RJ3 (fun h => nomatch h) (hcs_J3_checkIndex_8e157 hl0) hnw_J3_checkIndex_8e157 hth_J3_checkIndex_8e157 (fun _ _ h => absurd h List.not_mem_nil) hkc_J3_checkIndex_8e157 (fun args w Q X v0 hv0 h => ?_)
  obtain ⟨j, n, v, hv, hj, hn, rfl, hQ⟩ := h
  rcases hv with rfl | rfl
  · refine ⟨Nat.le_of_ble_eq_true rfl, 20, [], ?_, fun q hq => absurd hq List.not_mem_nil⟩
    (conv => whnf)
    refine And.intro (fun c => absurd c (show ¬ _ from (nI_pos (by omega)))) (fun _ => ?_)
    (conv => whnf)
    refine And.intro (fun _ => ?_) (fun c => absurd (show _ from (nI_lt hj hn)) c)
    (conv => whnf)
    exact hQ
  · refine ⟨Nat.le_of_ble_eq_true rfl, 20, [], ?_, fun q hq => absurd hq List.not_mem_nil⟩
    (conv => whnf)
    refine And.intro (fun c => absurd c (show ¬ _ from (nI_pos (by omega)))) (fun _ => ?_)
    (conv => whnf)
    refine And.intro (fun _ => ?_) (fun c => absurd (show _ from (nI_lt hj hn)) c)
    (conv => whnf)
    exact hQ
def sp_J0_checkIndex_df160 : zSpec := fun args w Q _ => ∃ j n, j < n ∧ n < 2 ^ 31 ∧ args = [.int (nI j), .int (nI n)] ∧ Q none w
def fl_RJ0 : List (Nat × Nat × Nat) := []
theorem hfl_RJ0 : ∀ q ∈ fl_RJ0, zFld RJ0 q := zfld_of (ps := []) (by decide +kernel)
def pg_J0_checkIndex_df160 : List zE := [(0, .iload_n 0, 1, []), (1, .iload_n 1, 1, []), (2, .getstatic 1053, 3, []), (5, .invokestatic 1059, 3, []), (8, .pop, 1, []), (9, .return_, 1, [])]
theorem hp_J0_checkIndex_df160 : ∀ q ∈ pg_J0_checkIndex_df160, decode cJ0_checkIndex_df160 q.1 = .ok (q.2.1, q.2.2.1) ∧ ztg q.2.1 q.1 q.2.2.1 q.2.2.2 = true := zpg_of (by decide +kernel)
def cs_J0_checkIndex_df160 : List (Nat × zCall) := [(1059, 1, 3, none, 0, 0, false, sp_J3_checkIndex_8e157)]
theorem hcs_J0_checkIndex_df160 {l : Launch} (hl0 : l.stackTraces = false) : ∀ q ∈ cs_J0_checkIndex_df160, zCallable l RJ0 2 q := List.forall_mem_cons.mpr ⟨zcS (ps := [757, 758, 34, 759]) (c_J3_checkIndex_8e157 hl0) (by decide +kernel) ⟨by decide +kernel, by decide +kernel, by decide +kernel⟩ (by decide) (by decide), fun _ h => absurd h List.not_mem_nil⟩
def th_J0_checkIndex_df160 : List (Nat × String) := []
theorem hth_J0_checkIndex_df160 : ∀ q ∈ th_J0_checkIndex_df160, zThrow cJ0_checkIndex_df160 RJ0 q := fun _ h => absurd h List.not_mem_nil
def kc_J0_checkIndex_df160 : List (Nat × Int32) := []
theorem hkc_J0_checkIndex_df160 : ∀ q ∈ kc_J0_checkIndex_df160, Cond.constant RJ0 q.1 q.2 ∈ zTs := fun _ h => absurd h List.not_mem_nil
def nw_J0_checkIndex_df160 : List (Nat × Nat × Nat × List Value) := []
theorem hnw_J0_checkIndex_df160 : ∀ q ∈ nw_J0_checkIndex_df160, zNew RJ0 q := fun _ h => absurd h List.not_mem_nil
set_option maxHeartbeats 4000000 in
set_option maxRecDepth 20000 in
theorem c_J0_checkIndex_df160 {l : Launch} (hl0 : l.stackTraces = false) : CT l yJ0_checkIndex_df160 (.code yJ0_checkIndex_df160 cJ0_checkIndex_df160 2 none) 2 0 0 false sp_J0_checkIndex_df160 := by
  refine zCT_of hl0 (own := RJ0) fl_RJ0 cs_J0_checkIndex_df160 nw_J0_checkIndex_df160 th_J0_checkIndex_df160 kc_J0_checkIndex_df160 (fun v0 => [(1053, v0)]) false pg_J0_checkIndex_df160 rfl (by decide +kernel) hp_J0_checkIndex_df160 ⟨_, _, rfl, rfl⟩ hfl_RJ0 (fun h => nomatch h) (hcs_J0_checkIndex_df160 hl0) hnw_J0_checkIndex_df160 hth_J0_checkIndex_df160 (fun v0 => List.forall_mem_cons.mpr ⟨Or.inr (Or.inl ⟨rfl, show Cond.fieldLink RJ0 1053 "jdk/internal/util/Preconditions" "SIOOBE_FORMATTER" "Ljava/util/function/BiFunction;" ∈ zTs from zmem (i := 734) (by decide +kernel) rfl⟩), fun _ h => absurd h List.not_mem_nil⟩) hkc_J0_checkIndex_df160 (fun args w Q X v0 hv0 h => ?_)
  obtain ⟨j, n, hj, hn, rfl, hQ⟩ := h
  refine ⟨Nat.le_of_ble_eq_true rfl, 20, [], ?_, fun q hq => absurd hq List.not_mem_nil⟩
  (conv => whnf)
  refine ⟨j, n, _, hv0, hj, hn, rfl, ?_⟩
  (conv => whnf)
  exact hQ
def sp_J5_charAt_5068e : zSpec := fun args w Q _ => ∃ α ν r c j x, j < c ∧ c ≤ 16 ∧ ν 6 = nI c ∧ x < 128 ∧ α 14 j = nI x ∧ args = [.ref 19, .int (nI j)] ∧ w = WX α ν r ∧ Q (some (.int (nI x))) (WX α ν r)
def pg_J5_charAt_5068e : List zE := [(0, .aload_n 0, 1, []), (1, .getfield 22, 3, []), (4, .istore_n 2, 1, []), (5, .aload_n 0, 1, []), (6, .getfield 15, 3, []), (9, .astore_n 3, 1, []), (10, .aload_n 0, 1, []), (11, .getfield 79, 3, []), (14, .aload_n 3, 1, []), (15, .arraylength, 1, []), (16, .iload_n 2, 1, []), (17, .ishr, 1, []), (18, .invokestatic 138, 3, []), (21, .istore 4, 2, []), (23, .iload_n 1, 1, []), (24, .iload 4, 2, []), (26, .invokestatic 144, 3, []), (29, .iload_n 2, 1, []), (30, .ifCond .ne 12, 3, [42]), (33, .aload_n 3, 1, []), (34, .iload_n 1, 1, []), (35, .baload, 1, []), (36, .sipush 255, 3, [255]), (39, .iand, 1, []), (40, .i2c, 1, []), (41, .ireturn, 1, []), (42, .aload_n 3, 1, []), (43, .iload_n 1, 1, []), (44, .invokestatic 148, 3, []), (47, .ireturn, 1, [])]
theorem hp_J5_charAt_5068e : ∀ q ∈ pg_J5_charAt_5068e, decode cJ5_charAt_5068e q.1 = .ok (q.2.1, q.2.2.1) ∧ ztg q.2.1 q.1 q.2.2.1 q.2.2.2 = true := zpg_of (by decide +kernel)
def cs_J5_charAt_5068e : List (Nat × zCall) := [(138, 1, 2, none, 0, 0, false, zspMin), (144, 1, 2, none, 0, 0, false, sp_J0_checkIndex_df160)]
theorem hcs_J5_charAt_5068e {l : Launch} (hl0 : l.stackTraces = false) : ∀ q ∈ cs_J5_charAt_5068e, zCallable l RJ5 3 q := List.forall_mem_cons.mpr ⟨zcMin (ps := [808, 679, 29, 680]) (by decide +kernel) (by decide), List.forall_mem_cons.mpr ⟨zcS (ps := [809, 755, 22, 756]) (c_J0_checkIndex_df160 hl0) (by decide +kernel) ⟨by decide +kernel, by decide +kernel, by decide +kernel⟩ (by decide) (by decide), fun _ h => absurd h List.not_mem_nil⟩⟩
def th_J5_charAt_5068e : List (Nat × String) := []
theorem hth_J5_charAt_5068e : ∀ q ∈ th_J5_charAt_5068e, zThrow cJ5_charAt_5068e RJ5 q := fun _ h => absurd h List.not_mem_nil
def kc_J5_charAt_5068e : List (Nat × Int32) := []
theorem hkc_J5_charAt_5068e : ∀ q ∈ kc_J5_charAt_5068e, Cond.constant RJ5 q.1 q.2 ∈ zTs := fun _ h => absurd h List.not_mem_nil
def nw_J5_charAt_5068e : List (Nat × Nat × Nat × List Value) := []
theorem hnw_J5_charAt_5068e : ∀ q ∈ nw_J5_charAt_5068e, zNew RJ5 q := fun _ h => absurd h List.not_mem_nil
set_option maxHeartbeats 4000000 in
set_option maxRecDepth 20000 in
theorem c_J5_charAt_5068e {l : Launch} (hl0 : l.stackTraces = false) : CT l yJ5_charAt_5068e (.code yJ5_charAt_5068e cJ5_charAt_5068e 5 (some .char)) 3 0 0 false sp_J5_charAt_5068e := by
  refine zCT_of hl0 (own := RJ5) fl_RJ5 cs_J5_charAt_5068e nw_J5_charAt_5068e th_J5_charAt_5068e kc_J5_charAt_5068e (fun _ => []) false pg_J5_charAt_5068e rfl (by decide +kernel) hp_J5_charAt_5068e ⟨_, _, rfl, rfl⟩ hfl_RJ5 (fun h => nomatch h) (hcs_J5_charAt_5068e hl0) hnw_J5_charAt_5068e hth_J5_charAt_5068e (fun _ _ h => absurd h List.not_mem_nil) hkc_J5_charAt_5068e (fun args w Q X v0 hv0 h => ?_)
  obtain ⟨α, ν, r, c, j, x, hj, hc, hν, hx, hα, rfl, rfl, hQ⟩ := h
  refine ⟨Nat.le_of_ble_eq_true rfl, 60, [], ?_, fun q hq => absurd hq List.not_mem_nil⟩
  (conv => whnf)
  dsimp only
  rw [pk_ishr0]
  refine ⟨_, _, rfl, ?_⟩
  (conv => whnf)
  rw [hν]
  have e : (if nI 16 < nI c then nI 16 else nI c) = nI c := if_neg (nI_nlt hc (by decide))
  rw [e]
  refine ⟨j, c, hj, by omega, rfl, ?_⟩
  (conv => whnf)
  refine And.intro (fun _ => ?_) (fun c => absurd (show _ from rfl) c)
  (conv => whnf)
  refine ⟨vp_in_nI (show j < 16 by omega) (by decide), ?_⟩
  (conv => whnf)
  rw [nI_clamp (by omega)]
  dsimp only [zkon]
  rw [hα, pk_c7 hx]
  exact ⟨(pk_charN (by omega)).1, hQ⟩
def sp_J4_charAt_5068e : zSpec := sp_J5_charAt_5068e
def pg_J4_charAt_5068e : List zE := [(0, .aload_n 0, 1, []), (1, .iload_n 1, 1, []), (2, .invokespecial 329, 3, []), (5, .ireturn, 1, [])]
theorem hp_J4_charAt_5068e : ∀ q ∈ pg_J4_charAt_5068e, decode cJ4_charAt_5068e q.1 = .ok (q.2.1, q.2.2.1) ∧ ztg q.2.1 q.1 q.2.2.1 q.2.2.2 = true := zpg_of (by decide +kernel)
def cs_J4_charAt_5068e : List (Nat × zCall) := [(329, 2, 2, some 0, 0, 0, false, sp_J5_charAt_5068e)]
theorem hcs_J4_charAt_5068e {l : Launch} (hl0 : l.stackTraces = false) : ∀ q ∈ cs_J4_charAt_5068e, zCallable l RJ4 4 q := List.forall_mem_cons.mpr ⟨zcSU (C := (RJ4, TJ4, 4)) (ps := [805, 858, 165, 806, 20, 807]) (c_J5_charAt_5068e hl0) (by decide +kernel) rfl ⟨by decide +kernel, by decide +kernel⟩ (by decide) (by decide), fun _ h => absurd h List.not_mem_nil⟩
def th_J4_charAt_5068e : List (Nat × String) := []
theorem hth_J4_charAt_5068e : ∀ q ∈ th_J4_charAt_5068e, zThrow cJ4_charAt_5068e RJ4 q := fun _ h => absurd h List.not_mem_nil
def kc_J4_charAt_5068e : List (Nat × Int32) := []
theorem hkc_J4_charAt_5068e : ∀ q ∈ kc_J4_charAt_5068e, Cond.constant RJ4 q.1 q.2 ∈ zTs := fun _ h => absurd h List.not_mem_nil
def nw_J4_charAt_5068e : List (Nat × Nat × Nat × List Value) := []
theorem hnw_J4_charAt_5068e : ∀ q ∈ nw_J4_charAt_5068e, zNew RJ4 q := fun _ h => absurd h List.not_mem_nil
set_option maxHeartbeats 4000000 in
set_option maxRecDepth 20000 in
theorem c_J4_charAt_5068e {l : Launch} (hl0 : l.stackTraces = false) : CT l yJ4_charAt_5068e (.code yJ4_charAt_5068e cJ4_charAt_5068e 2 (some .char)) 4 0 0 false sp_J4_charAt_5068e := by
  refine zCT_of hl0 (own := RJ4) fl_RJ4 cs_J4_charAt_5068e nw_J4_charAt_5068e th_J4_charAt_5068e kc_J4_charAt_5068e (fun _ => []) false pg_J4_charAt_5068e rfl (by decide +kernel) hp_J4_charAt_5068e ⟨_, _, rfl, rfl⟩ hfl_RJ4 (fun h => nomatch h) (hcs_J4_charAt_5068e hl0) hnw_J4_charAt_5068e hth_J4_charAt_5068e (fun _ _ h => absurd h List.not_mem_nil) hkc_J4_charAt_5068e (fun args w Q X v0 hv0 h => ?_)
  obtain ⟨α, ν, r, c, j, x, hj, hc, hν, hx, hα, rfl, rfl, hQ⟩ := h
  refine ⟨Nat.le_of_ble_eq_true rfl, 20, [], ?_, fun q hq => absurd hq List.not_mem_nil⟩
  (conv => whnf)
  refine ⟨α, ν, r, c, j, x, hj, hc, hν, hx, hα, rfl, rfl, ?_⟩
  (conv => whnf)
  exact ⟨(pk_charN (by omega)).1, hQ⟩
