/-! ===== members of the JDK: Arrays.fill, Math.max ===== -/
/-- the first n places of f are v -/
def zfl (v : Int32) (f : Nat → Int32) (n : Nat) : Nat → Int32 := fun j => if j < n then v else f j
theorem zfl_0 (v : Int32) (f : Nat → Int32) : zfl v f 0 = f := by
  funext j
  simp [zfl]
theorem zfl_s (v : Int32) (f : Nat → Int32) (n : Nat) : upd (zfl v f n) n v = zfl v f (n + 1) := by
  funext j
  unfold upd zfl
  by_cases h1 : j = n
  · subst h1
    simp
  · by_cases h2 : j < n
    · have h3 : j < n + 1 := by omega
      simp [h1, h2, h3]
    · have h3 : ¬ j < n + 1 := by omega
      simp [h1, h2, h3]
theorem zset_self {w : zW} {a : Nat} {e : va_E} (h : w[a]? = some e) : w.set a e = w := by
  apply List.ext_getElem?
  intro i
  rw [List.getElem?_set]
  by_cases h1 : a = i
  · subst h1
    have hl := (List.getElem?_eq_some_iff.mp h).1
    rw [h]
    simp [hl]
  · simp [h1]
theorem zset_get {w : zW} {a : Nat} {e e' : va_E} (h : w[a]? = some e) : (w.set a e')[a]? = some e' := by
  rw [List.getElem?_set_self ((List.getElem?_eq_some_iff.mp h).1)]
def sp_J7_fill_53178 : zSpec := fun args w Q _ => ∃ a v n f, args = [.ref a, .int v] ∧ a < 1000 ∧ w[a]? = some (.inl (0, n, .inl f)) ∧ n < 2 ^ 31 ∧ Q none (w.set a (.inl (0, n, .inl (zfl v f n))))
def fl_RJ7 : List (Nat × Nat × Nat) := []
theorem hfl_RJ7 : ∀ q ∈ fl_RJ7, zFld RJ7 q := zfld_of (ps := []) (by decide +kernel)
def pg_J7_fill_53178 : List zE := [(0, .iconst 0, 1, [0]), (1, .istore_n 2, 1, []), (2, .aload_n 0, 1, []), (3, .arraylength, 1, []), (4, .istore_n 3, 1, []), (5, .iload_n 2, 1, []), (6, .iload_n 3, 1, []), (7, .if_icmp .ge 13, 3, [20]), (10, .aload_n 0, 1, []), (11, .iload_n 2, 1, []), (12, .iload_n 1, 1, []), (13, .iastore, 1, []), (14, .iinc 2 1, 3, [1]), (17, .goto (-12), 3, [5]), (20, .return_, 1, [])]
theorem hp_J7_fill_53178 : ∀ q ∈ pg_J7_fill_53178, decode cJ7_fill_53178 q.1 = .ok (q.2.1, q.2.2.1) ∧ ztg q.2.1 q.1 q.2.2.1 q.2.2.2 = true := zpg_of (by decide +kernel)
def cs_J7_fill_53178 : List (Nat × zCall) := []
theorem hcs_J7_fill_53178 {l : Launch} (hl0 : l.stackTraces = false) : ∀ q ∈ cs_J7_fill_53178, zCallable l RJ7 1 q := fun _ h => absurd h List.not_mem_nil
def th_J7_fill_53178 : List (Nat × String) := []
theorem hth_J7_fill_53178 : ∀ q ∈ th_J7_fill_53178, zThrow cJ7_fill_53178 RJ7 q := fun _ h => absurd h List.not_mem_nil
def kc_J7_fill_53178 : List (Nat × Int32) := []
theorem hkc_J7_fill_53178 : ∀ q ∈ kc_J7_fill_53178, Cond.constant RJ7 q.1 q.2 ∈ zTs := fun _ h => absurd h List.not_mem_nil
def nw_J7_fill_53178 : List (Nat × Nat × Nat × List Value) := []
theorem hnw_J7_fill_53178 : ∀ q ∈ nw_J7_fill_53178, zNew RJ7 q := fun _ h => absurd h List.not_mem_nil
set_option maxHeartbeats 4000000 in
set_option maxRecDepth 20000 in
theorem c_J7_fill_53178 {l : Launch} (hl0 : l.stackTraces = false) : CT l yJ7_fill_53178 (.code yJ7_fill_53178 cJ7_fill_53178 4 none) 1 0 0 false sp_J7_fill_53178 := by
  refine zCT_of hl0 (own := RJ7) fl_RJ7 cs_J7_fill_53178 nw_J7_fill_53178 th_J7_fill_53178 kc_J7_fill_53178 (fun _ => []) false pg_J7_fill_53178 rfl (by decide +kernel) hp_J7_fill_53178 ⟨_, _, rfl, rfl⟩ hfl_RJ7 (fun h => nomatch h) (hcs_J7_fill_53178 hl0) hnw_J7_fill_53178 hth_J7_fill_53178 (fun _ _ h => absurd h List.not_mem_nil) hkc_J7_fill_53178 (fun args w Q X v0 hv0 h => ?_)
  obtain ⟨a, v, n, f, rfl, ha, hw, hn, hQ⟩ := h
  have hb : Nat.ble 1000 a = false := by
    cases e : Nat.ble 1000 a
    · rfl
    · have h9 := Nat.le_of_ble_eq_true e
      exact absurd ha (Nat.not_lt.mpr h9)
  refine ⟨Nat.le_of_ble_eq_true rfl, 60, [(5, fun m L S w' cu su => ∃ i, zsub [(0, .ref a), (1, .int v), (2, .int (nI i)), (3, .int (nI n))] L ∧ S = [] ∧ w' = w.set a (.inl (0, n, .inl (zfl v f i))) ∧ i ≤ n ∧ m = n - i ∧ cu = 0 ∧ su = 0)], ?_, ?_⟩
  · (conv => whnf)
    rw [hb]
    (conv => whnf)
    rw [hw]
    (conv => whnf)
    refine ⟨n, 0, ⟨rfl, rfl, rfl, rfl, trivial⟩, rfl, ?_, by omega, by omega, rfl, rfl⟩
    rw [zfl_0, zset_self hw]
  · intro q hq
    rcases List.mem_cons.mp hq with rfl | hq
    · rintro m L S w' cu su ⟨i, hL, rfl, rfl, hi, rfl, rfl, rfl⟩
      refine ⟨_, hL, ?_⟩
      (conv => whnf)
      refine And.intro (fun c => ?_) (fun c => ?_)
      · (conv => whnf)
        rw [zset_get hw]
        (conv => whnf)
        have hlt : i < n := (nI_ltI (by omega) hn).mp c
        refine ⟨vp_in_nI hlt hn, ?_⟩
        (conv => whnf)
        refine ⟨n - (i + 1), by omega, i + 1, ⟨rfl, rfl, ?_, rfl, trivial⟩, rfl, ?_, by omega, rfl, rfl, rfl⟩
        · exact congrArg (fun x => some (Value.int x)) (nI_add i 1)
        · rw [nI_clamp (by omega), List.set_set, zfl_s]
      · have hge : i = n := by
          have : ¬ i < n := fun h => c (nI_lt h hn)
          omega
        subst hge
        (conv => whnf)
        exact hQ
    · exact absurd hq List.not_mem_nil
def zspMax : zSpec := fun args w Q _ => ∃ x y, args = [.int x, .int y] ∧ Q (some (.int (if x < y then y else x))) w
/-- Math.max is the machine's own -/
theorem zcMax {l : Launch} {own : String} {d idx : Nat} {ps : List Nat} (hz : zins ps [.methodLink own idx Lib.Math.max.name, .static Lib.Math.max.name, .initialized "java/lang/Math", .code Lib.Math.max.name Lib.Math.max.code 2 (some .int)] = true) (hd : 0 < d) : zCallable l own d (idx, 1, 2, none, 0, 0, false, zspMax) := by
  intro Γ T B pc L S as S' w cu su QN _ hd2 hp hrc hcat hcu hsu hal hN hSp ad H locs ls hP hD hS hl ha
  obtain ⟨hlen, rfl⟩ := zpop_top hp
  obtain ⟨x, y, rfl, hq⟩ := hSp
  obtain ⟨e1, hx, hb, hml, hown, hE, hRf, hRl, hA, hrC, hrS, hTa, hTn, hex⟩ := id B
  have hm9 : ∀ w ∈ [Cond.methodLink own idx Lib.Math.max.name, .static Lib.Math.max.name, .initialized "java/lang/Math", .code Lib.Math.max.name Lib.Math.max.code 2 (some .int)], w.before Γ.args Γ.s = true := fun w hw => zts B w (zins_in hz w hw)
  have h9 := hN _ w hq ad H locs ls hP hD hS hl ha
  have h8 : ((S'.map (zcv ad)).map fun v => v.category).sum ≤ 8 := by rw [zcat_map]; exact hcat
  exact va_mmax hx hb (hml.trans hl.1.symm) hown (hm9 _ (by simp)) (hm9 _ (by simp)) (hm9 _ (by simp)) (hm9 _ (by simp)) (by omega) (Nat.le_trans (Nat.add_le_add_right h8 13) (by omega)) (Nat.le_trans hcu hrC) (Nat.le_trans hsu hrS) hd2 h9
