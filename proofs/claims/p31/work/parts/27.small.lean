/-! ===== EchoRegistryLaw: low, cell ===== -/
theorem zand_nn (x : Int32) : ¬ (x &&& 2147483647) < 0 := by
  intro h
  have h1 := Int32.lt_iff_toInt_lt.mp h
  have h2 : (x &&& 2147483647).toInt = (x.toBitVec &&& 2147483647#32).toInt := rfl
  have h3 : (x.toBitVec &&& 2147483647#32).msb = false := by
    rw [BitVec.msb_and]
    have e : (2147483647#32).msb = false := by decide
    rw [e, Bool.and_false]
  have h4 : ((0 : Int32)).toInt = 0 := by decide
  rw [h2, h4, BitVec.toInt_eq_msb_cond, h3] at h1
  simp at h1
  omega
/-- low, by numbers -/
def zlo (x : Int32) (n : Nat) : Nat := (x &&& 2147483647).toNatClampNeg % n
theorem zlo_lt (x : Int32) {n : Nat} (h : 0 < n) : zlo x n < n := Nat.mod_lt _ h
def sp_L_low : zSpec := fun args w Q _ => ∃ x n, 0 < n ∧ n < 2 ^ 31 ∧ args = [.int x, .int (nI n)] ∧ Q (some (.int (nI (zlo x n)))) w
def fl_RL : List (Nat × Nat × Nat) := []
theorem hfl_RL : ∀ q ∈ fl_RL, zFld RL q := zfld_of (ps := []) (by decide +kernel)
def pg_L_low : List zE := [(0, .iload_n 0, 1, []), (1, .ldc 7, 2, []), (3, .iand, 1, []), (4, .iload_n 1, 1, []), (5, .irem, 1, []), (6, .ireturn, 1, [])]
theorem hp_L_low : ∀ q ∈ pg_L_low, decode cL_low q.1 = .ok (q.2.1, q.2.2.1) ∧ ztg q.2.1 q.1 q.2.2.1 q.2.2.2 = true := zpg_of (by decide +kernel)
def cs_L_low : List (Nat × zCall) := []
theorem hcs_L_low {l : Launch} (hl0 : l.stackTraces = false) : ∀ q ∈ cs_L_low, zCallable l RL 1 q := fun _ h => absurd h List.not_mem_nil
def th_L_low : List (Nat × String) := []
theorem hth_L_low : ∀ q ∈ th_L_low, zThrow cL_low RL q := fun _ h => absurd h List.not_mem_nil
def kc_L_low : List (Nat × Int32) := [(7, 2147483647)]
theorem hkc_L_low : ∀ q ∈ kc_L_low, Cond.constant RL q.1 q.2 ∈ zTs := List.forall_mem_cons.mpr ⟨zmem (i := 499) (by decide +kernel) rfl, fun _ h => absurd h List.not_mem_nil⟩
def nw_L_low : List (Nat × Nat × Nat × List Value) := []
theorem hnw_L_low : ∀ q ∈ nw_L_low, zNew RL q := fun _ h => absurd h List.not_mem_nil
set_option maxHeartbeats 4000000 in
set_option maxRecDepth 20000 in
theorem c_L_low {l : Launch} (hl0 : l.stackTraces = false) : CT l yL_low (.code yL_low cL_low 2 (some .int)) 1 0 0 false sp_L_low := by
  refine zCT_of hl0 (own := RL) fl_RL cs_L_low nw_L_low th_L_low kc_L_low (fun _ => []) false pg_L_low rfl (by decide +kernel) hp_L_low ⟨_, _, rfl, rfl⟩ hfl_RL (fun h => nomatch h) (hcs_L_low hl0) hnw_L_low hth_L_low (fun _ _ h => absurd h List.not_mem_nil) hkc_L_low (fun args w Q X v0 hv0 h => ?_)
  obtain ⟨x, n, h0, hn, rfl, hQ⟩ := h
  refine ⟨Nat.le_of_ble_eq_true rfl, 20, [], ?_, fun q hq => absurd hq List.not_mem_nil⟩
  (conv => whnf)
  refine ⟨fun e => ?_, ?_⟩
  · have e2 : n = 0 := (nI_eq hn (by decide)).mp (show nI n = nI 0 from e)
    omega
  (conv => whnf)
  dsimp only [zkon]
  obtain ⟨m, hm, em⟩ := nI_of (zand_nn x)
  unfold zlo at hQ
  rw [em, nI_clamp hm] at hQ
  rw [em, pk_rem hm h0 hn]
  exact hQ
def sp_L_cell : zSpec := fun args w Q _ => ∃ k, k < 2 ^ 31 ∧ args = [.ref 1000, .int (nI k)] ∧ ∀ x, Q (some (.int x)) w
def pg_L_cell : List zE := [(0, .iload_n 1, 1, []), (1, .aload_n 0, 1, []), (2, .arraylength, 1, []), (3, .if_icmp .ge 9, 3, [12]), (6, .aload_n 0, 1, []), (7, .iload_n 1, 1, []), (8, .iaload, 1, []), (9, .goto 11, 3, [20]), (12, .ldc 8, 2, []), (14, .iload_n 1, 1, []), (15, .imul, 1, []), (16, .sipush 977, 3, [977]), (19, .iadd, 1, []), (20, .ireturn, 1, [])]
theorem hp_L_cell : ∀ q ∈ pg_L_cell, decode cL_cell q.1 = .ok (q.2.1, q.2.2.1) ∧ ztg q.2.1 q.1 q.2.2.1 q.2.2.2 = true := zpg_of (by decide +kernel)
def cs_L_cell : List (Nat × zCall) := []
theorem hcs_L_cell {l : Launch} (hl0 : l.stackTraces = false) : ∀ q ∈ cs_L_cell, zCallable l RL 1 q := fun _ h => absurd h List.not_mem_nil
def th_L_cell : List (Nat × String) := []
theorem hth_L_cell : ∀ q ∈ th_L_cell, zThrow cL_cell RL q := fun _ h => absurd h List.not_mem_nil
def kc_L_cell : List (Nat × Int32) := [(8, 40503)]
theorem hkc_L_cell : ∀ q ∈ kc_L_cell, Cond.constant RL q.1 q.2 ∈ zTs := List.forall_mem_cons.mpr ⟨zmem (i := 503) (by decide +kernel) rfl, fun _ h => absurd h List.not_mem_nil⟩
def nw_L_cell : List (Nat × Nat × Nat × List Value) := []
theorem hnw_L_cell : ∀ q ∈ nw_L_cell, zNew RL q := fun _ h => absurd h List.not_mem_nil
set_option maxHeartbeats 4000000 in
set_option maxRecDepth 20000 in
theorem c_L_cell {l : Launch} (hl0 : l.stackTraces = false) : CT l yL_cell (.code yL_cell cL_cell 2 (some .int)) 1 0 0 false sp_L_cell := by
  refine zCT_ofS hl0 (own := RL) fl_RL cs_L_cell nw_L_cell th_L_cell kc_L_cell (fun _ => []) false pg_L_cell rfl (by decide +kernel) hp_L_cell ⟨_, _, rfl, rfl⟩ hfl_RL (fun h => nomatch h) (hcs_L_cell hl0) hnw_L_cell hth_L_cell (fun _ _ h => absurd h List.not_mem_nil) hkc_L_cell (fun args w Q X v0 L xs hv0 hL h => ?_)
  obtain ⟨k, hk, rfl, hQ⟩ := h
  refine ⟨Nat.le_of_ble_eq_true rfl, 40, [], ?_, fun q hq => absurd hq List.not_mem_nil⟩
  (conv => whnf)
  refine And.intro (fun c => ?_) (fun c => ?_)
  · (conv => whnf)
    refine ⟨vp_in_nI ((nI_ltI hk hL).mp c) hL, ?_⟩
    (conv => whnf)
    exact hQ _
  · (conv => whnf)
    exact hQ _
