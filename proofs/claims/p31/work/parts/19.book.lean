/-! ===== EchoRegistry$ClaimBook, EchoRegistry$Ledger ===== -/
def sp_X1_count : zSpec := fun args w Q _ => ∃ α ν r, args = [.ref 11] ∧ w = WX α ν r ∧ Q (some (.int (ν 3))) (WX α ν r)
def fl_RX1 : List (Nat × Nat × Nat) := [(9, 2, 0), (15, 2, 1), (18, 2, 2), (21, 2, 3)]
theorem hfl_RX1 : ∀ q ∈ fl_RX1, zFld RX1 q := zfld_of (ps := [100, 101, 102, 103]) (by decide +kernel)
def pg_X1_count : List zE := [(0, .aload_n 0, 1, []), (1, .getfield 21, 3, []), (4, .ireturn, 1, [])]
theorem hp_X1_count : ∀ q ∈ pg_X1_count, decode cX1_count q.1 = .ok (q.2.1, q.2.2.1) ∧ ztg q.2.1 q.1 q.2.2.1 q.2.2.2 = true := zpg_of (by decide +kernel)
def cs_X1_count : List (Nat × zCall) := []
theorem hcs_X1_count {l : Launch} (hl0 : l.stackTraces = false) : ∀ q ∈ cs_X1_count, zCallable l RX1 1 q := fun _ h => absurd h List.not_mem_nil
def th_X1_count : List (Nat × String) := []
theorem hth_X1_count : ∀ q ∈ th_X1_count, zThrow cX1_count RX1 q := fun _ h => absurd h List.not_mem_nil
def kc_X1_count : List (Nat × Int32) := []
theorem hkc_X1_count : ∀ q ∈ kc_X1_count, Cond.constant RX1 q.1 q.2 ∈ zTs := fun _ h => absurd h List.not_mem_nil
def nw_X1_count : List (Nat × Nat × Nat × List Value) := []
theorem hnw_X1_count : ∀ q ∈ nw_X1_count, zNew RX1 q := fun _ h => absurd h List.not_mem_nil
set_option maxHeartbeats 4000000 in
set_option maxRecDepth 20000 in
theorem c_X1_count {l : Launch} (hl0 : l.stackTraces = false) : CT l yX1_count (.code yX1_count cX1_count 1 (some .int)) 1 0 0 false sp_X1_count := by
  refine zCT_of hl0 (own := RX1) fl_RX1 cs_X1_count nw_X1_count th_X1_count kc_X1_count (fun _ => []) false pg_X1_count rfl (by decide +kernel) hp_X1_count ⟨_, _, rfl, rfl⟩ hfl_RX1 (fun h => nomatch h) (hcs_X1_count hl0) hnw_X1_count hth_X1_count (fun _ _ h => absurd h List.not_mem_nil) hkc_X1_count (fun args w Q X v0 hv0 h => ?_)
  obtain ⟨α, ν, r, rfl, rfl, hQ⟩ := h
  refine ⟨Nat.le_of_ble_eq_true rfl, 20, [], ?_, fun q hq => absurd hq List.not_mem_nil⟩
  (conv => whnf)
  exact hQ
def sp_X1_isFull : zSpec := fun args w Q _ => ∃ α ν r n, n ≤ 40 ∧ ν 3 = nI n ∧ args = [.ref 11] ∧ w = WX α ν r ∧ zB Q (n = 40) (WX α ν r)
def pg_X1_isFull : List zE := [(0, .aload_n 0, 1, []), (1, .getfield 21, 3, []), (4, .bipush 40, 2, [40]), (6, .if_icmp .lt 7, 3, [13]), (9, .iconst 1, 1, [1]), (10, .goto 4, 3, [14]), (13, .iconst 0, 1, [0]), (14, .ireturn, 1, [])]
theorem hp_X1_isFull : ∀ q ∈ pg_X1_isFull, decode cX1_isFull q.1 = .ok (q.2.1, q.2.2.1) ∧ ztg q.2.1 q.1 q.2.2.1 q.2.2.2 = true := zpg_of (by decide +kernel)
def cs_X1_isFull : List (Nat × zCall) := []
theorem hcs_X1_isFull {l : Launch} (hl0 : l.stackTraces = false) : ∀ q ∈ cs_X1_isFull, zCallable l RX1 1 q := fun _ h => absurd h List.not_mem_nil
def th_X1_isFull : List (Nat × String) := []
theorem hth_X1_isFull : ∀ q ∈ th_X1_isFull, zThrow cX1_isFull RX1 q := fun _ h => absurd h List.not_mem_nil
def kc_X1_isFull : List (Nat × Int32) := []
theorem hkc_X1_isFull : ∀ q ∈ kc_X1_isFull, Cond.constant RX1 q.1 q.2 ∈ zTs := fun _ h => absurd h List.not_mem_nil
def nw_X1_isFull : List (Nat × Nat × Nat × List Value) := []
theorem hnw_X1_isFull : ∀ q ∈ nw_X1_isFull, zNew RX1 q := fun _ h => absurd h List.not_mem_nil
set_option maxHeartbeats 4000000 in
set_option maxRecDepth 20000 in
theorem c_X1_isFull {l : Launch} (hl0 : l.stackTraces = false) : CT l yX1_isFull (.code yX1_isFull cX1_isFull 1 (some .boolean)) 1 0 0 false sp_X1_isFull := by
  refine zCT_of hl0 (own := RX1) fl_RX1 cs_X1_isFull nw_X1_isFull th_X1_isFull kc_X1_isFull (fun _ => []) false pg_X1_isFull rfl (by decide +kernel) hp_X1_isFull ⟨_, _, rfl, rfl⟩ hfl_RX1 (fun h => nomatch h) (hcs_X1_isFull hl0) hnw_X1_isFull hth_X1_isFull (fun _ _ h => absurd h List.not_mem_nil) hkc_X1_isFull (fun args w Q X v0 hv0 h => ?_)
  obtain ⟨α, ν, r, n, hn, hν, rfl, rfl, h1, h2⟩ := h
  refine ⟨Nat.le_of_ble_eq_true rfl, 20, [], ?_, fun q hq => absurd hq List.not_mem_nil⟩
  (conv => whnf)
  rw [hν]
  refine And.intro (fun c => ?_) (fun c => ?_)
  · (conv => whnf)
    exact ⟨Or.inl rfl, h2 (fun e => by subst e; exact absurd c (by decide))⟩
  · (conv => whnf)
    refine ⟨Or.inr rfl, h1 ?_⟩
    apply Classical.byContradiction
    intro e
    exact c (nI_lt (show n < 40 by omega) (by decide))
def sp_X1_has : zSpec := fun args w Q _ => ∃ α ν r n x, n ≤ 40 ∧ ν 3 = nI n ∧ args = [.ref 11, .int x] ∧ w = WX α ν r ∧ zB Q (vp_in x n) (WX α ν r)
def pg_X1_has : List zE := [(0, .iload_n 1, 1, []), (1, .ifCond .lt 21, 3, [22]), (4, .iload_n 1, 1, []), (5, .aload_n 0, 1, []), (6, .getfield 21, 3, []), (9, .if_icmp .ge 13, 3, [22]), (12, .iload_n 1, 1, []), (13, .bipush 40, 2, [40]), (15, .if_icmp .ge 7, 3, [22]), (18, .iconst 1, 1, [1]), (19, .goto 4, 3, [23]), (22, .iconst 0, 1, [0]), (23, .ireturn, 1, [])]
theorem hp_X1_has : ∀ q ∈ pg_X1_has, decode cX1_has q.1 = .ok (q.2.1, q.2.2.1) ∧ ztg q.2.1 q.1 q.2.2.1 q.2.2.2 = true := zpg_of (by decide +kernel)
def cs_X1_has : List (Nat × zCall) := []
theorem hcs_X1_has {l : Launch} (hl0 : l.stackTraces = false) : ∀ q ∈ cs_X1_has, zCallable l RX1 1 q := fun _ h => absurd h List.not_mem_nil
def th_X1_has : List (Nat × String) := []
theorem hth_X1_has : ∀ q ∈ th_X1_has, zThrow cX1_has RX1 q := fun _ h => absurd h List.not_mem_nil
def kc_X1_has : List (Nat × Int32) := []
theorem hkc_X1_has : ∀ q ∈ kc_X1_has, Cond.constant RX1 q.1 q.2 ∈ zTs := fun _ h => absurd h List.not_mem_nil
def nw_X1_has : List (Nat × Nat × Nat × List Value) := []
theorem hnw_X1_has : ∀ q ∈ nw_X1_has, zNew RX1 q := fun _ h => absurd h List.not_mem_nil
set_option maxHeartbeats 4000000 in
set_option maxRecDepth 20000 in
theorem c_X1_has {l : Launch} (hl0 : l.stackTraces = false) : CT l yX1_has (.code yX1_has cX1_has 2 (some .boolean)) 1 0 0 false sp_X1_has := by
  refine zCT_of hl0 (own := RX1) fl_RX1 cs_X1_has nw_X1_has th_X1_has kc_X1_has (fun _ => []) false pg_X1_has rfl (by decide +kernel) hp_X1_has ⟨_, _, rfl, rfl⟩ hfl_RX1 (fun h => nomatch h) (hcs_X1_has hl0) hnw_X1_has hth_X1_has (fun _ _ h => absurd h List.not_mem_nil) hkc_X1_has (fun args w Q X v0 hv0 h => ?_)
  obtain ⟨α, ν, r, n, x, hn, hν, rfl, rfl, h1, h2⟩ := h
  refine ⟨Nat.le_of_ble_eq_true rfl, 20, [], ?_, fun q hq => absurd hq List.not_mem_nil⟩
  (conv => whnf)
  refine And.intro (fun c => ?_) (fun c => ?_) <;> dsimp only at c
  · (conv => whnf); exact ⟨Or.inl rfl, h2 (vp_in_neg c)⟩
  · obtain ⟨j, hj, rfl⟩ := nI_of c
    (conv => whnf)
    rw [hν]
    refine And.intro (fun d => ?_) (fun d => ?_)
    · have hlt : j < n := (nI_ltI (by omega) (by omega)).mp d
      (conv => whnf)
      refine And.intro (fun _ => ?_) (fun c => absurd (show _ from (nI_lt (show j < 40 by omega) (by decide))) c)
      (conv => whnf)
      exact ⟨Or.inr rfl, h1 (vp_in_nI hlt (by omega))⟩
    · (conv => whnf); exact ⟨Or.inl rfl, h2 (vp_in_nlt (by omega) d)⟩
def sp_X1_enter : zSpec := fun args w Q _ => ∃ α ν r n x y z, n < 40 ∧ ν 3 = nI n ∧ args = [.ref 11, .int x, .int y, .int z] ∧ w = WX α ν r ∧
  Q (some (.int (nI n))) (WX (zu (zu (zu α 8 (upd (α 8) n x)) 9 (upd (α 9) n y)) 10 (upd (α 10) n (z + nI 28800))) (zu ν 3 (nI (n + 1))) r)
def pg_X1_enter : List zE := [(0, .aload_n 0, 1, []), (1, .invokevirtual 25, 3, []), (4, .ifCond .eq 5, 3, [9]), (7, .iconst (-1), 1, []), (8, .ireturn, 1, []), (9, .aload_n 0, 1, []), (10, .getfield 21, 3, []), (13, .istore 4, 2, []), (15, .aload_n 0, 1, []), (16, .getfield 9, 3, []), (19, .iload 4, 2, []), (21, .iload_n 1, 1, []), (22, .iastore, 1, []), (23, .aload_n 0, 1, []), (24, .getfield 15, 3, []), (27, .iload 4, 2, []), (29, .iload_n 2, 1, []), (30, .iastore, 1, []), (31, .aload_n 0, 1, []), (32, .getfield 18, 3, []), (35, .iload 4, 2, []), (37, .iload_n 3, 1, []), (38, .sipush 28800, 3, [28800]), (41, .iadd, 1, []), (42, .iastore, 1, []), (43, .aload_n 0, 1, []), (44, .dup, 1, []), (45, .getfield 21, 3, []), (48, .iconst 1, 1, [1]), (49, .iadd, 1, []), (50, .putfield 21, 3, []), (53, .iload 4, 2, []), (55, .ireturn, 1, [])]
theorem hp_X1_enter : ∀ q ∈ pg_X1_enter, decode cX1_enter q.1 = .ok (q.2.1, q.2.2.1) ∧ ztg q.2.1 q.1 q.2.2.1 q.2.2.2 = true := zpg_of (by decide +kernel)
def cs_X1_enter : List (Nat × zCall) := [(25, 0, 1, some 2, 0, 0, false, sp_X1_isFull)]
theorem hcs_X1_enter {l : Launch} (hl0 : l.stackTraces = false) : ∀ q ∈ cs_X1_enter, zCallable l RX1 2 q := List.forall_mem_cons.mpr ⟨zcV (C := (RX1, TX1, 4)) (ps := [602, 594, 595, 18, 596]) (c_X1_isFull hl0) (by decide +kernel) rfl ⟨rfl, by decide +kernel, by decide +kernel, by decide +kernel⟩ (by decide) (by decide), fun _ h => absurd h List.not_mem_nil⟩
def th_X1_enter : List (Nat × String) := []
theorem hth_X1_enter : ∀ q ∈ th_X1_enter, zThrow cX1_enter RX1 q := fun _ h => absurd h List.not_mem_nil
def kc_X1_enter : List (Nat × Int32) := []
theorem hkc_X1_enter : ∀ q ∈ kc_X1_enter, Cond.constant RX1 q.1 q.2 ∈ zTs := fun _ h => absurd h List.not_mem_nil
def nw_X1_enter : List (Nat × Nat × Nat × List Value) := []
theorem hnw_X1_enter : ∀ q ∈ nw_X1_enter, zNew RX1 q := fun _ h => absurd h List.not_mem_nil
set_option maxHeartbeats 4000000 in
set_option maxRecDepth 20000 in
theorem c_X1_enter {l : Launch} (hl0 : l.stackTraces = false) : CT l yX1_enter (.code yX1_enter cX1_enter 5 (some .int)) 2 0 0 false sp_X1_enter := by
  refine zCT_of hl0 (own := RX1) fl_RX1 cs_X1_enter nw_X1_enter th_X1_enter kc_X1_enter (fun _ => []) false pg_X1_enter rfl (by decide +kernel) hp_X1_enter ⟨_, _, rfl, rfl⟩ hfl_RX1 (fun h => nomatch h) (hcs_X1_enter hl0) hnw_X1_enter hth_X1_enter (fun _ _ h => absurd h List.not_mem_nil) hkc_X1_enter (fun args w Q X v0 hv0 h => ?_)
  obtain ⟨α, ν, r, n, x, y, z, hn, hν, rfl, rfl, hQ⟩ := h
  refine ⟨Nat.le_of_ble_eq_true rfl, 60, [], ?_, fun q hq => absurd hq List.not_mem_nil⟩
  (conv => whnf)
  refine ⟨α, ν, r, n, by omega, hν, rfl, rfl, fun c => absurd c (by omega), fun _ => ?_⟩
  (conv => whnf)
  refine And.intro (fun _ => ?_) (fun c => absurd (show _ from rfl) c)
  (conv => whnf)
  rw [hν]
  refine ⟨vp_in_nI hn (by decide), ?_⟩
  (conv => whnf)
  refine ⟨vp_in_nI hn (by decide), ?_⟩
  (conv => whnf)
  refine ⟨vp_in_nI hn (by decide), ?_⟩
  (conv => whnf)
  rw [nI_clamp (by omega)]
  dsimp only [zkon]
  rw [hν, nI_add]
  exact hQ
def sp_X1_finderOf : zSpec := fun args w Q _ => ∃ α ν r n j, n ≤ 40 ∧ ν 3 = nI n ∧ j < n ∧ args = [.ref 11, .int (nI j)] ∧ w = WX α ν r ∧ Q (some (.int (α 8 j))) (WX α ν r)
def pg_X1_finderOf : List zE := [(0, .aload_n 0, 1, []), (1, .iload_n 1, 1, []), (2, .invokevirtual 29, 3, []), (5, .ifCond .eq 12, 3, [17]), (8, .aload_n 0, 1, []), (9, .getfield 9, 3, []), (12, .iload_n 1, 1, []), (13, .iaload, 1, []), (14, .goto 4, 3, [18]), (17, .iconst (-1), 1, []), (18, .ireturn, 1, [])]
theorem hp_X1_finderOf : ∀ q ∈ pg_X1_finderOf, decode cX1_finderOf q.1 = .ok (q.2.1, q.2.2.1) ∧ ztg q.2.1 q.1 q.2.2.1 q.2.2.2 = true := zpg_of (by decide +kernel)
def cs_X1_finderOf : List (Nat × zCall) := [(29, 0, 2, some 2, 0, 0, false, sp_X1_has)]
theorem hcs_X1_finderOf {l : Launch} (hl0 : l.stackTraces = false) : ∀ q ∈ cs_X1_finderOf, zCallable l RX1 2 q := List.forall_mem_cons.mpr ⟨zcV (C := (RX1, TX1, 4)) (ps := [432, 433, 434, 18, 435]) (c_X1_has hl0) (by decide +kernel) rfl ⟨rfl, by decide +kernel, by decide +kernel, by decide +kernel⟩ (by decide) (by decide), fun _ h => absurd h List.not_mem_nil⟩
def th_X1_finderOf : List (Nat × String) := []
theorem hth_X1_finderOf : ∀ q ∈ th_X1_finderOf, zThrow cX1_finderOf RX1 q := fun _ h => absurd h List.not_mem_nil
def kc_X1_finderOf : List (Nat × Int32) := []
theorem hkc_X1_finderOf : ∀ q ∈ kc_X1_finderOf, Cond.constant RX1 q.1 q.2 ∈ zTs := fun _ h => absurd h List.not_mem_nil
def nw_X1_finderOf : List (Nat × Nat × Nat × List Value) := []
theorem hnw_X1_finderOf : ∀ q ∈ nw_X1_finderOf, zNew RX1 q := fun _ h => absurd h List.not_mem_nil
set_option maxHeartbeats 4000000 in
set_option maxRecDepth 20000 in
theorem c_X1_finderOf {l : Launch} (hl0 : l.stackTraces = false) : CT l yX1_finderOf (.code yX1_finderOf cX1_finderOf 2 (some .int)) 2 0 0 false sp_X1_finderOf := by
  refine zCT_of hl0 (own := RX1) fl_RX1 cs_X1_finderOf nw_X1_finderOf th_X1_finderOf kc_X1_finderOf (fun _ => []) false pg_X1_finderOf rfl (by decide +kernel) hp_X1_finderOf ⟨_, _, rfl, rfl⟩ hfl_RX1 (fun h => nomatch h) (hcs_X1_finderOf hl0) hnw_X1_finderOf hth_X1_finderOf (fun _ _ h => absurd h List.not_mem_nil) hkc_X1_finderOf (fun args w Q X v0 hv0 h => ?_)
  obtain ⟨α, ν, r, n, j, hn, hν, hj, rfl, rfl, hQ⟩ := h
  refine ⟨Nat.le_of_ble_eq_true rfl, 20, [], ?_, fun q hq => absurd hq List.not_mem_nil⟩
  (conv => whnf)
  refine ⟨α, ν, r, n, _, hn, hν, rfl, rfl, fun _ => ?_, fun c => absurd (vp_in_nI hj (by omega)) c⟩
  (conv => whnf)
  refine And.intro (fun c => absurd c (show ¬ _ from (by decide))) (fun _ => ?_)
  (conv => whnf)
  refine ⟨vp_in_nI (show j < 40 by omega) (by decide), ?_⟩
  (conv => whnf)
  rw [nI_clamp (by omega)]
  exact hQ
def sp_X1_cellOf : zSpec := fun args w Q _ => ∃ α ν r n j, n ≤ 40 ∧ ν 3 = nI n ∧ j < n ∧ args = [.ref 11, .int (nI j)] ∧ w = WX α ν r ∧ Q (some (.int (α 9 j))) (WX α ν r)
def pg_X1_cellOf : List zE := [(0, .aload_n 0, 1, []), (1, .iload_n 1, 1, []), (2, .invokevirtual 29, 3, []), (5, .ifCond .eq 12, 3, [17]), (8, .aload_n 0, 1, []), (9, .getfield 15, 3, []), (12, .iload_n 1, 1, []), (13, .iaload, 1, []), (14, .goto 4, 3, [18]), (17, .iconst (-1), 1, []), (18, .ireturn, 1, [])]
theorem hp_X1_cellOf : ∀ q ∈ pg_X1_cellOf, decode cX1_cellOf q.1 = .ok (q.2.1, q.2.2.1) ∧ ztg q.2.1 q.1 q.2.2.1 q.2.2.2 = true := zpg_of (by decide +kernel)
def cs_X1_cellOf : List (Nat × zCall) := [(29, 0, 2, some 2, 0, 0, false, sp_X1_has)]
theorem hcs_X1_cellOf {l : Launch} (hl0 : l.stackTraces = false) : ∀ q ∈ cs_X1_cellOf, zCallable l RX1 2 q := List.forall_mem_cons.mpr ⟨zcV (C := (RX1, TX1, 4)) (ps := [432, 433, 434, 18, 435]) (c_X1_has hl0) (by decide +kernel) rfl ⟨rfl, by decide +kernel, by decide +kernel, by decide +kernel⟩ (by decide) (by decide), fun _ h => absurd h List.not_mem_nil⟩
def th_X1_cellOf : List (Nat × String) := []
theorem hth_X1_cellOf : ∀ q ∈ th_X1_cellOf, zThrow cX1_cellOf RX1 q := fun _ h => absurd h List.not_mem_nil
def kc_X1_cellOf : List (Nat × Int32) := []
theorem hkc_X1_cellOf : ∀ q ∈ kc_X1_cellOf, Cond.constant RX1 q.1 q.2 ∈ zTs := fun _ h => absurd h List.not_mem_nil
def nw_X1_cellOf : List (Nat × Nat × Nat × List Value) := []
theorem hnw_X1_cellOf : ∀ q ∈ nw_X1_cellOf, zNew RX1 q := fun _ h => absurd h List.not_mem_nil
set_option maxHeartbeats 4000000 in
set_option maxRecDepth 20000 in
theorem c_X1_cellOf {l : Launch} (hl0 : l.stackTraces = false) : CT l yX1_cellOf (.code yX1_cellOf cX1_cellOf 2 (some .int)) 2 0 0 false sp_X1_cellOf := by
  refine zCT_of hl0 (own := RX1) fl_RX1 cs_X1_cellOf nw_X1_cellOf th_X1_cellOf kc_X1_cellOf (fun _ => []) false pg_X1_cellOf rfl (by decide +kernel) hp_X1_cellOf ⟨_, _, rfl, rfl⟩ hfl_RX1 (fun h => nomatch h) (hcs_X1_cellOf hl0) hnw_X1_cellOf hth_X1_cellOf (fun _ _ h => absurd h List.not_mem_nil) hkc_X1_cellOf (fun args w Q X v0 hv0 h => ?_)
  obtain ⟨α, ν, r, n, j, hn, hν, hj, rfl, rfl, hQ⟩ := h
  refine ⟨Nat.le_of_ble_eq_true rfl, 20, [], ?_, fun q hq => absurd hq List.not_mem_nil⟩
  (conv => whnf)
  refine ⟨α, ν, r, n, _, hn, hν, rfl, rfl, fun _ => ?_, fun c => absurd (vp_in_nI hj (by omega)) c⟩
  (conv => whnf)
  refine And.intro (fun c => absurd c (show ¬ _ from (by decide))) (fun _ => ?_)
  (conv => whnf)
  refine ⟨vp_in_nI (show j < 40 by omega) (by decide), ?_⟩
  (conv => whnf)
  rw [nI_clamp (by omega)]
  exact hQ
def sp_X1_isRunning : zSpec := fun args w Q _ => ∃ α ν r n j y, n ≤ 40 ∧ ν 3 = nI n ∧ j < n ∧ args = [.ref 11, .int (nI j), .int y] ∧ w = WX α ν r ∧ zB Q (y < α 10 j) (WX α ν r)
def pg_X1_isRunning : List zE := [(0, .aload_n 0, 1, []), (1, .iload_n 1, 1, []), (2, .invokevirtual 29, 3, []), (5, .ifCond .eq 17, 3, [22]), (8, .iload_n 2, 1, []), (9, .aload_n 0, 1, []), (10, .getfield 18, 3, []), (13, .iload_n 1, 1, []), (14, .iaload, 1, []), (15, .if_icmp .ge 7, 3, [22]), (18, .iconst 1, 1, [1]), (19, .goto 4, 3, [23]), (22, .iconst 0, 1, [0]), (23, .ireturn, 1, [])]
theorem hp_X1_isRunning : ∀ q ∈ pg_X1_isRunning, decode cX1_isRunning q.1 = .ok (q.2.1, q.2.2.1) ∧ ztg q.2.1 q.1 q.2.2.1 q.2.2.2 = true := zpg_of (by decide +kernel)
def cs_X1_isRunning : List (Nat × zCall) := [(29, 0, 2, some 2, 0, 0, false, sp_X1_has)]
theorem hcs_X1_isRunning {l : Launch} (hl0 : l.stackTraces = false) : ∀ q ∈ cs_X1_isRunning, zCallable l RX1 2 q := List.forall_mem_cons.mpr ⟨zcV (C := (RX1, TX1, 4)) (ps := [432, 433, 434, 18, 435]) (c_X1_has hl0) (by decide +kernel) rfl ⟨rfl, by decide +kernel, by decide +kernel, by decide +kernel⟩ (by decide) (by decide), fun _ h => absurd h List.not_mem_nil⟩
def th_X1_isRunning : List (Nat × String) := []
theorem hth_X1_isRunning : ∀ q ∈ th_X1_isRunning, zThrow cX1_isRunning RX1 q := fun _ h => absurd h List.not_mem_nil
def kc_X1_isRunning : List (Nat × Int32) := []
theorem hkc_X1_isRunning : ∀ q ∈ kc_X1_isRunning, Cond.constant RX1 q.1 q.2 ∈ zTs := fun _ h => absurd h List.not_mem_nil
def nw_X1_isRunning : List (Nat × Nat × Nat × List Value) := []
theorem hnw_X1_isRunning : ∀ q ∈ nw_X1_isRunning, zNew RX1 q := fun _ h => absurd h List.not_mem_nil
set_option maxHeartbeats 4000000 in
set_option maxRecDepth 20000 in
theorem c_X1_isRunning {l : Launch} (hl0 : l.stackTraces = false) : CT l yX1_isRunning (.code yX1_isRunning cX1_isRunning 3 (some .boolean)) 2 0 0 false sp_X1_isRunning := by
  refine zCT_of hl0 (own := RX1) fl_RX1 cs_X1_isRunning nw_X1_isRunning th_X1_isRunning kc_X1_isRunning (fun _ => []) false pg_X1_isRunning rfl (by decide +kernel) hp_X1_isRunning ⟨_, _, rfl, rfl⟩ hfl_RX1 (fun h => nomatch h) (hcs_X1_isRunning hl0) hnw_X1_isRunning hth_X1_isRunning (fun _ _ h => absurd h List.not_mem_nil) hkc_X1_isRunning (fun args w Q X v0 hv0 h => ?_)
  obtain ⟨α, ν, r, n, j, y, hn, hν, hj, rfl, rfl, h1, h2⟩ := h
  refine ⟨Nat.le_of_ble_eq_true rfl, 20, [], ?_, fun q hq => absurd hq List.not_mem_nil⟩
  (conv => whnf)
  refine ⟨α, ν, r, n, _, hn, hν, rfl, rfl, fun _ => ?_, fun c => absurd (vp_in_nI hj (by omega)) c⟩
  (conv => whnf)
  refine And.intro (fun c => absurd c (show ¬ _ from (by decide))) (fun _ => ?_)
  (conv => whnf)
  refine ⟨vp_in_nI (show j < 40 by omega) (by decide), ?_⟩
  (conv => whnf)
  rw [nI_clamp (by omega)]
  refine And.intro (fun d => ?_) (fun d => ?_)
  · (conv => whnf)
    exact ⟨Or.inr rfl, h1 d⟩
  · (conv => whnf)
    exact ⟨Or.inl rfl, h2 d⟩
def sp_X1_startTerm : zSpec := fun args w Q _ => ∃ α ν r n j y, n ≤ 40 ∧ ν 3 = nI n ∧ j < n ∧ args = [.ref 11, .int (nI j), .int y] ∧ w = WX α ν r ∧ Q (some (.int (α 10 j - y))) (WX (zu α 10 (upd (α 10) j (y + nI 28800))) ν r)
def pg_X1_startTerm : List zE := [(0, .aload_n 0, 1, []), (1, .iload_n 1, 1, []), (2, .invokevirtual 29, 3, []), (5, .ifCond .ne 5, 3, [10]), (8, .iconst 0, 1, [0]), (9, .ireturn, 1, []), (10, .aload_n 0, 1, []), (11, .getfield 18, 3, []), (14, .iload_n 1, 1, []), (15, .iaload, 1, []), (16, .iload_n 2, 1, []), (17, .isub, 1, []), (18, .istore_n 3, 1, []), (19, .aload_n 0, 1, []), (20, .getfield 18, 3, []), (23, .iload_n 1, 1, []), (24, .iload_n 2, 1, []), (25, .sipush 28800, 3, [28800]), (28, .iadd, 1, []), (29, .iastore, 1, []), (30, .iload_n 3, 1, []), (31, .ireturn, 1, [])]
theorem hp_X1_startTerm : ∀ q ∈ pg_X1_startTerm, decode cX1_startTerm q.1 = .ok (q.2.1, q.2.2.1) ∧ ztg q.2.1 q.1 q.2.2.1 q.2.2.2 = true := zpg_of (by decide +kernel)
def cs_X1_startTerm : List (Nat × zCall) := [(29, 0, 2, some 2, 0, 0, false, sp_X1_has)]
theorem hcs_X1_startTerm {l : Launch} (hl0 : l.stackTraces = false) : ∀ q ∈ cs_X1_startTerm, zCallable l RX1 2 q := List.forall_mem_cons.mpr ⟨zcV (C := (RX1, TX1, 4)) (ps := [432, 433, 434, 18, 435]) (c_X1_has hl0) (by decide +kernel) rfl ⟨rfl, by decide +kernel, by decide +kernel, by decide +kernel⟩ (by decide) (by decide), fun _ h => absurd h List.not_mem_nil⟩
def th_X1_startTerm : List (Nat × String) := []
theorem hth_X1_startTerm : ∀ q ∈ th_X1_startTerm, zThrow cX1_startTerm RX1 q := fun _ h => absurd h List.not_mem_nil
def kc_X1_startTerm : List (Nat × Int32) := []
theorem hkc_X1_startTerm : ∀ q ∈ kc_X1_startTerm, Cond.constant RX1 q.1 q.2 ∈ zTs := fun _ h => absurd h List.not_mem_nil
def nw_X1_startTerm : List (Nat × Nat × Nat × List Value) := []
theorem hnw_X1_startTerm : ∀ q ∈ nw_X1_startTerm, zNew RX1 q := fun _ h => absurd h List.not_mem_nil
set_option maxHeartbeats 4000000 in
set_option maxRecDepth 20000 in
theorem c_X1_startTerm {l : Launch} (hl0 : l.stackTraces = false) : CT l yX1_startTerm (.code yX1_startTerm cX1_startTerm 4 (some .int)) 2 0 0 false sp_X1_startTerm := by
  refine zCT_of hl0 (own := RX1) fl_RX1 cs_X1_startTerm nw_X1_startTerm th_X1_startTerm kc_X1_startTerm (fun _ => []) false pg_X1_startTerm rfl (by decide +kernel) hp_X1_startTerm ⟨_, _, rfl, rfl⟩ hfl_RX1 (fun h => nomatch h) (hcs_X1_startTerm hl0) hnw_X1_startTerm hth_X1_startTerm (fun _ _ h => absurd h List.not_mem_nil) hkc_X1_startTerm (fun args w Q X v0 hv0 h => ?_)
  obtain ⟨α, ν, r, n, j, y, hn, hν, hj, rfl, rfl, hQ⟩ := h
  refine ⟨Nat.le_of_ble_eq_true rfl, 20, [], ?_, fun q hq => absurd hq List.not_mem_nil⟩
  (conv => whnf)
  refine ⟨α, ν, r, n, _, hn, hν, rfl, rfl, fun _ => ?_, fun c => absurd (vp_in_nI hj (by omega)) c⟩
  (conv => whnf)
  refine And.intro (fun c => absurd c (show ¬ _ from (by decide))) (fun _ => ?_)
  (conv => whnf)
  refine ⟨vp_in_nI (show j < 40 by omega) (by decide), ?_⟩
  (conv => whnf)
  refine ⟨vp_in_nI (show j < 40 by omega) (by decide), ?_⟩
  (conv => whnf)
  rw [nI_clamp (by omega)]
  exact hQ
def sp_X3_count : zSpec := fun args w Q _ => ∃ α ν r, args = [.ref 15] ∧ w = WX α ν r ∧ Q (some (.int (ν 4))) (WX α ν r)
def fl_RX3 : List (Nat × Nat × Nat) := [(9, 4, 0), (15, 4, 1), (18, 4, 2), (21, 4, 3), (25, 4, 4)]
theorem hfl_RX3 : ∀ q ∈ fl_RX3, zFld RX3 q := zfld_of (ps := [119, 120, 121, 122, 123]) (by decide +kernel)
def pg_X3_count : List zE := [(0, .aload_n 0, 1, []), (1, .getfield 21, 3, []), (4, .ireturn, 1, [])]
theorem hp_X3_count : ∀ q ∈ pg_X3_count, decode cX3_count q.1 = .ok (q.2.1, q.2.2.1) ∧ ztg q.2.1 q.1 q.2.2.1 q.2.2.2 = true := zpg_of (by decide +kernel)
def cs_X3_count : List (Nat × zCall) := []
theorem hcs_X3_count {l : Launch} (hl0 : l.stackTraces = false) : ∀ q ∈ cs_X3_count, zCallable l RX3 1 q := fun _ h => absurd h List.not_mem_nil
def th_X3_count : List (Nat × String) := []
theorem hth_X3_count : ∀ q ∈ th_X3_count, zThrow cX3_count RX3 q := fun _ h => absurd h List.not_mem_nil
def kc_X3_count : List (Nat × Int32) := []
theorem hkc_X3_count : ∀ q ∈ kc_X3_count, Cond.constant RX3 q.1 q.2 ∈ zTs := fun _ h => absurd h List.not_mem_nil
def nw_X3_count : List (Nat × Nat × Nat × List Value) := []
theorem hnw_X3_count : ∀ q ∈ nw_X3_count, zNew RX3 q := fun _ h => absurd h List.not_mem_nil
set_option maxHeartbeats 4000000 in
set_option maxRecDepth 20000 in
theorem c_X3_count {l : Launch} (hl0 : l.stackTraces = false) : CT l yX3_count (.code yX3_count cX3_count 1 (some .int)) 1 0 0 false sp_X3_count := by
  refine zCT_of hl0 (own := RX3) fl_RX3 cs_X3_count nw_X3_count th_X3_count kc_X3_count (fun _ => []) false pg_X3_count rfl (by decide +kernel) hp_X3_count ⟨_, _, rfl, rfl⟩ hfl_RX3 (fun h => nomatch h) (hcs_X3_count hl0) hnw_X3_count hth_X3_count (fun _ _ h => absurd h List.not_mem_nil) hkc_X3_count (fun args w Q X v0 hv0 h => ?_)
  obtain ⟨α, ν, r, rfl, rfl, hQ⟩ := h
  refine ⟨Nat.le_of_ble_eq_true rfl, 20, [], ?_, fun q hq => absurd hq List.not_mem_nil⟩
  (conv => whnf)
  exact hQ
def sp_X3_isFull : zSpec := fun args w Q _ => ∃ α ν r n, n ≤ 60 ∧ ν 4 = nI n ∧ args = [.ref 15] ∧ w = WX α ν r ∧ zB Q (n = 60) (WX α ν r)
def pg_X3_isFull : List zE := [(0, .aload_n 0, 1, []), (1, .getfield 21, 3, []), (4, .bipush 60, 2, [60]), (6, .if_icmp .lt 7, 3, [13]), (9, .iconst 1, 1, [1]), (10, .goto 4, 3, [14]), (13, .iconst 0, 1, [0]), (14, .ireturn, 1, [])]
theorem hp_X3_isFull : ∀ q ∈ pg_X3_isFull, decode cX3_isFull q.1 = .ok (q.2.1, q.2.2.1) ∧ ztg q.2.1 q.1 q.2.2.1 q.2.2.2 = true := zpg_of (by decide +kernel)
def cs_X3_isFull : List (Nat × zCall) := []
theorem hcs_X3_isFull {l : Launch} (hl0 : l.stackTraces = false) : ∀ q ∈ cs_X3_isFull, zCallable l RX3 1 q := fun _ h => absurd h List.not_mem_nil
def th_X3_isFull : List (Nat × String) := []
theorem hth_X3_isFull : ∀ q ∈ th_X3_isFull, zThrow cX3_isFull RX3 q := fun _ h => absurd h List.not_mem_nil
def kc_X3_isFull : List (Nat × Int32) := []
theorem hkc_X3_isFull : ∀ q ∈ kc_X3_isFull, Cond.constant RX3 q.1 q.2 ∈ zTs := fun _ h => absurd h List.not_mem_nil
def nw_X3_isFull : List (Nat × Nat × Nat × List Value) := []
theorem hnw_X3_isFull : ∀ q ∈ nw_X3_isFull, zNew RX3 q := fun _ h => absurd h List.not_mem_nil
set_option maxHeartbeats 4000000 in
set_option maxRecDepth 20000 in
theorem c_X3_isFull {l : Launch} (hl0 : l.stackTraces = false) : CT l yX3_isFull (.code yX3_isFull cX3_isFull 1 (some .boolean)) 1 0 0 false sp_X3_isFull := by
  refine zCT_of hl0 (own := RX3) fl_RX3 cs_X3_isFull nw_X3_isFull th_X3_isFull kc_X3_isFull (fun _ => []) false pg_X3_isFull rfl (by decide +kernel) hp_X3_isFull ⟨_, _, rfl, rfl⟩ hfl_RX3 (fun h => nomatch h) (hcs_X3_isFull hl0) hnw_X3_isFull hth_X3_isFull (fun _ _ h => absurd h List.not_mem_nil) hkc_X3_isFull (fun args w Q X v0 hv0 h => ?_)
  obtain ⟨α, ν, r, n, hn, hν, rfl, rfl, h1, h2⟩ := h
  refine ⟨Nat.le_of_ble_eq_true rfl, 20, [], ?_, fun q hq => absurd hq List.not_mem_nil⟩
  (conv => whnf)
  rw [hν]
  refine And.intro (fun c => ?_) (fun c => ?_)
  · (conv => whnf)
    exact ⟨Or.inl rfl, h2 (fun e => by subst e; exact absurd c (by decide))⟩
  · (conv => whnf)
    refine ⟨Or.inr rfl, h1 ?_⟩
    apply Classical.byContradiction
    intro e
    exact c (nI_lt (show n < 60 by omega) (by decide))
def sp_X3_has : zSpec := fun args w Q _ => ∃ α ν r n x, n ≤ 60 ∧ ν 4 = nI n ∧ args = [.ref 15, .int x] ∧ w = WX α ν r ∧ zB Q (vp_in x n) (WX α ν r)
def pg_X3_has : List zE := [(0, .iload_n 1, 1, []), (1, .ifCond .lt 21, 3, [22]), (4, .iload_n 1, 1, []), (5, .aload_n 0, 1, []), (6, .getfield 21, 3, []), (9, .if_icmp .ge 13, 3, [22]), (12, .iload_n 1, 1, []), (13, .bipush 60, 2, [60]), (15, .if_icmp .ge 7, 3, [22]), (18, .iconst 1, 1, [1]), (19, .goto 4, 3, [23]), (22, .iconst 0, 1, [0]), (23, .ireturn, 1, [])]
theorem hp_X3_has : ∀ q ∈ pg_X3_has, decode cX3_has q.1 = .ok (q.2.1, q.2.2.1) ∧ ztg q.2.1 q.1 q.2.2.1 q.2.2.2 = true := zpg_of (by decide +kernel)
def cs_X3_has : List (Nat × zCall) := []
theorem hcs_X3_has {l : Launch} (hl0 : l.stackTraces = false) : ∀ q ∈ cs_X3_has, zCallable l RX3 1 q := fun _ h => absurd h List.not_mem_nil
def th_X3_has : List (Nat × String) := []
theorem hth_X3_has : ∀ q ∈ th_X3_has, zThrow cX3_has RX3 q := fun _ h => absurd h List.not_mem_nil
def kc_X3_has : List (Nat × Int32) := []
theorem hkc_X3_has : ∀ q ∈ kc_X3_has, Cond.constant RX3 q.1 q.2 ∈ zTs := fun _ h => absurd h List.not_mem_nil
def nw_X3_has : List (Nat × Nat × Nat × List Value) := []
theorem hnw_X3_has : ∀ q ∈ nw_X3_has, zNew RX3 q := fun _ h => absurd h List.not_mem_nil
set_option maxHeartbeats 4000000 in
set_option maxRecDepth 20000 in
theorem c_X3_has {l : Launch} (hl0 : l.stackTraces = false) : CT l yX3_has (.code yX3_has cX3_has 2 (some .boolean)) 1 0 0 false sp_X3_has := by
  refine zCT_of hl0 (own := RX3) fl_RX3 cs_X3_has nw_X3_has th_X3_has kc_X3_has (fun _ => []) false pg_X3_has rfl (by decide +kernel) hp_X3_has ⟨_, _, rfl, rfl⟩ hfl_RX3 (fun h => nomatch h) (hcs_X3_has hl0) hnw_X3_has hth_X3_has (fun _ _ h => absurd h List.not_mem_nil) hkc_X3_has (fun args w Q X v0 hv0 h => ?_)
  obtain ⟨α, ν, r, n, x, hn, hν, rfl, rfl, h1, h2⟩ := h
  refine ⟨Nat.le_of_ble_eq_true rfl, 20, [], ?_, fun q hq => absurd hq List.not_mem_nil⟩
  (conv => whnf)
  refine And.intro (fun c => ?_) (fun c => ?_) <;> dsimp only at c
  · (conv => whnf); exact ⟨Or.inl rfl, h2 (vp_in_neg c)⟩
  · obtain ⟨j, hj, rfl⟩ := nI_of c
    (conv => whnf)
    rw [hν]
    refine And.intro (fun d => ?_) (fun d => ?_)
    · have hlt : j < n := (nI_ltI (by omega) (by omega)).mp d
      (conv => whnf)
      refine And.intro (fun _ => ?_) (fun c => absurd (show _ from (nI_lt (show j < 60 by omega) (by decide))) c)
      (conv => whnf)
      exact ⟨Or.inr rfl, h1 (vp_in_nI hlt (by omega))⟩
    · (conv => whnf); exact ⟨Or.inl rfl, h2 (vp_in_nlt (by omega) d)⟩
def sp_X3_isFinder : zSpec := fun args w Q _ => ∃ x, args = [.int x] ∧ zB Q (vp_in x 6) w
def pg_X3_isFinder : List zE := [(0, .iload_n 0, 1, []), (1, .ifCond .lt 13, 3, [14]), (4, .iload_n 0, 1, []), (5, .bipush 6, 2, [6]), (7, .if_icmp .ge 7, 3, [14]), (10, .iconst 1, 1, [1]), (11, .goto 4, 3, [15]), (14, .iconst 0, 1, [0]), (15, .ireturn, 1, [])]
theorem hp_X3_isFinder : ∀ q ∈ pg_X3_isFinder, decode cX3_isFinder q.1 = .ok (q.2.1, q.2.2.1) ∧ ztg q.2.1 q.1 q.2.2.1 q.2.2.2 = true := zpg_of (by decide +kernel)
def cs_X3_isFinder : List (Nat × zCall) := []
theorem hcs_X3_isFinder {l : Launch} (hl0 : l.stackTraces = false) : ∀ q ∈ cs_X3_isFinder, zCallable l RX3 1 q := fun _ h => absurd h List.not_mem_nil
def th_X3_isFinder : List (Nat × String) := []
theorem hth_X3_isFinder : ∀ q ∈ th_X3_isFinder, zThrow cX3_isFinder RX3 q := fun _ h => absurd h List.not_mem_nil
def kc_X3_isFinder : List (Nat × Int32) := []
theorem hkc_X3_isFinder : ∀ q ∈ kc_X3_isFinder, Cond.constant RX3 q.1 q.2 ∈ zTs := fun _ h => absurd h List.not_mem_nil
def nw_X3_isFinder : List (Nat × Nat × Nat × List Value) := []
theorem hnw_X3_isFinder : ∀ q ∈ nw_X3_isFinder, zNew RX3 q := fun _ h => absurd h List.not_mem_nil
set_option maxHeartbeats 4000000 in
set_option maxRecDepth 20000 in
theorem c_X3_isFinder {l : Launch} (hl0 : l.stackTraces = false) : CT l yX3_isFinder (.code yX3_isFinder cX3_isFinder 1 (some .boolean)) 1 0 0 false sp_X3_isFinder := by
  refine zCT_of hl0 (own := RX3) fl_RX3 cs_X3_isFinder nw_X3_isFinder th_X3_isFinder kc_X3_isFinder (fun _ => []) false pg_X3_isFinder rfl (by decide +kernel) hp_X3_isFinder ⟨_, _, rfl, rfl⟩ hfl_RX3 (fun h => nomatch h) (hcs_X3_isFinder hl0) hnw_X3_isFinder hth_X3_isFinder (fun _ _ h => absurd h List.not_mem_nil) hkc_X3_isFinder (fun args w Q X v0 hv0 h => ?_)
  obtain ⟨x, rfl, h1, h2⟩ := h
  refine ⟨Nat.le_of_ble_eq_true rfl, 20, [], ?_, fun q hq => absurd hq List.not_mem_nil⟩
  (conv => whnf)
  refine And.intro (fun c => ?_) (fun c => ?_) <;> dsimp only at c
  · (conv => whnf); exact ⟨Or.inl rfl, h2 (vp_in_neg c)⟩
  · (conv => whnf)
    refine And.intro (fun d => ?_) (fun d => ?_) <;> dsimp only at d
    · (conv => whnf); exact ⟨Or.inr rfl, h1 (vp_in_lt (by decide) c d)⟩
    · (conv => whnf); exact ⟨Or.inl rfl, h2 (vp_in_nlt (by decide) d)⟩
/-- what the law keeps -/
def zlp (v : Nat) (name : Int32) : Nat := if name = nI 2 then (v + 1) / 2 else if name = nI 3 then (v + 9) / 10 else (v + 3) / 4
theorem zlp_2 {v : Nat} {name : Int32} (h : name = nI 2) : zlp v name = (v + 1) / 2 := if_pos h
theorem zlp_3 {v : Nat} {name : Int32} (h2 : ¬ name = nI 2) (h : name = nI 3) : zlp v name = (v + 9) / 10 := (if_neg h2).trans (if_pos h)
theorem zlp_n {v : Nat} {name : Int32} (h2 : ¬ name = nI 2) (h : ¬ name = nI 3) : zlp v name = (v + 3) / 4 := (if_neg h2).trans (if_neg h)
def sp_X3_lawsPart : zSpec := fun args w Q _ => ∃ v name, v ≤ 100000 ∧ args = [.int (nI v), .int name] ∧ Q (some (.int (nI (zlp v name)))) w
def pg_X3_lawsPart : List zE := [(0, .iload_n 1, 1, []), (1, .lookupswitch 41 #[(2, 27), (3, 33)], 27, [42, 28, 34]), (28, .iload_n 0, 1, []), (29, .iconst 1, 1, [1]), (30, .iadd, 1, []), (31, .iconst 2, 1, [2]), (32, .idiv, 1, []), (33, .ireturn, 1, []), (34, .iload_n 0, 1, []), (35, .bipush 9, 2, [9]), (37, .iadd, 1, []), (38, .bipush 10, 2, [10]), (40, .idiv, 1, []), (41, .ireturn, 1, []), (42, .iload_n 0, 1, []), (43, .iconst 3, 1, [3]), (44, .iadd, 1, []), (45, .iconst 4, 1, [4]), (46, .idiv, 1, []), (47, .ireturn, 1, [])]
theorem hp_X3_lawsPart : ∀ q ∈ pg_X3_lawsPart, decode cX3_lawsPart q.1 = .ok (q.2.1, q.2.2.1) ∧ ztg q.2.1 q.1 q.2.2.1 q.2.2.2 = true := zpg_of (by decide +kernel)
def cs_X3_lawsPart : List (Nat × zCall) := []
theorem hcs_X3_lawsPart {l : Launch} (hl0 : l.stackTraces = false) : ∀ q ∈ cs_X3_lawsPart, zCallable l RX3 1 q := fun _ h => absurd h List.not_mem_nil
def th_X3_lawsPart : List (Nat × String) := []
theorem hth_X3_lawsPart : ∀ q ∈ th_X3_lawsPart, zThrow cX3_lawsPart RX3 q := fun _ h => absurd h List.not_mem_nil
def kc_X3_lawsPart : List (Nat × Int32) := []
theorem hkc_X3_lawsPart : ∀ q ∈ kc_X3_lawsPart, Cond.constant RX3 q.1 q.2 ∈ zTs := fun _ h => absurd h List.not_mem_nil
def nw_X3_lawsPart : List (Nat × Nat × Nat × List Value) := []
theorem hnw_X3_lawsPart : ∀ q ∈ nw_X3_lawsPart, zNew RX3 q := fun _ h => absurd h List.not_mem_nil
set_option maxHeartbeats 4000000 in
set_option maxRecDepth 20000 in
theorem c_X3_lawsPart {l : Launch} (hl0 : l.stackTraces = false) : CT l yX3_lawsPart (.code yX3_lawsPart cX3_lawsPart 2 (some .int)) 1 0 0 false sp_X3_lawsPart := by
  refine zCT_of hl0 (own := RX3) fl_RX3 cs_X3_lawsPart nw_X3_lawsPart th_X3_lawsPart kc_X3_lawsPart (fun _ => []) false pg_X3_lawsPart rfl (by decide +kernel) hp_X3_lawsPart ⟨_, _, rfl, rfl⟩ hfl_RX3 (fun h => nomatch h) (hcs_X3_lawsPart hl0) hnw_X3_lawsPart hth_X3_lawsPart (fun _ _ h => absurd h List.not_mem_nil) hkc_X3_lawsPart (fun args w Q X v0 hv0 h => ?_)
  obtain ⟨v, name, hv, rfl, hQ⟩ := h
  refine ⟨Nat.le_of_ble_eq_true rfl, 20, [], ?_, fun q hq => absurd hq List.not_mem_nil⟩
  (conv => whnf)
  refine And.intro (fun c => ?_) (fun c => ?_)
  · (conv => whnf)
    refine ⟨by decide, ?_⟩
    (conv => whnf)
    dsimp only [zkon]
    rw [nI_add, pk_div (by omega) (by omega) (by omega), ← zlp_2 c]
    exact hQ
  · refine And.intro (fun d => ?_) (fun d => ?_)
    · (conv => whnf)
      refine ⟨by decide, ?_⟩
      (conv => whnf)
      dsimp only [zkon]
      rw [nI_add, pk_div (by omega) (by omega) (by omega), ← zlp_3 c d]
      exact hQ
    · (conv => whnf)
      refine ⟨by decide, ?_⟩
      (conv => whnf)
      dsimp only [zkon]
      rw [nI_add, pk_div (by omega) (by omega) (by omega), ← zlp_n c d]
      exact hQ
/-- what a share does: to the rewards and to the law's sum -/
def sp_X3_share : zSpec := fun args w Q _ => ∃ α ν r x v name, v ≤ 100000 ∧ args = [.ref 15, .int x, .int (nI v), .int name] ∧ w = WX α ν r ∧
  (∀ j, j < 6 → x = nI j → Q none (WX (zu α 13 (upd (α 13) j (α 13 j + (nI v - nI (zlp v name))))) (zu ν 5 (ν 5 + nI (zlp v name))) r)) ∧
  ((¬ vp_in x 6) → Q none (WX α (zu ν 5 (ν 5 + nI v)) r))
def pg_X3_share : List zE := [(0, .iload_n 1, 1, []), (1, .invokestatic 36, 3, []), (4, .ifCond .eq 37, 3, [41]), (7, .iload_n 2, 1, []), (8, .iload_n 3, 1, []), (9, .invokestatic 40, 3, []), (12, .istore 4, 2, []), (14, .aload_n 0, 1, []), (15, .dup, 1, []), (16, .getfield 25, 3, []), (19, .iload 4, 2, []), (21, .iadd, 1, []), (22, .putfield 25, 3, []), (25, .aload_n 0, 1, []), (26, .getfield 18, 3, []), (29, .iload_n 1, 1, []), (30, .dup2, 1, []), (31, .iaload, 1, []), (32, .iload_n 2, 1, []), (33, .iload 4, 2, []), (35, .isub, 1, []), (36, .iadd, 1, []), (37, .iastore, 1, []), (38, .goto 13, 3, [51]), (41, .aload_n 0, 1, []), (42, .dup, 1, []), (43, .getfield 25, 3, []), (46, .iload_n 2, 1, []), (47, .iadd, 1, []), (48, .putfield 25, 3, []), (51, .return_, 1, [])]
theorem hp_X3_share : ∀ q ∈ pg_X3_share, decode cX3_share q.1 = .ok (q.2.1, q.2.2.1) ∧ ztg q.2.1 q.1 q.2.2.1 q.2.2.2 = true := zpg_of (by decide +kernel)
def cs_X3_share : List (Nat × zCall) := [(36, 1, 1, none, 0, 0, false, sp_X3_isFinder), (40, 1, 2, none, 0, 0, false, sp_X3_lawsPart)]
theorem hcs_X3_share {l : Launch} (hl0 : l.stackTraces = false) : ∀ q ∈ cs_X3_share, zCallable l RX3 2 q := List.forall_mem_cons.mpr ⟨zcS (ps := [564, 565, 19, 566]) (c_X3_isFinder hl0) (by decide +kernel) ⟨by decide +kernel, by decide +kernel, by decide +kernel⟩ (by decide) (by decide), List.forall_mem_cons.mpr ⟨zcS (ps := [567, 568, 19, 569]) (c_X3_lawsPart hl0) (by decide +kernel) ⟨by decide +kernel, by decide +kernel, by decide +kernel⟩ (by decide) (by decide), fun _ h => absurd h List.not_mem_nil⟩⟩
def th_X3_share : List (Nat × String) := []
theorem hth_X3_share : ∀ q ∈ th_X3_share, zThrow cX3_share RX3 q := fun _ h => absurd h List.not_mem_nil
def kc_X3_share : List (Nat × Int32) := []
theorem hkc_X3_share : ∀ q ∈ kc_X3_share, Cond.constant RX3 q.1 q.2 ∈ zTs := fun _ h => absurd h List.not_mem_nil
def nw_X3_share : List (Nat × Nat × Nat × List Value) := []
theorem hnw_X3_share : ∀ q ∈ nw_X3_share, zNew RX3 q := fun _ h => absurd h List.not_mem_nil
set_option maxHeartbeats 4000000 in
set_option maxRecDepth 20000 in
theorem c_X3_share {l : Launch} (hl0 : l.stackTraces = false) : CT l yX3_share (.code yX3_share cX3_share 5 none) 2 0 0 false sp_X3_share := by
  refine zCT_of hl0 (own := RX3) fl_RX3 cs_X3_share nw_X3_share th_X3_share kc_X3_share (fun _ => []) false pg_X3_share rfl (by decide +kernel) hp_X3_share ⟨_, _, rfl, rfl⟩ hfl_RX3 (fun h => nomatch h) (hcs_X3_share hl0) hnw_X3_share hth_X3_share (fun _ _ h => absurd h List.not_mem_nil) hkc_X3_share (fun args w Q X v0 hv0 h => ?_)
  obtain ⟨α, ν, r, x, v, name, hv, rfl, rfl, h1, h2⟩ := h
  refine ⟨Nat.le_of_ble_eq_true rfl, 60, [], ?_, fun q hq => absurd hq List.not_mem_nil⟩
  (conv => whnf)
  refine ⟨_, rfl, fun c => ?_, fun c => ?_⟩
  · obtain ⟨j, hj, rfl⟩ := vp_in_of c (by decide)
    (conv => whnf)
    refine And.intro (fun c => absurd c (show ¬ _ from (by decide))) (fun _ => ?_)
    (conv => whnf)
    refine ⟨v, name, hv, rfl, ?_⟩
    (conv => whnf)
    refine ⟨vp_in_nI hj (by decide), ?_⟩
    (conv => whnf)
    refine ⟨vp_in_nI hj (by decide), ?_⟩
    (conv => whnf)
    rw [nI_clamp (by omega)]
    exact h1 j hj rfl
  · (conv => whnf)
    refine And.intro (fun _ => ?_) (fun c => absurd (show _ from rfl) c)
    (conv => whnf)
    exact h2 c
def sp_X3_enter : zSpec := fun args w Q _ => ∃ α ν r n s x v name, n < 60 ∧ ν 4 = nI n ∧ v ≤ 100000 ∧ args = [.ref 15, .int s, .int x, .int (nI v), .int name] ∧ w = WX α ν r ∧
  (∀ j, j < 6 → x = nI j → Q (some (.int (nI n))) (WX (zu (zu (zu α 11 (upd (α 11) n s)) 12 (upd (α 12) n x)) 13 (upd (α 13) j (α 13 j + (nI v - nI (zlp v name))))) (zu (zu ν 4 (nI (n + 1))) 5 (ν 5 + nI (zlp v name))) r)) ∧
  ((¬ vp_in x 6) → Q (some (.int (nI n))) (WX (zu (zu α 11 (upd (α 11) n s)) 12 (upd (α 12) n x)) (zu (zu ν 4 (nI (n + 1))) 5 (ν 5 + nI v)) r))
def pg_X3_enter : List zE := [(0, .aload_n 0, 1, []), (1, .invokevirtual 28, 3, []), (4, .ifCond .eq 5, 3, [9]), (7, .iconst (-1), 1, []), (8, .ireturn, 1, []), (9, .aload_n 0, 1, []), (10, .getfield 21, 3, []), (13, .istore 5, 2, []), (15, .aload_n 0, 1, []), (16, .getfield 9, 3, []), (19, .iload 5, 2, []), (21, .iload_n 1, 1, []), (22, .iastore, 1, []), (23, .aload_n 0, 1, []), (24, .getfield 15, 3, []), (27, .iload 5, 2, []), (29, .iload_n 2, 1, []), (30, .iastore, 1, []), (31, .aload_n 0, 1, []), (32, .dup, 1, []), (33, .getfield 21, 3, []), (36, .iconst 1, 1, [1]), (37, .iadd, 1, []), (38, .putfield 21, 3, []), (41, .aload_n 0, 1, []), (42, .iload_n 2, 1, []), (43, .iload_n 3, 1, []), (44, .iload 4, 2, []), (46, .invokevirtual 32, 3, []), (49, .iload 5, 2, []), (51, .ireturn, 1, [])]
theorem hp_X3_enter : ∀ q ∈ pg_X3_enter, decode cX3_enter q.1 = .ok (q.2.1, q.2.2.1) ∧ ztg q.2.1 q.1 q.2.2.1 q.2.2.2 = true := zpg_of (by decide +kernel)
def cs_X3_enter : List (Nat × zCall) := [(28, 0, 1, some 4, 0, 0, false, sp_X3_isFull), (32, 0, 4, some 4, 0, 0, false, sp_X3_share)]
theorem hcs_X3_enter {l : Launch} (hl0 : l.stackTraces = false) : ∀ q ∈ cs_X3_enter, zCallable l RX3 3 q := List.forall_mem_cons.mpr ⟨zcV (C := (RX3, TX3, 5)) (ps := [559, 551, 552, 19, 553]) (c_X3_isFull hl0) (by decide +kernel) rfl ⟨rfl, by decide +kernel, by decide +kernel, by decide +kernel⟩ (by decide) (by decide), List.forall_mem_cons.mpr ⟨zcV (C := (RX3, TX3, 5)) (ps := [560, 562, 11, 19, 563]) (c_X3_share hl0) (by decide +kernel) rfl ⟨rfl, by decide +kernel, by decide +kernel, by decide +kernel⟩ (by decide) (by decide), fun _ h => absurd h List.not_mem_nil⟩⟩
def th_X3_enter : List (Nat × String) := []
theorem hth_X3_enter : ∀ q ∈ th_X3_enter, zThrow cX3_enter RX3 q := fun _ h => absurd h List.not_mem_nil
def kc_X3_enter : List (Nat × Int32) := []
theorem hkc_X3_enter : ∀ q ∈ kc_X3_enter, Cond.constant RX3 q.1 q.2 ∈ zTs := fun _ h => absurd h List.not_mem_nil
def nw_X3_enter : List (Nat × Nat × Nat × List Value) := []
theorem hnw_X3_enter : ∀ q ∈ nw_X3_enter, zNew RX3 q := fun _ h => absurd h List.not_mem_nil
set_option maxHeartbeats 4000000 in
set_option maxRecDepth 20000 in
theorem c_X3_enter {l : Launch} (hl0 : l.stackTraces = false) : CT l yX3_enter (.code yX3_enter cX3_enter 6 (some .int)) 3 0 0 false sp_X3_enter := by
  refine zCT_of hl0 (own := RX3) fl_RX3 cs_X3_enter nw_X3_enter th_X3_enter kc_X3_enter (fun _ => []) false pg_X3_enter rfl (by decide +kernel) hp_X3_enter ⟨_, _, rfl, rfl⟩ hfl_RX3 (fun h => nomatch h) (hcs_X3_enter hl0) hnw_X3_enter hth_X3_enter (fun _ _ h => absurd h List.not_mem_nil) hkc_X3_enter (fun args w Q X v0 hv0 h => ?_)
  obtain ⟨α, ν, r, n, s, x, v, name, hn, hν, hv, rfl, rfl, h1, h2⟩ := h
  refine ⟨Nat.le_of_ble_eq_true rfl, 60, [], ?_, fun q hq => absurd hq List.not_mem_nil⟩
  (conv => whnf)
  refine ⟨α, ν, r, n, by omega, hν, rfl, rfl, fun c => absurd c (by omega), fun _ => ?_⟩
  (conv => whnf)
  refine And.intro (fun _ => ?_) (fun c => absurd (show _ from rfl) c)
  (conv => whnf)
  rw [hν]
  refine ⟨vp_in_nI hn (by decide), ?_⟩
  (conv => whnf)
  refine ⟨vp_in_nI hn (by decide), ?_⟩
  (conv => whnf)
  refine ⟨zu (zu α 11 (upd (α 11) n s)) 12 (upd (α 12) n x), zu ν 4 (nI (n + 1)), r, x, v, name, hv, rfl, ?_, fun j hj e => ?_, fun c => ?_⟩
  · rw [nI_clamp (by omega)]
    dsimp only [zkon]
    rw [hν, nI_add]
    rfl
  · (conv => whnf)
    exact h1 j hj e
  · (conv => whnf)
    exact h2 c
def sp_X3_shapeBehind : zSpec := fun args w Q _ => ∃ α ν r n j, n ≤ 60 ∧ ν 4 = nI n ∧ j < n ∧ args = [.ref 15, .int (nI j)] ∧ w = WX α ν r ∧ Q (some (.int (α 11 j))) (WX α ν r)
def pg_X3_shapeBehind : List zE := [(0, .aload_n 0, 1, []), (1, .iload_n 1, 1, []), (2, .invokevirtual 44, 3, []), (5, .ifCond .eq 12, 3, [17]), (8, .aload_n 0, 1, []), (9, .getfield 9, 3, []), (12, .iload_n 1, 1, []), (13, .iaload, 1, []), (14, .goto 4, 3, [18]), (17, .iconst (-1), 1, []), (18, .ireturn, 1, [])]
theorem hp_X3_shapeBehind : ∀ q ∈ pg_X3_shapeBehind, decode cX3_shapeBehind q.1 = .ok (q.2.1, q.2.2.1) ∧ ztg q.2.1 q.1 q.2.2.1 q.2.2.2 = true := zpg_of (by decide +kernel)
def cs_X3_shapeBehind : List (Nat × zCall) := [(44, 0, 2, some 4, 0, 0, false, sp_X3_has)]
theorem hcs_X3_shapeBehind {l : Launch} (hl0 : l.stackTraces = false) : ∀ q ∈ cs_X3_shapeBehind, zCallable l RX3 2 q := List.forall_mem_cons.mpr ⟨zcV (C := (RX3, TX3, 5)) (ps := [487, 479, 480, 19, 481]) (c_X3_has hl0) (by decide +kernel) rfl ⟨rfl, by decide +kernel, by decide +kernel, by decide +kernel⟩ (by decide) (by decide), fun _ h => absurd h List.not_mem_nil⟩
def th_X3_shapeBehind : List (Nat × String) := []
theorem hth_X3_shapeBehind : ∀ q ∈ th_X3_shapeBehind, zThrow cX3_shapeBehind RX3 q := fun _ h => absurd h List.not_mem_nil
def kc_X3_shapeBehind : List (Nat × Int32) := []
theorem hkc_X3_shapeBehind : ∀ q ∈ kc_X3_shapeBehind, Cond.constant RX3 q.1 q.2 ∈ zTs := fun _ h => absurd h List.not_mem_nil
def nw_X3_shapeBehind : List (Nat × Nat × Nat × List Value) := []
theorem hnw_X3_shapeBehind : ∀ q ∈ nw_X3_shapeBehind, zNew RX3 q := fun _ h => absurd h List.not_mem_nil
set_option maxHeartbeats 4000000 in
set_option maxRecDepth 20000 in
theorem c_X3_shapeBehind {l : Launch} (hl0 : l.stackTraces = false) : CT l yX3_shapeBehind (.code yX3_shapeBehind cX3_shapeBehind 2 (some .int)) 2 0 0 false sp_X3_shapeBehind := by
  refine zCT_of hl0 (own := RX3) fl_RX3 cs_X3_shapeBehind nw_X3_shapeBehind th_X3_shapeBehind kc_X3_shapeBehind (fun _ => []) false pg_X3_shapeBehind rfl (by decide +kernel) hp_X3_shapeBehind ⟨_, _, rfl, rfl⟩ hfl_RX3 (fun h => nomatch h) (hcs_X3_shapeBehind hl0) hnw_X3_shapeBehind hth_X3_shapeBehind (fun _ _ h => absurd h List.not_mem_nil) hkc_X3_shapeBehind (fun args w Q X v0 hv0 h => ?_)
  obtain ⟨α, ν, r, n, j, hn, hν, hj, rfl, rfl, hQ⟩ := h
  refine ⟨Nat.le_of_ble_eq_true rfl, 20, [], ?_, fun q hq => absurd hq List.not_mem_nil⟩
  (conv => whnf)
  refine ⟨α, ν, r, n, _, hn, hν, rfl, rfl, fun _ => ?_, fun c => absurd (vp_in_nI hj (by omega)) c⟩
  (conv => whnf)
  refine And.intro (fun c => absurd c (show ¬ _ from (by decide))) (fun _ => ?_)
  (conv => whnf)
  refine ⟨vp_in_nI (show j < 60 by omega) (by decide), ?_⟩
  (conv => whnf)
  rw [nI_clamp (by omega)]
  exact hQ
def sp_X3_finderBehind : zSpec := fun args w Q _ => ∃ α ν r n j, n ≤ 60 ∧ ν 4 = nI n ∧ j < n ∧ args = [.ref 15, .int (nI j)] ∧ w = WX α ν r ∧ Q (some (.int (α 12 j))) (WX α ν r)
def pg_X3_finderBehind : List zE := [(0, .aload_n 0, 1, []), (1, .iload_n 1, 1, []), (2, .invokevirtual 44, 3, []), (5, .ifCond .eq 12, 3, [17]), (8, .aload_n 0, 1, []), (9, .getfield 15, 3, []), (12, .iload_n 1, 1, []), (13, .iaload, 1, []), (14, .goto 4, 3, [18]), (17, .iconst (-1), 1, []), (18, .ireturn, 1, [])]
theorem hp_X3_finderBehind : ∀ q ∈ pg_X3_finderBehind, decode cX3_finderBehind q.1 = .ok (q.2.1, q.2.2.1) ∧ ztg q.2.1 q.1 q.2.2.1 q.2.2.2 = true := zpg_of (by decide +kernel)
def cs_X3_finderBehind : List (Nat × zCall) := [(44, 0, 2, some 4, 0, 0, false, sp_X3_has)]
theorem hcs_X3_finderBehind {l : Launch} (hl0 : l.stackTraces = false) : ∀ q ∈ cs_X3_finderBehind, zCallable l RX3 2 q := List.forall_mem_cons.mpr ⟨zcV (C := (RX3, TX3, 5)) (ps := [487, 479, 480, 19, 481]) (c_X3_has hl0) (by decide +kernel) rfl ⟨rfl, by decide +kernel, by decide +kernel, by decide +kernel⟩ (by decide) (by decide), fun _ h => absurd h List.not_mem_nil⟩
def th_X3_finderBehind : List (Nat × String) := []
theorem hth_X3_finderBehind : ∀ q ∈ th_X3_finderBehind, zThrow cX3_finderBehind RX3 q := fun _ h => absurd h List.not_mem_nil
def kc_X3_finderBehind : List (Nat × Int32) := []
theorem hkc_X3_finderBehind : ∀ q ∈ kc_X3_finderBehind, Cond.constant RX3 q.1 q.2 ∈ zTs := fun _ h => absurd h List.not_mem_nil
def nw_X3_finderBehind : List (Nat × Nat × Nat × List Value) := []
theorem hnw_X3_finderBehind : ∀ q ∈ nw_X3_finderBehind, zNew RX3 q := fun _ h => absurd h List.not_mem_nil
set_option maxHeartbeats 4000000 in
set_option maxRecDepth 20000 in
theorem c_X3_finderBehind {l : Launch} (hl0 : l.stackTraces = false) : CT l yX3_finderBehind (.code yX3_finderBehind cX3_finderBehind 2 (some .int)) 2 0 0 false sp_X3_finderBehind := by
  refine zCT_of hl0 (own := RX3) fl_RX3 cs_X3_finderBehind nw_X3_finderBehind th_X3_finderBehind kc_X3_finderBehind (fun _ => []) false pg_X3_finderBehind rfl (by decide +kernel) hp_X3_finderBehind ⟨_, _, rfl, rfl⟩ hfl_RX3 (fun h => nomatch h) (hcs_X3_finderBehind hl0) hnw_X3_finderBehind hth_X3_finderBehind (fun _ _ h => absurd h List.not_mem_nil) hkc_X3_finderBehind (fun args w Q X v0 hv0 h => ?_)
  obtain ⟨α, ν, r, n, j, hn, hν, hj, rfl, rfl, hQ⟩ := h
  refine ⟨Nat.le_of_ble_eq_true rfl, 20, [], ?_, fun q hq => absurd hq List.not_mem_nil⟩
  (conv => whnf)
  refine ⟨α, ν, r, n, _, hn, hν, rfl, rfl, fun _ => ?_, fun c => absurd (vp_in_nI hj (by omega)) c⟩
  (conv => whnf)
  refine And.intro (fun c => absurd c (show ¬ _ from (by decide))) (fun _ => ?_)
  (conv => whnf)
  refine ⟨vp_in_nI (show j < 60 by omega) (by decide), ?_⟩
  (conv => whnf)
  rw [nI_clamp (by omega)]
  exact hQ
def sp_X3_rewardOf : zSpec := fun args w Q _ => ∃ α ν r j, j < 6 ∧ args = [.ref 15, .int (nI j)] ∧ w = WX α ν r ∧ Q (some (.int (α 13 j))) (WX α ν r)
def pg_X3_rewardOf : List zE := [(0, .iload_n 1, 1, []), (1, .invokestatic 36, 3, []), (4, .ifCond .eq 12, 3, [16]), (7, .aload_n 0, 1, []), (8, .getfield 18, 3, []), (11, .iload_n 1, 1, []), (12, .iaload, 1, []), (13, .goto 4, 3, [17]), (16, .iconst 0, 1, [0]), (17, .ireturn, 1, [])]
theorem hp_X3_rewardOf : ∀ q ∈ pg_X3_rewardOf, decode cX3_rewardOf q.1 = .ok (q.2.1, q.2.2.1) ∧ ztg q.2.1 q.1 q.2.2.1 q.2.2.2 = true := zpg_of (by decide +kernel)
def cs_X3_rewardOf : List (Nat × zCall) := [(36, 1, 1, none, 0, 0, false, sp_X3_isFinder)]
theorem hcs_X3_rewardOf {l : Launch} (hl0 : l.stackTraces = false) : ∀ q ∈ cs_X3_rewardOf, zCallable l RX3 2 q := List.forall_mem_cons.mpr ⟨zcS (ps := [564, 565, 19, 566]) (c_X3_isFinder hl0) (by decide +kernel) ⟨by decide +kernel, by decide +kernel, by decide +kernel⟩ (by decide) (by decide), fun _ h => absurd h List.not_mem_nil⟩
def th_X3_rewardOf : List (Nat × String) := []
theorem hth_X3_rewardOf : ∀ q ∈ th_X3_rewardOf, zThrow cX3_rewardOf RX3 q := fun _ h => absurd h List.not_mem_nil
def kc_X3_rewardOf : List (Nat × Int32) := []
theorem hkc_X3_rewardOf : ∀ q ∈ kc_X3_rewardOf, Cond.constant RX3 q.1 q.2 ∈ zTs := fun _ h => absurd h List.not_mem_nil
def nw_X3_rewardOf : List (Nat × Nat × Nat × List Value) := []
theorem hnw_X3_rewardOf : ∀ q ∈ nw_X3_rewardOf, zNew RX3 q := fun _ h => absurd h List.not_mem_nil
set_option maxHeartbeats 4000000 in
set_option maxRecDepth 20000 in
theorem c_X3_rewardOf {l : Launch} (hl0 : l.stackTraces = false) : CT l yX3_rewardOf (.code yX3_rewardOf cX3_rewardOf 2 (some .int)) 2 0 0 false sp_X3_rewardOf := by
  refine zCT_of hl0 (own := RX3) fl_RX3 cs_X3_rewardOf nw_X3_rewardOf th_X3_rewardOf kc_X3_rewardOf (fun _ => []) false pg_X3_rewardOf rfl (by decide +kernel) hp_X3_rewardOf ⟨_, _, rfl, rfl⟩ hfl_RX3 (fun h => nomatch h) (hcs_X3_rewardOf hl0) hnw_X3_rewardOf hth_X3_rewardOf (fun _ _ h => absurd h List.not_mem_nil) hkc_X3_rewardOf (fun args w Q X v0 hv0 h => ?_)
  obtain ⟨α, ν, r, j, hj, rfl, rfl, hQ⟩ := h
  refine ⟨Nat.le_of_ble_eq_true rfl, 20, [], ?_, fun q hq => absurd hq List.not_mem_nil⟩
  (conv => whnf)
  refine ⟨_, rfl, fun _ => ?_, fun c => absurd (vp_in_nI hj (by decide)) c⟩
  (conv => whnf)
  refine And.intro (fun c => absurd c (show ¬ _ from (by decide))) (fun _ => ?_)
  (conv => whnf)
  refine ⟨vp_in_nI hj (by decide), ?_⟩
  (conv => whnf)
  rw [nI_clamp (by omega)]
  exact hQ
def sp_X3_keptByLaw : zSpec := fun args w Q _ => ∃ α ν r, args = [.ref 15] ∧ w = WX α ν r ∧ Q (some (.int (ν 5))) (WX α ν r)
def pg_X3_keptByLaw : List zE := [(0, .aload_n 0, 1, []), (1, .getfield 25, 3, []), (4, .ireturn, 1, [])]
theorem hp_X3_keptByLaw : ∀ q ∈ pg_X3_keptByLaw, decode cX3_keptByLaw q.1 = .ok (q.2.1, q.2.2.1) ∧ ztg q.2.1 q.1 q.2.2.1 q.2.2.2 = true := zpg_of (by decide +kernel)
def cs_X3_keptByLaw : List (Nat × zCall) := []
theorem hcs_X3_keptByLaw {l : Launch} (hl0 : l.stackTraces = false) : ∀ q ∈ cs_X3_keptByLaw, zCallable l RX3 1 q := fun _ h => absurd h List.not_mem_nil
def th_X3_keptByLaw : List (Nat × String) := []
theorem hth_X3_keptByLaw : ∀ q ∈ th_X3_keptByLaw, zThrow cX3_keptByLaw RX3 q := fun _ h => absurd h List.not_mem_nil
def kc_X3_keptByLaw : List (Nat × Int32) := []
theorem hkc_X3_keptByLaw : ∀ q ∈ kc_X3_keptByLaw, Cond.constant RX3 q.1 q.2 ∈ zTs := fun _ h => absurd h List.not_mem_nil
def nw_X3_keptByLaw : List (Nat × Nat × Nat × List Value) := []
theorem hnw_X3_keptByLaw : ∀ q ∈ nw_X3_keptByLaw, zNew RX3 q := fun _ h => absurd h List.not_mem_nil
set_option maxHeartbeats 4000000 in
set_option maxRecDepth 20000 in
theorem c_X3_keptByLaw {l : Launch} (hl0 : l.stackTraces = false) : CT l yX3_keptByLaw (.code yX3_keptByLaw cX3_keptByLaw 1 (some .int)) 1 0 0 false sp_X3_keptByLaw := by
  refine zCT_of hl0 (own := RX3) fl_RX3 cs_X3_keptByLaw nw_X3_keptByLaw th_X3_keptByLaw kc_X3_keptByLaw (fun _ => []) false pg_X3_keptByLaw rfl (by decide +kernel) hp_X3_keptByLaw ⟨_, _, rfl, rfl⟩ hfl_RX3 (fun h => nomatch h) (hcs_X3_keptByLaw hl0) hnw_X3_keptByLaw hth_X3_keptByLaw (fun _ _ h => absurd h List.not_mem_nil) hkc_X3_keptByLaw (fun args w Q X v0 hv0 h => ?_)
  obtain ⟨α, ν, r, rfl, rfl, hQ⟩ := h
  refine ⟨Nat.le_of_ble_eq_true rfl, 20, [], ?_, fun q hq => absurd hq List.not_mem_nil⟩
  (conv => whnf)
  exact hQ
