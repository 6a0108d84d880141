/-! ===== EchoRegistryModel: divers, claims, things ===== -/
def sp_X5_unit : zSpec := fun args w Q _ => ∃ k, k < 96 ∧ args = [.int (nI k)] ∧ Q (some (.int (nI (zau k)))) w
def pg_X5_unit : List zE := [(0, .iload_n 0, 1, []), (1, .bipush 12, 2, [12]), (3, .idiv, 1, []), (4, .iconst 2, 1, [2]), (5, .iadd, 1, []), (6, .ireturn, 1, [])]
theorem hp_X5_unit : ∀ q ∈ pg_X5_unit, decode cX5_unit q.1 = .ok (q.2.1, q.2.2.1) ∧ ztg q.2.1 q.1 q.2.2.1 q.2.2.2 = true := zpg_of (by decide +kernel)
def cs_X5_unit : List (Nat × zCall) := []
theorem hcs_X5_unit {l : Launch} (hl0 : l.stackTraces = false) : ∀ q ∈ cs_X5_unit, zCallable l RX5 1 q := fun _ h => absurd h List.not_mem_nil
def th_X5_unit : List (Nat × String) := []
theorem hth_X5_unit : ∀ q ∈ th_X5_unit, zThrow cX5_unit RX5 q := fun _ h => absurd h List.not_mem_nil
def kc_X5_unit : List (Nat × Int32) := []
theorem hkc_X5_unit : ∀ q ∈ kc_X5_unit, Cond.constant RX5 q.1 q.2 ∈ zTs := fun _ h => absurd h List.not_mem_nil
def nw_X5_unit : List (Nat × Nat × Nat × List Value) := []
theorem hnw_X5_unit : ∀ q ∈ nw_X5_unit, zNew RX5 q := fun _ h => absurd h List.not_mem_nil
set_option maxHeartbeats 4000000 in
set_option maxRecDepth 20000 in
theorem c_X5_unit {l : Launch} (hl0 : l.stackTraces = false) : CT l yX5_unit (.code yX5_unit cX5_unit 1 (some .int)) 1 0 0 false sp_X5_unit := by
  refine zCT_of hl0 (own := RX5) fl_RX5 cs_X5_unit nw_X5_unit th_X5_unit kc_X5_unit (fun _ => []) false pg_X5_unit rfl (by decide +kernel) hp_X5_unit ⟨_, _, rfl, rfl⟩ hfl_RX5 (fun h => nomatch h) (hcs_X5_unit hl0) hnw_X5_unit hth_X5_unit (fun _ _ h => absurd h List.not_mem_nil) hkc_X5_unit (fun args w Q X v0 hv0 h => ?_)
  obtain ⟨k, hk, rfl, hQ⟩ := h
  refine ⟨Nat.le_of_ble_eq_true rfl, 20, [], ?_, fun q hq => absurd hq List.not_mem_nil⟩
  (conv => whnf)
  refine ⟨by decide, ?_⟩
  (conv => whnf)
  dsimp only [zkon]
  rw [pk_div (by omega) (by omega) (by omega), nI_add]
  exact hQ
def sp_X5_isDiver : zSpec := fun args w Q _ => ∃ x, args = [.int x] ∧ zB Q (vp_in x 4) w
def pg_X5_isDiver : List zE := [(0, .iload_n 0, 1, []), (1, .iconst 0, 1, [0]), (2, .iconst 3, 1, [3]), (3, .invokestatic 59, 3, []), (6, .ireturn, 1, [])]
theorem hp_X5_isDiver : ∀ q ∈ pg_X5_isDiver, decode cX5_isDiver q.1 = .ok (q.2.1, q.2.2.1) ∧ ztg q.2.1 q.1 q.2.2.1 q.2.2.2 = true := zpg_of (by decide +kernel)
def cs_X5_isDiver : List (Nat × zCall) := [(59, 1, 3, none, 0, 0, false, sp_X5_in)]
theorem hcs_X5_isDiver {l : Launch} (hl0 : l.stackTraces = false) : ∀ q ∈ cs_X5_isDiver, zCallable l RX5 2 q := List.forall_mem_cons.mpr ⟨zcS (ps := [1137, 1138, 38, 1139]) (c_X5_in hl0) (by decide +kernel) ⟨by decide +kernel, by decide +kernel, by decide +kernel⟩ (by decide) (by decide), fun _ h => absurd h List.not_mem_nil⟩
def th_X5_isDiver : List (Nat × String) := []
theorem hth_X5_isDiver : ∀ q ∈ th_X5_isDiver, zThrow cX5_isDiver RX5 q := fun _ h => absurd h List.not_mem_nil
def kc_X5_isDiver : List (Nat × Int32) := []
theorem hkc_X5_isDiver : ∀ q ∈ kc_X5_isDiver, Cond.constant RX5 q.1 q.2 ∈ zTs := fun _ h => absurd h List.not_mem_nil
def nw_X5_isDiver : List (Nat × Nat × Nat × List Value) := []
theorem hnw_X5_isDiver : ∀ q ∈ nw_X5_isDiver, zNew RX5 q := fun _ h => absurd h List.not_mem_nil
set_option maxHeartbeats 4000000 in
set_option maxRecDepth 20000 in
theorem c_X5_isDiver {l : Launch} (hl0 : l.stackTraces = false) : CT l yX5_isDiver (.code yX5_isDiver cX5_isDiver 1 (some .boolean)) 2 0 0 false sp_X5_isDiver := by
  refine zCT_of hl0 (own := RX5) fl_RX5 cs_X5_isDiver nw_X5_isDiver th_X5_isDiver kc_X5_isDiver (fun _ => []) false pg_X5_isDiver rfl (by decide +kernel) hp_X5_isDiver ⟨_, _, rfl, rfl⟩ hfl_RX5 (fun h => nomatch h) (hcs_X5_isDiver hl0) hnw_X5_isDiver hth_X5_isDiver (fun _ _ h => absurd h List.not_mem_nil) hkc_X5_isDiver (fun args w Q X v0 hv0 h => ?_)
  obtain ⟨x, rfl, h1, h2⟩ := h
  refine ⟨Nat.le_of_ble_eq_true rfl, 20, [], ?_, fun q hq => absurd hq List.not_mem_nil⟩
  (conv => whnf)
  refine ⟨_, _, _, rfl, fun c => ?_, fun c => ?_⟩
  · (conv => whnf)
    exact ⟨Or.inr rfl, h1 ((vp_in_le (n := 3) (by decide)).mp c)⟩
  · (conv => whnf)
    exact ⟨Or.inl rfl, h2 (fun q => c ((vp_in_le (n := 3) (by decide)).mpr q))⟩
def zDm (β : Nat → Nat → Int32) (μ : Nat → Int32) (d k m : Nat) : Prop := ¬ μ 0 < β 7 d ∧ ¬ β 6 d < nI (m * zau k)
def sp_X5_canDive : zSpec := fun args w Q _ => ∃ α ν β μ r d k m, d < 4 ∧ k < 96 ∧ m ≤ 60 ∧ args = [.ref 21, .int (nI d), .int (nI k), .int (nI m)] ∧ w = W2 α ν β μ r ∧ zB Q (zDm β μ d k m) (W2 α ν β μ r)
def pg_X5_canDive : List zE := [(0, .aload_n 0, 1, []), (1, .getfield 98, 3, []), (4, .aload_n 0, 1, []), (5, .getfield 28, 3, []), (8, .iload_n 1, 1, []), (9, .iaload, 1, []), (10, .if_icmp .lt 22, 3, [32]), (13, .aload_n 0, 1, []), (14, .getfield 25, 3, []), (17, .iload_n 1, 1, []), (18, .iaload, 1, []), (19, .iload_n 3, 1, []), (20, .iload_n 2, 1, []), (21, .invokestatic 101, 3, []), (24, .imul, 1, []), (25, .if_icmp .lt 7, 3, [32]), (28, .iconst 1, 1, [1]), (29, .goto 4, 3, [33]), (32, .iconst 0, 1, [0]), (33, .ireturn, 1, [])]
theorem hp_X5_canDive : ∀ q ∈ pg_X5_canDive, decode cX5_canDive q.1 = .ok (q.2.1, q.2.2.1) ∧ ztg q.2.1 q.1 q.2.2.1 q.2.2.2 = true := zpg_of (by decide +kernel)
def cs_X5_canDive : List (Nat × zCall) := [(101, 1, 1, none, 0, 0, false, sp_X5_unit)]
theorem hcs_X5_canDive {l : Launch} (hl0 : l.stackTraces = false) : ∀ q ∈ cs_X5_canDive, zCallable l RX5 2 q := List.forall_mem_cons.mpr ⟨zcS (ps := [1211, 1212, 38, 1213]) (c_X5_unit hl0) (by decide +kernel) ⟨by decide +kernel, by decide +kernel, by decide +kernel⟩ (by decide) (by decide), fun _ h => absurd h List.not_mem_nil⟩
def th_X5_canDive : List (Nat × String) := []
theorem hth_X5_canDive : ∀ q ∈ th_X5_canDive, zThrow cX5_canDive RX5 q := fun _ h => absurd h List.not_mem_nil
def kc_X5_canDive : List (Nat × Int32) := []
theorem hkc_X5_canDive : ∀ q ∈ kc_X5_canDive, Cond.constant RX5 q.1 q.2 ∈ zTs := fun _ h => absurd h List.not_mem_nil
def nw_X5_canDive : List (Nat × Nat × Nat × List Value) := []
theorem hnw_X5_canDive : ∀ q ∈ nw_X5_canDive, zNew RX5 q := fun _ h => absurd h List.not_mem_nil
set_option maxHeartbeats 4000000 in
set_option maxRecDepth 20000 in
theorem c_X5_canDive {l : Launch} (hl0 : l.stackTraces = false) : CT l yX5_canDive (.code yX5_canDive cX5_canDive 4 (some .boolean)) 2 0 0 false sp_X5_canDive := by
  refine zCT_of hl0 (own := RX5) fl_RX5 cs_X5_canDive nw_X5_canDive th_X5_canDive kc_X5_canDive (fun _ => []) false pg_X5_canDive rfl (by decide +kernel) hp_X5_canDive ⟨_, _, rfl, rfl⟩ hfl_RX5 (fun h => nomatch h) (hcs_X5_canDive hl0) hnw_X5_canDive hth_X5_canDive (fun _ _ h => absurd h List.not_mem_nil) hkc_X5_canDive (fun args w Q X v0 hv0 h => ?_)
  obtain ⟨α, ν, β, μ, r, d, k, m, hd, hk, hm, rfl, rfl, h1, h2⟩ := h
  refine ⟨Nat.le_of_ble_eq_true rfl, 60, [], ?_, fun q hq => absurd hq List.not_mem_nil⟩
  (conv => whnf)
  refine ⟨vp_in_nI hd (by decide), ?_⟩
  (conv => whnf)
  rw [nI_clamp (by omega)]
  refine And.intro (fun c => ?_) (fun c => ?_) <;> dsimp only at c
  · (conv => whnf)
    exact ⟨Or.inl rfl, h2 (fun q => q.1 c)⟩
  · (conv => whnf)
    refine ⟨vp_in_nI hd (by decide), ?_⟩
    (conv => whnf)
    rw [nI_clamp (by omega)]
    refine ⟨k, hk, rfl, ?_⟩
    (conv => whnf)
    dsimp only [zkon]
    rw [pk_mul]
    refine And.intro (fun e => ?_) (fun e => ?_)
    · (conv => whnf)
      exact ⟨Or.inl rfl, h2 (fun q => q.2 e)⟩
    · (conv => whnf)
      exact ⟨Or.inr rfl, h1 ⟨c, e⟩⟩
def sp_X5_dives : zSpec := fun args w Q _ => ∃ α ν β μ r d k m, d < 4 ∧ k < 96 ∧ m ≤ 60 ∧ args = [.ref 21, .int (nI d), .int (nI k), .int (nI m)] ∧ w = W2 α ν β μ r ∧
  Q none (W2 α ν (zu (zu β 6 (upd (β 6) d (β 6 d - nI (m * zau k)))) 7 (upd (β 7) d (μ 0 + nI m + nI (m * (10 * (k / 12 + 1)) / 20)))) μ r)
def pg_X5_dives : List zE := [(0, .aload_n 0, 1, []), (1, .getfield 25, 3, []), (4, .iload_n 1, 1, []), (5, .dup2, 1, []), (6, .iaload, 1, []), (7, .iload_n 3, 1, []), (8, .iload_n 2, 1, []), (9, .invokestatic 101, 3, []), (12, .imul, 1, []), (13, .isub, 1, []), (14, .iastore, 1, []), (15, .aload_n 0, 1, []), (16, .getfield 28, 3, []), (19, .iload_n 1, 1, []), (20, .aload_n 0, 1, []), (21, .getfield 98, 3, []), (24, .iload_n 3, 1, []), (25, .iadd, 1, []), (26, .iload_n 3, 1, []), (27, .bipush 10, 2, [10]), (29, .imul, 1, []), (30, .iload_n 2, 1, []), (31, .bipush 12, 2, [12]), (33, .idiv, 1, []), (34, .iconst 1, 1, [1]), (35, .iadd, 1, []), (36, .imul, 1, []), (37, .bipush 20, 2, [20]), (39, .idiv, 1, []), (40, .iadd, 1, []), (41, .iastore, 1, []), (42, .return_, 1, [])]
theorem hp_X5_dives : ∀ q ∈ pg_X5_dives, decode cX5_dives q.1 = .ok (q.2.1, q.2.2.1) ∧ ztg q.2.1 q.1 q.2.2.1 q.2.2.2 = true := zpg_of (by decide +kernel)
def cs_X5_dives : List (Nat × zCall) := [(101, 1, 1, none, 0, 0, false, sp_X5_unit)]
theorem hcs_X5_dives {l : Launch} (hl0 : l.stackTraces = false) : ∀ q ∈ cs_X5_dives, zCallable l RX5 2 q := List.forall_mem_cons.mpr ⟨zcS (ps := [1211, 1212, 38, 1213]) (c_X5_unit hl0) (by decide +kernel) ⟨by decide +kernel, by decide +kernel, by decide +kernel⟩ (by decide) (by decide), fun _ h => absurd h List.not_mem_nil⟩
def th_X5_dives : List (Nat × String) := []
theorem hth_X5_dives : ∀ q ∈ th_X5_dives, zThrow cX5_dives RX5 q := fun _ h => absurd h List.not_mem_nil
def kc_X5_dives : List (Nat × Int32) := []
theorem hkc_X5_dives : ∀ q ∈ kc_X5_dives, Cond.constant RX5 q.1 q.2 ∈ zTs := fun _ h => absurd h List.not_mem_nil
def nw_X5_dives : List (Nat × Nat × Nat × List Value) := []
theorem hnw_X5_dives : ∀ q ∈ nw_X5_dives, zNew RX5 q := fun _ h => absurd h List.not_mem_nil
set_option maxHeartbeats 4000000 in
set_option maxRecDepth 20000 in
theorem c_X5_dives {l : Launch} (hl0 : l.stackTraces = false) : CT l yX5_dives (.code yX5_dives cX5_dives 4 none) 2 0 0 false sp_X5_dives := by
  refine zCT_of hl0 (own := RX5) fl_RX5 cs_X5_dives nw_X5_dives th_X5_dives kc_X5_dives (fun _ => []) false pg_X5_dives rfl (by decide +kernel) hp_X5_dives ⟨_, _, rfl, rfl⟩ hfl_RX5 (fun h => nomatch h) (hcs_X5_dives hl0) hnw_X5_dives hth_X5_dives (fun _ _ h => absurd h List.not_mem_nil) hkc_X5_dives (fun args w Q X v0 hv0 h => ?_)
  obtain ⟨α, ν, β, μ, r, d, k, m, hd, hk, hm, rfl, rfl, hQ⟩ := h
  refine ⟨Nat.le_of_ble_eq_true rfl, 60, [], ?_, fun q hq => absurd hq List.not_mem_nil⟩
  (conv => whnf)
  refine ⟨vp_in_nI hd (by decide), ?_⟩
  (conv => whnf)
  refine ⟨k, hk, rfl, ?_⟩
  (conv => whnf)
  refine ⟨vp_in_nI hd (by decide), ?_⟩
  (conv => whnf)
  refine ⟨by decide, ?_⟩
  (conv => whnf)
  refine ⟨by decide, ?_⟩
  (conv => whnf)
  refine ⟨vp_in_nI hd (by decide), ?_⟩
  (conv => whnf)
  have hb : m * 10 * (k / 12 + 1) ≤ 600 * (k / 12 + 1) := Nat.mul_le_mul_right _ (by omega)
  rw [nI_clamp (by omega)]
  dsimp only [zkon]
  rw [pk_mul, pk_mul, pk_div (by omega) (by decide) (by decide), nI_add, pk_mul, pk_div (by omega) (by decide) (by decide), Nat.mul_assoc m 10]
  exact hQ
def sp_X5_name : zSpec := fun args w Q _ => ∃ α ν β μ r x y m n, args = [.ref 21, .int x, .int y, .int m, .int n] ∧ w = W2 α ν β μ r ∧ (¬ vp_in x 4 ∨ ¬ vp_in y 96 → Q (some (.int (nI 0))) (W2 α ν β (zTh μ 1) r)) ∧
  ∀ d k, d < 4 → k < 96 → x = nI d → y = nI k → ((m < nI 5 ∨ nI 60 < m) ∨ (n < nI 1 ∨ nI 3 < n) → Q (some (.int (nI 0))) (W2 α ν β (zTh μ 2) r)) ∧
    ∀ j, j ≤ 60 → m = nI j → ¬ m < nI 5 → ¬ nI 60 < m → ¬ n < nI 1 → ¬ nI 3 < n → (¬ zDm β μ d k j → Q (some (.int (nI 0))) (W2 α ν β (zTh μ 3) r)) ∧ (zDm β μ d k j →
      Q (some (.int (znm (β 3) (upd (β 2) k (μ 1 + nI 1)) (upd (β 1) k n) (β 3 k) 96).2)) (W2 α ν (zu (zu (zu (zu β 6 (upd (β 6) d (β 6 d - nI (j * zau k)))) 7 (upd (β 7) d (μ 0 + nI j + nI (j * (10 * (k / 12 + 1)) / 20)))) 1 (upd (β 1) k n)) 2 (upd (β 2) k (μ 1 + nI 1))) (zu (zTh μ 0) 1 (μ 1 + nI 1)) r))
def pg_X5_name : List zE := [(0, .aload_n 0, 1, []), (1, .iload_n 1, 1, []), (2, .invokestatic 104, 3, []), (5, .ifCond .eq 10, 3, [15]), (8, .iload_n 2, 1, []), (9, .invokestatic 67, 3, []), (12, .ifCond .ne 7, 3, [19]), (15, .iconst 1, 1, [1]), (16, .goto 42, 3, [58]), (19, .iload_n 3, 1, []), (20, .iconst 5, 1, [5]), (21, .bipush 60, 2, [60]), (23, .invokestatic 59, 3, []), (26, .ifCond .eq 13, 3, [39]), (29, .iload 4, 2, []), (31, .iconst 1, 1, [1]), (32, .iconst 3, 1, [3]), (33, .invokestatic 59, 3, []), (36, .ifCond .ne 7, 3, [43]), (39, .iconst 2, 1, [2]), (40, .goto 18, 3, [58]), (43, .aload_n 0, 1, []), (44, .iload_n 1, 1, []), (45, .iload_n 2, 1, []), (46, .iload_n 3, 1, []), (47, .invokevirtual 107, 3, []), (50, .ifCond .ne 7, 3, [57]), (53, .iconst 3, 1, [3]), (54, .goto 4, 3, [58]), (57, .iconst 0, 1, [0]), (58, .putfield 55, 3, []), (61, .aload_n 0, 1, []), (62, .getfield 55, 3, []), (65, .ifCond .le 5, 3, [70]), (68, .iconst 0, 1, [0]), (69, .ireturn, 1, []), (70, .aload_n 0, 1, []), (71, .iload_n 1, 1, []), (72, .iload_n 2, 1, []), (73, .iload_n 3, 1, []), (74, .invokevirtual 110, 3, []), (77, .aload_n 0, 1, []), (78, .dup, 1, []), (79, .getfield 114, 3, []), (82, .iconst 1, 1, [1]), (83, .iadd, 1, []), (84, .putfield 114, 3, []), (87, .aload_n 0, 1, []), (88, .getfield 13, 3, []), (91, .iload_n 2, 1, []), (92, .iload 4, 2, []), (94, .iastore, 1, []), (95, .aload_n 0, 1, []), (96, .getfield 16, 3, []), (99, .iload_n 2, 1, []), (100, .aload_n 0, 1, []), (101, .getfield 114, 3, []), (104, .iastore, 1, []), (105, .aload_n 0, 1, []), (106, .aload_n 0, 1, []), (107, .getfield 19, 3, []), (110, .iload_n 2, 1, []), (111, .iaload, 1, []), (112, .invokevirtual 82, 3, []), (115, .ireturn, 1, [])]
theorem hp_X5_name : ∀ q ∈ pg_X5_name, decode cX5_name q.1 = .ok (q.2.1, q.2.2.1) ∧ ztg q.2.1 q.1 q.2.2.1 q.2.2.2 = true := zpg_of (by decide +kernel)
def cs_X5_name : List (Nat × zCall) := [(104, 1, 1, none, 0, 0, false, sp_X5_isDiver), (67, 1, 1, none, 0, 0, false, sp_X5_isCell), (59, 1, 3, none, 0, 0, false, sp_X5_in), (107, 0, 4, some 6, 0, 0, false, sp_X5_canDive), (110, 0, 4, some 6, 0, 0, false, sp_X5_dives), (82, 0, 2, some 6, 0, 0, false, sp_X5_nameFor)]
theorem hcs_X5_name {l : Launch} (hl0 : l.stackTraces = false) : ∀ q ∈ cs_X5_name, zCallable l RX5 3 q := List.forall_mem_cons.mpr ⟨zcS (ps := [1204, 1205, 38, 1206]) (c_X5_isDiver hl0) (by decide +kernel) ⟨by decide +kernel, by decide +kernel, by decide +kernel⟩ (by decide) (by decide), List.forall_mem_cons.mpr ⟨zcS (ps := [1134, 1135, 38, 1136]) (c_X5_isCell hl0) (by decide +kernel) ⟨by decide +kernel, by decide +kernel, by decide +kernel⟩ (by decide) (by decide), List.forall_mem_cons.mpr ⟨zcS (ps := [1137, 1138, 38, 1139]) (c_X5_in hl0) (by decide +kernel) ⟨by decide +kernel, by decide +kernel, by decide +kernel⟩ (by decide) (by decide), List.forall_mem_cons.mpr ⟨zcV (C := (RX5, TX5, 21)) (ps := [1207, 1209, 23, 38, 1210]) (c_X5_canDive hl0) (by decide +kernel) rfl ⟨rfl, by decide +kernel, by decide +kernel, by decide +kernel⟩ (by decide) (by decide), List.forall_mem_cons.mpr ⟨zcV (C := (RX5, TX5, 21)) (ps := [1214, 1216, 24, 38, 1217]) (c_X5_dives hl0) (by decide +kernel) rfl ⟨rfl, by decide +kernel, by decide +kernel, by decide +kernel⟩ (by decide) (by decide), List.forall_mem_cons.mpr ⟨zcV (C := (RX5, TX5, 21)) (ps := [1176, 1178, 18, 38, 1179]) (c_X5_nameFor hl0) (by decide +kernel) rfl ⟨rfl, by decide +kernel, by decide +kernel, by decide +kernel⟩ (by decide) (by decide), fun _ h => absurd h List.not_mem_nil⟩⟩⟩⟩⟩⟩
def th_X5_name : List (Nat × String) := []
theorem hth_X5_name : ∀ q ∈ th_X5_name, zThrow cX5_name RX5 q := fun _ h => absurd h List.not_mem_nil
def kc_X5_name : List (Nat × Int32) := []
theorem hkc_X5_name : ∀ q ∈ kc_X5_name, Cond.constant RX5 q.1 q.2 ∈ zTs := fun _ h => absurd h List.not_mem_nil
def nw_X5_name : List (Nat × Nat × Nat × List Value) := []
theorem hnw_X5_name : ∀ q ∈ nw_X5_name, zNew RX5 q := fun _ h => absurd h List.not_mem_nil
set_option maxHeartbeats 4000000 in
set_option maxRecDepth 20000 in
theorem c_X5_name {l : Launch} (hl0 : l.stackTraces = false) : CT l yX5_name (.code yX5_name cX5_name 5 (some .int)) 3 0 0 false sp_X5_name := by
  refine zCT_of hl0 (own := RX5) fl_RX5 cs_X5_name nw_X5_name th_X5_name kc_X5_name (fun _ => []) false pg_X5_name rfl (by decide +kernel) hp_X5_name ⟨_, _, rfl, rfl⟩ hfl_RX5 (fun h => nomatch h) (hcs_X5_name hl0) hnw_X5_name hth_X5_name (fun _ _ h => absurd h List.not_mem_nil) hkc_X5_name (fun args w Q X v0 hv0 h => ?_)
  obtain ⟨α, ν, β, μ, r, x, y, m, n, rfl, rfl, h1, h2⟩ := h
  refine ⟨Nat.le_of_ble_eq_true rfl, 80, [], ?_, fun q hq => absurd hq List.not_mem_nil⟩
  (conv => whnf)
  refine ⟨_, rfl, fun q => ?_, fun q => ?_⟩
  · obtain ⟨d, hd, rfl⟩ := vp_in_of q (by decide)
    (conv => whnf)
    refine And.intro (fun c => absurd c (show ¬ _ from (by decide))) (fun _ => ?_)
    (conv => whnf)
    refine ⟨_, rfl, fun q => ?_, fun q => ?_⟩
    · obtain ⟨k, hk, rfl⟩ := vp_in_of q (by decide)
      obtain ⟨h3, h4⟩ := h2 d k hd hk rfl rfl
      (conv => whnf)
      refine And.intro (fun c => absurd c (show ¬ _ from (by decide))) (fun _ => ?_)
      (conv => whnf)
      refine ⟨_, _, _, rfl, fun a => ?_, fun a => ?_⟩
      · obtain ⟨j, hj, rfl⟩ := nI_le_of5 (by decide) (by decide) (by decide) a.1 a.2
        (conv => whnf)
        refine And.intro (fun c => absurd c (show ¬ _ from (by decide))) (fun _ => ?_)
        (conv => whnf)
        refine ⟨_, _, _, rfl, fun b => ?_, fun b => ?_⟩
        · obtain ⟨h5, h6⟩ := h4 j hj rfl a.1 a.2 b.1 b.2
          (conv => whnf)
          refine And.intro (fun c => absurd c (show ¬ _ from (by decide))) (fun _ => ?_)
          (conv => whnf)
          refine ⟨α, ν, β, μ, r, d, k, j, hd, hk, hj, rfl, rfl, fun e => ?_, fun e => ?_⟩
          · (conv => whnf)
            refine And.intro (fun c => absurd c (show ¬ _ from (by decide))) (fun _ => ?_)
            (conv => whnf)
            refine And.intro (fun c => absurd c (show ¬ _ from (by decide))) (fun _ => ?_)
            (conv => whnf)
            refine ⟨α, ν, β, zTh μ 0, r, d, k, j, hd, hk, hj, rfl, rfl, ?_⟩
            (conv => whnf)
            refine ⟨vp_in_nI hk (by decide), ?_⟩
            (conv => whnf)
            refine ⟨vp_in_nI hk (by decide), ?_⟩
            (conv => whnf)
            refine ⟨vp_in_nI hk (by decide), ?_⟩
            (conv => whnf)
            rw [nI_clamp (by omega)]
            refine ⟨α, ν, zu (zu (zu (zu β 6 (upd (β 6) d (β 6 d - nI (j * zau k)))) 7 (upd (β 7) d (μ 0 + nI j + nI (j * (10 * (k / 12 + 1)) / 20)))) 1 (upd (β 1) k n)) 2 (upd (β 2) k (μ 1 + nI 1)), zu (zTh μ 0) 1 (μ 1 + nI 1), r, β 3 k, rfl, rfl, ?_⟩
            (conv => whnf)
            exact h6 e
          · (conv => whnf)
            refine And.intro (fun _ => ?_) (fun c => absurd (show _ from rfl) c)
            (conv => whnf)
            refine And.intro (fun _ => ?_) (fun c => absurd (show _ from (by decide)) c)
            (conv => whnf)
            exact h5 e
        · (conv => whnf)
          refine And.intro (fun _ => ?_) (fun c => absurd (show _ from rfl) c)
          (conv => whnf)
          refine And.intro (fun _ => ?_) (fun c => absurd (show _ from (by decide)) c)
          (conv => whnf)
          exact h3 (Or.inr (nor_of b))
      · (conv => whnf)
        refine And.intro (fun _ => ?_) (fun c => absurd (show _ from rfl) c)
        (conv => whnf)
        refine And.intro (fun _ => ?_) (fun c => absurd (show _ from (by decide)) c)
        (conv => whnf)
        exact h3 (Or.inl (nor_of a))
    · (conv => whnf)
      refine And.intro (fun _ => ?_) (fun c => absurd (show _ from rfl) c)
      (conv => whnf)
      refine And.intro (fun _ => ?_) (fun c => absurd (show _ from (by decide)) c)
      (conv => whnf)
      exact h1 (Or.inr q)
  · (conv => whnf)
    refine And.intro (fun _ => ?_) (fun c => absurd (show _ from rfl) c)
    (conv => whnf)
    refine And.intro (fun _ => ?_) (fun c => absurd (show _ from (by decide)) c)
    (conv => whnf)
    exact h1 (Or.inl q)
def sp_X5_fill : zSpec := fun args w Q _ => ∃ α ν β μ r x, args = [.ref 21, .int x] ∧ w = W2 α ν β μ r ∧ (¬ vp_in x 4 → Q (some (.int (nI 0))) (W2 α ν β (zTh μ 1) r)) ∧
  ∀ d, d < 4 → x = nI d → (μ 0 < β 7 d → Q (some (.int (nI 0))) (W2 α ν β (zTh μ 2) r)) ∧ (¬ μ 0 < β 7 d → Q (some (.int (nI 200 - β 6 d))) (W2 α ν (zu β 6 (upd (β 6) d (nI 200))) (zTh μ 0) r))
def pg_X5_fill : List zE := [(0, .aload_n 0, 1, []), (1, .iload_n 1, 1, []), (2, .invokestatic 104, 3, []), (5, .ifCond .ne 7, 3, [12]), (8, .iconst 1, 1, [1]), (9, .goto 21, 3, [30]), (12, .aload_n 0, 1, []), (13, .getfield 98, 3, []), (16, .aload_n 0, 1, []), (17, .getfield 28, 3, []), (20, .iload_n 1, 1, []), (21, .iaload, 1, []), (22, .if_icmp .ge 7, 3, [29]), (25, .iconst 2, 1, [2]), (26, .goto 4, 3, [30]), (29, .iconst 0, 1, [0]), (30, .putfield 55, 3, []), (33, .aload_n 0, 1, []), (34, .getfield 55, 3, []), (37, .ifCond .le 5, 3, [42]), (40, .iconst 0, 1, [0]), (41, .ireturn, 1, []), (42, .sipush 200, 3, [200]), (45, .aload_n 0, 1, []), (46, .getfield 25, 3, []), (49, .iload_n 1, 1, []), (50, .iaload, 1, []), (51, .isub, 1, []), (52, .istore_n 2, 1, []), (53, .aload_n 0, 1, []), (54, .getfield 25, 3, []), (57, .iload_n 1, 1, []), (58, .sipush 200, 3, [200]), (61, .iastore, 1, []), (62, .iload_n 2, 1, []), (63, .ireturn, 1, [])]
theorem hp_X5_fill : ∀ q ∈ pg_X5_fill, decode cX5_fill q.1 = .ok (q.2.1, q.2.2.1) ∧ ztg q.2.1 q.1 q.2.2.1 q.2.2.2 = true := zpg_of (by decide +kernel)
def cs_X5_fill : List (Nat × zCall) := [(104, 1, 1, none, 0, 0, false, sp_X5_isDiver)]
theorem hcs_X5_fill {l : Launch} (hl0 : l.stackTraces = false) : ∀ q ∈ cs_X5_fill, zCallable l RX5 3 q := List.forall_mem_cons.mpr ⟨zcS (ps := [1204, 1205, 38, 1206]) (c_X5_isDiver hl0) (by decide +kernel) ⟨by decide +kernel, by decide +kernel, by decide +kernel⟩ (by decide) (by decide), fun _ h => absurd h List.not_mem_nil⟩
def th_X5_fill : List (Nat × String) := []
theorem hth_X5_fill : ∀ q ∈ th_X5_fill, zThrow cX5_fill RX5 q := fun _ h => absurd h List.not_mem_nil
def kc_X5_fill : List (Nat × Int32) := []
theorem hkc_X5_fill : ∀ q ∈ kc_X5_fill, Cond.constant RX5 q.1 q.2 ∈ zTs := fun _ h => absurd h List.not_mem_nil
def nw_X5_fill : List (Nat × Nat × Nat × List Value) := []
theorem hnw_X5_fill : ∀ q ∈ nw_X5_fill, zNew RX5 q := fun _ h => absurd h List.not_mem_nil
set_option maxHeartbeats 4000000 in
set_option maxRecDepth 20000 in
theorem c_X5_fill {l : Launch} (hl0 : l.stackTraces = false) : CT l yX5_fill (.code yX5_fill cX5_fill 3 (some .int)) 3 0 0 false sp_X5_fill := by
  refine zCT_of hl0 (own := RX5) fl_RX5 cs_X5_fill nw_X5_fill th_X5_fill kc_X5_fill (fun _ => []) false pg_X5_fill rfl (by decide +kernel) hp_X5_fill ⟨_, _, rfl, rfl⟩ hfl_RX5 (fun h => nomatch h) (hcs_X5_fill hl0) hnw_X5_fill hth_X5_fill (fun _ _ h => absurd h List.not_mem_nil) hkc_X5_fill (fun args w Q X v0 hv0 h => ?_)
  obtain ⟨α, ν, β, μ, r, x, rfl, rfl, h1, h2⟩ := h
  refine ⟨Nat.le_of_ble_eq_true rfl, 80, [], ?_, fun q hq => absurd hq List.not_mem_nil⟩
  (conv => whnf)
  refine ⟨_, rfl, fun q => ?_, fun q => ?_⟩
  · obtain ⟨d, hd, rfl⟩ := vp_in_of q (by decide)
    obtain ⟨h3, h4⟩ := h2 d hd rfl
    (conv => whnf)
    refine And.intro (fun c => absurd c (show ¬ _ from (by decide))) (fun _ => ?_)
    (conv => whnf)
    refine ⟨vp_in_nI hd (by decide), ?_⟩
    (conv => whnf)
    rw [nI_clamp (by omega)]
    refine And.intro (fun e => ?_) (fun e => ?_) <;> dsimp only at e
    · (conv => whnf)
      refine And.intro (fun _ => ?_) (fun c => absurd (show _ from (by decide)) c)
      (conv => whnf)
      exact h3 e
    · (conv => whnf)
      refine And.intro (fun c => absurd c (show ¬ _ from (by decide))) (fun _ => ?_)
      (conv => whnf)
      refine ⟨vp_in_nI hd (by decide), ?_⟩
      (conv => whnf)
      refine ⟨vp_in_nI hd (by decide), ?_⟩
      (conv => whnf)
      rw [nI_clamp (by omega)]
      exact h4 e
  · (conv => whnf)
    refine And.intro (fun _ => ?_) (fun c => absurd (show _ from rfl) c)
    (conv => whnf)
    refine And.intro (fun _ => ?_) (fun c => absurd (show _ from (by decide)) c)
    (conv => whnf)
    exact h1 q
def sp_X5_air : zSpec := fun args w Q _ => ∃ α ν β μ r x, args = [.ref 21, .int x] ∧ w = W2 α ν β μ r ∧ (¬ vp_in x 4 → Q (some (.int (nI 0))) (W2 α ν β (zTh μ 1) r)) ∧ ∀ d, d < 4 → x = nI d → Q (some (.int (β 6 d))) (W2 α ν β (zTh μ 0) r)
def pg_X5_air : List zE := [(0, .aload_n 0, 1, []), (1, .iload_n 1, 1, []), (2, .invokestatic 104, 3, []), (5, .ifCond .eq 7, 3, [12]), (8, .iconst 0, 1, [0]), (9, .goto 4, 3, [13]), (12, .iconst 1, 1, [1]), (13, .putfield 55, 3, []), (16, .aload_n 0, 1, []), (17, .getfield 55, 3, []), (20, .ifCond .ne 12, 3, [32]), (23, .aload_n 0, 1, []), (24, .getfield 25, 3, []), (27, .iload_n 1, 1, []), (28, .iaload, 1, []), (29, .goto 4, 3, [33]), (32, .iconst 0, 1, [0]), (33, .ireturn, 1, [])]
theorem hp_X5_air : ∀ q ∈ pg_X5_air, decode cX5_air q.1 = .ok (q.2.1, q.2.2.1) ∧ ztg q.2.1 q.1 q.2.2.1 q.2.2.2 = true := zpg_of (by decide +kernel)
def cs_X5_air : List (Nat × zCall) := [(104, 1, 1, none, 0, 0, false, sp_X5_isDiver)]
theorem hcs_X5_air {l : Launch} (hl0 : l.stackTraces = false) : ∀ q ∈ cs_X5_air, zCallable l RX5 3 q := List.forall_mem_cons.mpr ⟨zcS (ps := [1204, 1205, 38, 1206]) (c_X5_isDiver hl0) (by decide +kernel) ⟨by decide +kernel, by decide +kernel, by decide +kernel⟩ (by decide) (by decide), fun _ h => absurd h List.not_mem_nil⟩
def th_X5_air : List (Nat × String) := []
theorem hth_X5_air : ∀ q ∈ th_X5_air, zThrow cX5_air RX5 q := fun _ h => absurd h List.not_mem_nil
def kc_X5_air : List (Nat × Int32) := []
theorem hkc_X5_air : ∀ q ∈ kc_X5_air, Cond.constant RX5 q.1 q.2 ∈ zTs := fun _ h => absurd h List.not_mem_nil
def nw_X5_air : List (Nat × Nat × Nat × List Value) := []
theorem hnw_X5_air : ∀ q ∈ nw_X5_air, zNew RX5 q := fun _ h => absurd h List.not_mem_nil
set_option maxHeartbeats 4000000 in
set_option maxRecDepth 20000 in
theorem c_X5_air {l : Launch} (hl0 : l.stackTraces = false) : CT l yX5_air (.code yX5_air cX5_air 2 (some .int)) 3 0 0 false sp_X5_air := by
  refine zCT_of hl0 (own := RX5) fl_RX5 cs_X5_air nw_X5_air th_X5_air kc_X5_air (fun _ => []) false pg_X5_air rfl (by decide +kernel) hp_X5_air ⟨_, _, rfl, rfl⟩ hfl_RX5 (fun h => nomatch h) (hcs_X5_air hl0) hnw_X5_air hth_X5_air (fun _ _ h => absurd h List.not_mem_nil) hkc_X5_air (fun args w Q X v0 hv0 h => ?_)
  obtain ⟨α, ν, β, μ, r, x, rfl, rfl, h1, h2⟩ := h
  refine ⟨Nat.le_of_ble_eq_true rfl, 80, [], ?_, fun q hq => absurd hq List.not_mem_nil⟩
  (conv => whnf)
  refine ⟨_, rfl, fun q => ?_, fun q => ?_⟩
  · obtain ⟨d, hd, rfl⟩ := vp_in_of q (by decide)
    (conv => whnf)
    refine And.intro (fun c => absurd c (show ¬ _ from (by decide))) (fun _ => ?_)
    (conv => whnf)
    refine And.intro (fun _ => ?_) (fun c => absurd (show _ from rfl) c)
    (conv => whnf)
    refine ⟨vp_in_nI hd (by decide), ?_⟩
    (conv => whnf)
    rw [nI_clamp (by omega)]
    exact h2 d hd rfl
  · (conv => whnf)
    refine And.intro (fun _ => ?_) (fun c => absurd (show _ from rfl) c)
    (conv => whnf)
    refine And.intro (fun c => absurd c (show ¬ _ from (by decide))) (fun _ => ?_)
    (conv => whnf)
    exact h1 q
def zrsm (f y : Int32) : Int32 := if y < f then f - y else 0
def sp_X5_rest : zSpec := fun args w Q _ => ∃ α ν β μ r x, args = [.ref 21, .int x] ∧ w = W2 α ν β μ r ∧ (¬ vp_in x 4 → Q (some (.int (nI 0))) (W2 α ν β (zTh μ 1) r)) ∧ ∀ d, d < 4 → x = nI d → Q (some (.int (zrsm (β 7 d) (μ 0)))) (W2 α ν β (zTh μ 0) r)
def pg_X5_rest : List zE := [(0, .aload_n 0, 1, []), (1, .iload_n 1, 1, []), (2, .invokestatic 104, 3, []), (5, .ifCond .eq 7, 3, [12]), (8, .iconst 0, 1, [0]), (9, .goto 4, 3, [13]), (12, .iconst 1, 1, [1]), (13, .putfield 55, 3, []), (16, .aload_n 0, 1, []), (17, .getfield 55, 3, []), (20, .ifCond .ne 30, 3, [50]), (23, .aload_n 0, 1, []), (24, .getfield 28, 3, []), (27, .iload_n 1, 1, []), (28, .iaload, 1, []), (29, .aload_n 0, 1, []), (30, .getfield 98, 3, []), (33, .if_icmp .le 17, 3, [50]), (36, .aload_n 0, 1, []), (37, .getfield 28, 3, []), (40, .iload_n 1, 1, []), (41, .iaload, 1, []), (42, .aload_n 0, 1, []), (43, .getfield 98, 3, []), (46, .isub, 1, []), (47, .goto 4, 3, [51]), (50, .iconst 0, 1, [0]), (51, .ireturn, 1, [])]
theorem hp_X5_rest : ∀ q ∈ pg_X5_rest, decode cX5_rest q.1 = .ok (q.2.1, q.2.2.1) ∧ ztg q.2.1 q.1 q.2.2.1 q.2.2.2 = true := zpg_of (by decide +kernel)
def cs_X5_rest : List (Nat × zCall) := [(104, 1, 1, none, 0, 0, false, sp_X5_isDiver)]
theorem hcs_X5_rest {l : Launch} (hl0 : l.stackTraces = false) : ∀ q ∈ cs_X5_rest, zCallable l RX5 3 q := List.forall_mem_cons.mpr ⟨zcS (ps := [1204, 1205, 38, 1206]) (c_X5_isDiver hl0) (by decide +kernel) ⟨by decide +kernel, by decide +kernel, by decide +kernel⟩ (by decide) (by decide), fun _ h => absurd h List.not_mem_nil⟩
def th_X5_rest : List (Nat × String) := []
theorem hth_X5_rest : ∀ q ∈ th_X5_rest, zThrow cX5_rest RX5 q := fun _ h => absurd h List.not_mem_nil
def kc_X5_rest : List (Nat × Int32) := []
theorem hkc_X5_rest : ∀ q ∈ kc_X5_rest, Cond.constant RX5 q.1 q.2 ∈ zTs := fun _ h => absurd h List.not_mem_nil
def nw_X5_rest : List (Nat × Nat × Nat × List Value) := []
theorem hnw_X5_rest : ∀ q ∈ nw_X5_rest, zNew RX5 q := fun _ h => absurd h List.not_mem_nil
set_option maxHeartbeats 4000000 in
set_option maxRecDepth 20000 in
theorem c_X5_rest {l : Launch} (hl0 : l.stackTraces = false) : CT l yX5_rest (.code yX5_rest cX5_rest 2 (some .int)) 3 0 0 false sp_X5_rest := by
  refine zCT_of hl0 (own := RX5) fl_RX5 cs_X5_rest nw_X5_rest th_X5_rest kc_X5_rest (fun _ => []) false pg_X5_rest rfl (by decide +kernel) hp_X5_rest ⟨_, _, rfl, rfl⟩ hfl_RX5 (fun h => nomatch h) (hcs_X5_rest hl0) hnw_X5_rest hth_X5_rest (fun _ _ h => absurd h List.not_mem_nil) hkc_X5_rest (fun args w Q X v0 hv0 h => ?_)
  obtain ⟨α, ν, β, μ, r, x, rfl, rfl, h1, h2⟩ := h
  refine ⟨Nat.le_of_ble_eq_true rfl, 80, [], ?_, fun q hq => absurd hq List.not_mem_nil⟩
  (conv => whnf)
  refine ⟨_, rfl, fun q => ?_, fun q => ?_⟩
  · obtain ⟨d, hd, rfl⟩ := vp_in_of q (by decide)
    have h3 := h2 d hd rfl
    (conv => whnf)
    refine And.intro (fun c => absurd c (show ¬ _ from (by decide))) (fun _ => ?_)
    (conv => whnf)
    refine And.intro (fun _ => ?_) (fun c => absurd (show _ from rfl) c)
    (conv => whnf)
    refine ⟨vp_in_nI hd (by decide), ?_⟩
    (conv => whnf)
    rw [nI_clamp (by omega)]
    refine And.intro (fun e => ?_) (fun e => ?_)
    · have e2 : zrsm (β 7 d) (μ 0) = β 7 d - μ 0 := if_pos e
      rw [e2] at h3
      (conv => whnf)
      refine ⟨vp_in_nI hd (by decide), ?_⟩
      (conv => whnf)
      rw [nI_clamp (by omega)]
      exact h3
    · have e2 : zrsm (β 7 d) (μ 0) = 0 := if_neg e
      rw [e2] at h3
      (conv => whnf)
      exact h3
  · (conv => whnf)
    refine And.intro (fun _ => ?_) (fun c => absurd (show _ from rfl) c)
    (conv => whnf)
    refine And.intro (fun c => absurd c (show ¬ _ from (by decide))) (fun _ => ?_)
    (conv => whnf)
    exact h1 q
def sp_X5_longest : zSpec := fun args w Q _ => ∃ α ν β μ r x y, (∀ d, d < 4 → ∃ a, a ≤ 200 ∧ β 6 d = nI a) ∧ args = [.ref 21, .int x, .int y] ∧ w = W2 α ν β μ r ∧ (¬ vp_in x 4 ∨ ¬ vp_in y 96 → Q (some (.int (nI 0))) (W2 α ν β (zTh μ 1) r)) ∧
  ∀ d k a, d < 4 → k < 96 → x = nI d → y = nI k → a ≤ 200 → β 6 d = nI a → Q (some (.int (nI (min (a / zau k) 60)))) (W2 α ν β (zTh μ 0) r)
def pg_X5_longest : List zE := [(0, .aload_n 0, 1, []), (1, .iload_n 1, 1, []), (2, .invokestatic 104, 3, []), (5, .ifCond .eq 14, 3, [19]), (8, .iload_n 2, 1, []), (9, .invokestatic 67, 3, []), (12, .ifCond .eq 7, 3, [19]), (15, .iconst 0, 1, [0]), (16, .goto 4, 3, [20]), (19, .iconst 1, 1, [1]), (20, .putfield 55, 3, []), (23, .aload_n 0, 1, []), (24, .getfield 55, 3, []), (27, .ifCond .le 5, 3, [32]), (30, .iconst 0, 1, [0]), (31, .ireturn, 1, []), (32, .aload_n 0, 1, []), (33, .getfield 25, 3, []), (36, .iload_n 1, 1, []), (37, .iaload, 1, []), (38, .iload_n 2, 1, []), (39, .invokestatic 101, 3, []), (42, .idiv, 1, []), (43, .istore_n 3, 1, []), (44, .iload_n 3, 1, []), (45, .bipush 60, 2, [60]), (47, .if_icmp .ge 7, 3, [54]), (50, .iload_n 3, 1, []), (51, .goto 5, 3, [56]), (54, .bipush 60, 2, [60]), (56, .ireturn, 1, [])]
theorem hp_X5_longest : ∀ q ∈ pg_X5_longest, decode cX5_longest q.1 = .ok (q.2.1, q.2.2.1) ∧ ztg q.2.1 q.1 q.2.2.1 q.2.2.2 = true := zpg_of (by decide +kernel)
def cs_X5_longest : List (Nat × zCall) := [(104, 1, 1, none, 0, 0, false, sp_X5_isDiver), (67, 1, 1, none, 0, 0, false, sp_X5_isCell), (101, 1, 1, none, 0, 0, false, sp_X5_unit)]
theorem hcs_X5_longest {l : Launch} (hl0 : l.stackTraces = false) : ∀ q ∈ cs_X5_longest, zCallable l RX5 3 q := List.forall_mem_cons.mpr ⟨zcS (ps := [1204, 1205, 38, 1206]) (c_X5_isDiver hl0) (by decide +kernel) ⟨by decide +kernel, by decide +kernel, by decide +kernel⟩ (by decide) (by decide), List.forall_mem_cons.mpr ⟨zcS (ps := [1134, 1135, 38, 1136]) (c_X5_isCell hl0) (by decide +kernel) ⟨by decide +kernel, by decide +kernel, by decide +kernel⟩ (by decide) (by decide), List.forall_mem_cons.mpr ⟨zcS (ps := [1211, 1212, 38, 1213]) (c_X5_unit hl0) (by decide +kernel) ⟨by decide +kernel, by decide +kernel, by decide +kernel⟩ (by decide) (by decide), fun _ h => absurd h List.not_mem_nil⟩⟩⟩
def th_X5_longest : List (Nat × String) := []
theorem hth_X5_longest : ∀ q ∈ th_X5_longest, zThrow cX5_longest RX5 q := fun _ h => absurd h List.not_mem_nil
def kc_X5_longest : List (Nat × Int32) := []
theorem hkc_X5_longest : ∀ q ∈ kc_X5_longest, Cond.constant RX5 q.1 q.2 ∈ zTs := fun _ h => absurd h List.not_mem_nil
def nw_X5_longest : List (Nat × Nat × Nat × List Value) := []
theorem hnw_X5_longest : ∀ q ∈ nw_X5_longest, zNew RX5 q := fun _ h => absurd h List.not_mem_nil
set_option maxHeartbeats 4000000 in
set_option maxRecDepth 20000 in
theorem c_X5_longest {l : Launch} (hl0 : l.stackTraces = false) : CT l yX5_longest (.code yX5_longest cX5_longest 4 (some .int)) 3 0 0 false sp_X5_longest := by
  refine zCT_of hl0 (own := RX5) fl_RX5 cs_X5_longest nw_X5_longest th_X5_longest kc_X5_longest (fun _ => []) false pg_X5_longest rfl (by decide +kernel) hp_X5_longest ⟨_, _, rfl, rfl⟩ hfl_RX5 (fun h => nomatch h) (hcs_X5_longest hl0) hnw_X5_longest hth_X5_longest (fun _ _ h => absurd h List.not_mem_nil) hkc_X5_longest (fun args w Q X v0 hv0 h => ?_)
  obtain ⟨α, ν, β, μ, r, x, y, ha, rfl, rfl, h1, h2⟩ := h
  refine ⟨Nat.le_of_ble_eq_true rfl, 80, [], ?_, fun q hq => absurd hq List.not_mem_nil⟩
  (conv => whnf)
  refine ⟨_, rfl, fun q => ?_, fun q => ?_⟩
  · obtain ⟨d, hd, rfl⟩ := vp_in_of q (by decide)
    obtain ⟨a, ha1, ha2⟩ := ha d hd
    (conv => whnf)
    refine And.intro (fun c => absurd c (show ¬ _ from (by decide))) (fun _ => ?_)
    (conv => whnf)
    refine ⟨_, rfl, fun q => ?_, fun q => ?_⟩
    · obtain ⟨k, hk, rfl⟩ := vp_in_of q (by decide)
      have h3 := h2 d k a hd hk rfl rfl ha1 ha2
      have hu : 2 ≤ zau k ∧ zau k ≤ 9 := by unfold zau; omega
      have hdv : a / zau k ≤ a := Nat.div_le_self _ _
      (conv => whnf)
      refine And.intro (fun c => absurd c (show ¬ _ from (by decide))) (fun _ => ?_)
      (conv => whnf)
      refine And.intro (fun c => absurd c (show ¬ _ from (by decide))) (fun _ => ?_)
      (conv => whnf)
      refine ⟨vp_in_nI hd (by decide), ?_⟩
      (conv => whnf)
      rw [nI_clamp (show d < 2 ^ 31 by omega), ha2]
      refine ⟨k, hk, rfl, ?_⟩
      (conv => whnf)
      refine ⟨nI_ne0 (by omega) (by omega), ?_⟩
      (conv => whnf)
      dsimp only [zkon]
      rw [pk_div (by omega) (by omega) (by omega)]
      refine And.intro (fun e => ?_) (fun e => ?_)
      · have e2 := (nI_ltI (by omega) (by decide)).mp e
        rw [show min (a / zau k) 60 = a / zau k by omega] at h3
        (conv => whnf)
        exact h3
      · have e2 : ¬ a / zau k < 60 := fun q => e (nI_lt q (by decide))
        rw [show min (a / zau k) 60 = 60 by omega] at h3
        (conv => whnf)
        exact h3
    · (conv => whnf)
      refine And.intro (fun _ => ?_) (fun c => absurd (show _ from rfl) c)
      (conv => whnf)
      refine And.intro (fun _ => ?_) (fun c => absurd (show _ from (by decide)) c)
      (conv => whnf)
      exact h1 (Or.inr q)
  · (conv => whnf)
    refine And.intro (fun _ => ?_) (fun c => absurd (show _ from rfl) c)
    (conv => whnf)
    refine And.intro (fun _ => ?_) (fun c => absurd (show _ from (by decide)) c)
    (conv => whnf)
    exact h1 (Or.inl q)
theorem vp_in_cnt {x : Int32} {c : Nat} (hc : c ≤ 60) : (¬ x < nI 0 ∧ ¬ (nI c - nI 1) < x) ↔ vp_in x c := by
  cases c with
  | zero =>
    constructor
    · rintro ⟨a, b⟩
      exfalso
      obtain ⟨j, hj, rfl⟩ := nI_of (x := x) a
      apply b
      rw [Int32.lt_iff_toInt_lt, pk_sub_toInt (by decide) (by decide), nI_toInt hj]
      omega
    · intro h
      obtain ⟨j, hj, _⟩ := vp_in_of h (by decide)
      exact absurd hj (Nat.not_lt_zero j)
  | succ d =>
    rw [pk_sub (show 1 ≤ d + 1 by omega), show d + 1 - 1 = d by omega]
    exact vp_in_le (n := d) (by omega)
def sp_X5_isClaim : zSpec := fun args w Q _ => ∃ α ν β μ r c x, c ≤ 40 ∧ μ 3 = nI c ∧ args = [.ref 21, .int x] ∧ w = W2 α ν β μ r ∧ (vp_in x c → Q (some (.int 1)) (W2 α ν β (zTh μ 0) r)) ∧ (¬ vp_in x c → Q (some (.int 0)) (W2 α ν β (zTh μ 1) r))
def pg_X5_isClaim : List zE := [(0, .aload_n 0, 1, []), (1, .iload_n 1, 1, []), (2, .iconst 0, 1, [0]), (3, .aload_n 0, 1, []), (4, .getfield 124, 3, []), (7, .iconst 1, 1, [1]), (8, .isub, 1, []), (9, .invokestatic 59, 3, []), (12, .ifCond .eq 7, 3, [19]), (15, .iconst 0, 1, [0]), (16, .goto 4, 3, [20]), (19, .iconst 1, 1, [1]), (20, .putfield 55, 3, []), (23, .aload_n 0, 1, []), (24, .getfield 55, 3, []), (27, .ifCond .ne 7, 3, [34]), (30, .iconst 1, 1, [1]), (31, .goto 4, 3, [35]), (34, .iconst 0, 1, [0]), (35, .ireturn, 1, [])]
theorem hp_X5_isClaim : ∀ q ∈ pg_X5_isClaim, decode cX5_isClaim q.1 = .ok (q.2.1, q.2.2.1) ∧ ztg q.2.1 q.1 q.2.2.1 q.2.2.2 = true := zpg_of (by decide +kernel)
def cs_X5_isClaim : List (Nat × zCall) := [(59, 1, 3, none, 0, 0, false, sp_X5_in)]
theorem hcs_X5_isClaim {l : Launch} (hl0 : l.stackTraces = false) : ∀ q ∈ cs_X5_isClaim, zCallable l RX5 2 q := List.forall_mem_cons.mpr ⟨zcS (ps := [1137, 1138, 38, 1139]) (c_X5_in hl0) (by decide +kernel) ⟨by decide +kernel, by decide +kernel, by decide +kernel⟩ (by decide) (by decide), fun _ h => absurd h List.not_mem_nil⟩
def th_X5_isClaim : List (Nat × String) := []
theorem hth_X5_isClaim : ∀ q ∈ th_X5_isClaim, zThrow cX5_isClaim RX5 q := fun _ h => absurd h List.not_mem_nil
def kc_X5_isClaim : List (Nat × Int32) := []
theorem hkc_X5_isClaim : ∀ q ∈ kc_X5_isClaim, Cond.constant RX5 q.1 q.2 ∈ zTs := fun _ h => absurd h List.not_mem_nil
def nw_X5_isClaim : List (Nat × Nat × Nat × List Value) := []
theorem hnw_X5_isClaim : ∀ q ∈ nw_X5_isClaim, zNew RX5 q := fun _ h => absurd h List.not_mem_nil
set_option maxHeartbeats 4000000 in
set_option maxRecDepth 20000 in
theorem c_X5_isClaim {l : Launch} (hl0 : l.stackTraces = false) : CT l yX5_isClaim (.code yX5_isClaim cX5_isClaim 2 (some .boolean)) 2 0 0 false sp_X5_isClaim := by
  refine zCT_of hl0 (own := RX5) fl_RX5 cs_X5_isClaim nw_X5_isClaim th_X5_isClaim kc_X5_isClaim (fun _ => []) false pg_X5_isClaim rfl (by decide +kernel) hp_X5_isClaim ⟨_, _, rfl, rfl⟩ hfl_RX5 (fun h => nomatch h) (hcs_X5_isClaim hl0) hnw_X5_isClaim hth_X5_isClaim (fun _ _ h => absurd h List.not_mem_nil) hkc_X5_isClaim (fun args w Q X v0 hv0 h => ?_)
  obtain ⟨α, ν, β, μ, r, c, x, hc, hμ, rfl, rfl, h1, h2⟩ := h
  refine ⟨Nat.le_of_ble_eq_true rfl, 60, [], ?_, fun q hq => absurd hq List.not_mem_nil⟩
  (conv => whnf)
  rw [hμ]
  refine ⟨x, nI 0, nI c - nI 1, rfl, fun q => ?_, fun q => ?_⟩
  · (conv => whnf)
    refine And.intro (fun c => absurd c (show ¬ _ from (by decide))) (fun _ => ?_)
    (conv => whnf)
    refine And.intro (fun _ => ?_) (fun c => absurd (show _ from rfl) c)
    (conv => whnf)
    exact ⟨Or.inr rfl, h1 ((vp_in_cnt (by omega)).mp q)⟩
  · (conv => whnf)
    refine And.intro (fun _ => ?_) (fun c => absurd (show _ from rfl) c)
    (conv => whnf)
    refine And.intro (fun c => absurd c (show ¬ _ from (by decide))) (fun _ => ?_)
    (conv => whnf)
    exact ⟨Or.inl rfl, h2 (fun p => q ((vp_in_cnt (by omega)).mpr p))⟩
def sp_X5_claim : zSpec := fun args w Q _ => ∃ α ν β μ r c x y, zCm β μ c ∧ args = [.ref 21, .int x, .int y] ∧ w = W2 α ν β μ r ∧ (¬ vp_in x 6 ∨ ¬ vp_in y 96 → Q (some (.int (nI 0))) (W2 α ν β (zTh μ 1) r)) ∧
  ∀ f k, f < 6 → k < 96 → x = nI f → y = nI k → ∀ z, zHM β μ c (β 3 k) z → (zBad β (β 3 k) ∨ z ≠ -1 ∨ c = 40 → Q (some (.int (nI 0))) (W2 α ν β (zTh (zTh μ 0) 2) r)) ∧ (¬ zBad β (β 3 k) → z = -1 → c < 40 →
    Q (some (.int (nI c))) (W2 α ν (zu (zu (zu β 8 (upd (β 8) c (nI f))) 9 (upd (β 9) c (nI k))) 10 (upd (β 10) c (μ 0))) (zu (zTh (zTh μ 0) 0) 3 (nI (c + 1))) r))
def pg_X5_claim : List zE := [(0, .aload_n 0, 1, []), (1, .iload_n 1, 1, []), (2, .iconst 0, 1, [0]), (3, .iconst 5, 1, [5]), (4, .invokestatic 59, 3, []), (7, .ifCond .eq 10, 3, [17]), (10, .iload_n 2, 1, []), (11, .invokestatic 67, 3, []), (14, .ifCond .ne 7, 3, [21]), (17, .iconst 1, 1, [1]), (18, .goto 4, 3, [22]), (21, .iconst 0, 1, [0]), (22, .putfield 55, 3, []), (25, .aload_n 0, 1, []), (26, .getfield 55, 3, []), (29, .ifCond .le 5, 3, [34]), (32, .iconst 0, 1, [0]), (33, .ireturn, 1, []), (34, .aload_n 0, 1, []), (35, .aload_n 0, 1, []), (36, .getfield 19, 3, []), (39, .iload_n 2, 1, []), (40, .iaload, 1, []), (41, .iconst (-1), 1, []), (42, .if_icmp .eq 40, 3, [82]), (45, .aload_n 0, 1, []), (46, .aload_n 0, 1, []), (47, .getfield 19, 3, []), (50, .iload_n 2, 1, []), (51, .iaload, 1, []), (52, .invokevirtual 82, 3, []), (55, .iconst 1, 1, [1]), (56, .if_icmp .eq 26, 3, [82]), (59, .aload_n 0, 1, []), (60, .aload_n 0, 1, []), (61, .getfield 19, 3, []), (64, .iload_n 2, 1, []), (65, .iaload, 1, []), (66, .invokevirtual 95, 3, []), (69, .iconst (-1), 1, []), (70, .if_icmp .ne 12, 3, [82]), (73, .aload_n 0, 1, []), (74, .getfield 124, 3, []), (77, .bipush 40, 2, [40]), (79, .if_icmp .ne 7, 3, [86]), (82, .iconst 2, 1, [2]), (83, .goto 4, 3, [87]), (86, .iconst 0, 1, [0]), (87, .putfield 55, 3, []), (90, .aload_n 0, 1, []), (91, .getfield 55, 3, []), (94, .ifCond .le 5, 3, [99]), (97, .iconst 0, 1, [0]), (98, .ireturn, 1, []), (99, .aload_n 0, 1, []), (100, .getfield 31, 3, []), (103, .aload_n 0, 1, []), (104, .getfield 124, 3, []), (107, .iload_n 1, 1, []), (108, .iastore, 1, []), (109, .aload_n 0, 1, []), (110, .getfield 34, 3, []), (113, .aload_n 0, 1, []), (114, .getfield 124, 3, []), (117, .iload_n 2, 1, []), (118, .iastore, 1, []), (119, .aload_n 0, 1, []), (120, .getfield 37, 3, []), (123, .aload_n 0, 1, []), (124, .getfield 124, 3, []), (127, .aload_n 0, 1, []), (128, .getfield 98, 3, []), (131, .iastore, 1, []), (132, .aload_n 0, 1, []), (133, .dup, 1, []), (134, .getfield 124, 3, []), (137, .iconst 1, 1, [1]), (138, .iadd, 1, []), (139, .putfield 124, 3, []), (142, .aload_n 0, 1, []), (143, .getfield 124, 3, []), (146, .iconst 1, 1, [1]), (147, .isub, 1, []), (148, .ireturn, 1, [])]
theorem hp_X5_claim : ∀ q ∈ pg_X5_claim, decode cX5_claim q.1 = .ok (q.2.1, q.2.2.1) ∧ ztg q.2.1 q.1 q.2.2.1 q.2.2.2 = true := zpg_of (by decide +kernel)
def cs_X5_claim : List (Nat × zCall) := [(59, 1, 3, none, 0, 0, false, sp_X5_in), (67, 1, 1, none, 0, 0, false, sp_X5_isCell), (82, 0, 2, some 6, 0, 0, false, sp_X5_nameFor), (95, 0, 2, some 6, 0, 0, false, sp_X5_holder)]
theorem hcs_X5_claim {l : Launch} (hl0 : l.stackTraces = false) : ∀ q ∈ cs_X5_claim, zCallable l RX5 3 q := List.forall_mem_cons.mpr ⟨zcS (ps := [1137, 1138, 38, 1139]) (c_X5_in hl0) (by decide +kernel) ⟨by decide +kernel, by decide +kernel, by decide +kernel⟩ (by decide) (by decide), List.forall_mem_cons.mpr ⟨zcS (ps := [1134, 1135, 38, 1136]) (c_X5_isCell hl0) (by decide +kernel) ⟨by decide +kernel, by decide +kernel, by decide +kernel⟩ (by decide) (by decide), List.forall_mem_cons.mpr ⟨zcV (C := (RX5, TX5, 21)) (ps := [1176, 1178, 18, 38, 1179]) (c_X5_nameFor hl0) (by decide +kernel) rfl ⟨rfl, by decide +kernel, by decide +kernel, by decide +kernel⟩ (by decide) (by decide), List.forall_mem_cons.mpr ⟨zcV (C := (RX5, TX5, 21)) (ps := [1192, 1194, 21, 38, 1195]) (c_X5_holder hl0) (by decide +kernel) rfl ⟨rfl, by decide +kernel, by decide +kernel, by decide +kernel⟩ (by decide) (by decide), fun _ h => absurd h List.not_mem_nil⟩⟩⟩⟩
def th_X5_claim : List (Nat × String) := []
theorem hth_X5_claim : ∀ q ∈ th_X5_claim, zThrow cX5_claim RX5 q := fun _ h => absurd h List.not_mem_nil
def kc_X5_claim : List (Nat × Int32) := []
theorem hkc_X5_claim : ∀ q ∈ kc_X5_claim, Cond.constant RX5 q.1 q.2 ∈ zTs := fun _ h => absurd h List.not_mem_nil
def nw_X5_claim : List (Nat × Nat × Nat × List Value) := []
theorem hnw_X5_claim : ∀ q ∈ nw_X5_claim, zNew RX5 q := fun _ h => absurd h List.not_mem_nil
set_option maxHeartbeats 4000000 in
set_option maxRecDepth 20000 in
theorem c_X5_claim {l : Launch} (hl0 : l.stackTraces = false) : CT l yX5_claim (.code yX5_claim cX5_claim 3 (some .int)) 3 0 0 false sp_X5_claim := by
  refine zCT_of hl0 (own := RX5) fl_RX5 cs_X5_claim nw_X5_claim th_X5_claim kc_X5_claim (fun _ => []) false pg_X5_claim rfl (by decide +kernel) hp_X5_claim ⟨_, _, rfl, rfl⟩ hfl_RX5 (fun h => nomatch h) (hcs_X5_claim hl0) hnw_X5_claim hth_X5_claim (fun _ _ h => absurd h List.not_mem_nil) hkc_X5_claim (fun args w Q X v0 hv0 h => ?_)
  obtain ⟨α, ν, β, μ, r, c, x, y, hc, rfl, rfl, h1, h2⟩ := h
  refine ⟨Nat.le_of_ble_eq_true rfl, 100, [], ?_, fun q hq => absurd hq List.not_mem_nil⟩
  (conv => whnf)
  refine ⟨_, _, _, rfl, fun q => ?_, fun q => ?_⟩
  · obtain ⟨f, hf, rfl⟩ := vp_in_of ((vp_in_le (n := 5) (by decide)).mp q) (by decide)
    (conv => whnf)
    refine And.intro (fun c => absurd c (show ¬ _ from (by decide))) (fun _ => ?_)
    (conv => whnf)
    refine ⟨_, rfl, fun q => ?_, fun q => ?_⟩
    · obtain ⟨k, hk, rfl⟩ := vp_in_of q (by decide)
      have h3 := h2 f k hf hk rfl rfl
      have hc1 := hc.1
      have hc2 : zTh μ 0 3 = nI c := hc.2.1
      (conv => whnf)
      refine And.intro (fun c => absurd c (show ¬ _ from (by decide))) (fun _ => ?_)
      (conv => whnf)
      refine And.intro (fun c => absurd c (show ¬ _ from (by decide))) (fun _ => ?_)
      (conv => whnf)
      refine ⟨vp_in_nI hk (by decide), ?_⟩
      (conv => whnf)
      rw [nI_clamp (show k < 2 ^ 31 by omega)]
      refine And.intro (fun a => ?_) (fun a => ?_) <;> dsimp only at a
      · have hz : zHM β μ c (β 3 k) (-1) := Or.inl ⟨Or.inl a, rfl⟩
        (conv => whnf)
        refine And.intro (fun _ => ?_) (fun c => absurd (show _ from (by decide)) c)
        (conv => whnf)
        exact (h3 (-1) hz).1 (Or.inl (Or.inl a))
      · (conv => whnf)
        refine ⟨vp_in_nI hk (by decide), ?_⟩
        (conv => whnf)
        rw [nI_clamp (show k < 2 ^ 31 by omega)]
        refine ⟨α, ν, β, zTh μ 0, r, β 3 k, rfl, rfl, ?_⟩
        (conv => whnf)
        refine And.intro (fun b => ?_) (fun b => ?_) <;> dsimp only at b
        · have hz : zHM β μ c (β 3 k) (-1) := Or.inl ⟨Or.inr b, rfl⟩
          (conv => whnf)
          refine And.intro (fun _ => ?_) (fun c => absurd (show _ from (by decide)) c)
          (conv => whnf)
          exact (h3 (-1) hz).1 (Or.inl (Or.inr b))
        · have hnb : ¬ zBad β (β 3 k) := fun q => q.elim a b
          (conv => whnf)
          refine ⟨vp_in_nI hk (by decide), ?_⟩
          (conv => whnf)
          rw [nI_clamp (show k < 2 ^ 31 by omega)]
          refine ⟨α, ν, β, zTh μ 0, r, c, β 3 k, hc, rfl, rfl, fun z hz => ?_⟩
          obtain ⟨h4, h5⟩ := h3 z hz
          (conv => whnf)
          refine And.intro (fun e => ?_) (fun e => ?_)
          · have e2 : z = -1 := e
            (conv => whnf)
            have hc3 : (zTh μ 0) 3 = nI c := hc2
            rw [hc3]
            by_cases g : c = 40
            · subst g
              refine And.intro (fun _ => ?_) (fun c => absurd (show _ from rfl) c)
              (conv => whnf)
              refine And.intro (fun _ => ?_) (fun c => absurd (show _ from (by decide)) c)
              (conv => whnf)
              exact h4 (Or.inr (Or.inr rfl))
            · have hlt : c < 40 := by omega
              refine And.intro (fun c => absurd c (show ¬ _ from (fun q => g (nI_inj (by omega) (by decide) q)))) (fun _ => ?_)
              (conv => whnf)
              refine And.intro (fun c => absurd c (show ¬ _ from (by decide))) (fun _ => ?_)
              have hc4 : (zTh (zTh μ 0) 0) 3 = nI c := hc2
              (conv => whnf)
              rw [hc3]
              refine ⟨vp_in_nI hlt (by decide), ?_⟩
              (conv => whnf)
              refine ⟨vp_in_nI hlt (by decide), ?_⟩
              (conv => whnf)
              refine ⟨vp_in_nI hlt (by decide), ?_⟩
              have h6 := h5 hnb e2 hlt
              (conv => whnf)
              dsimp only [zkon]
              rw [nI_clamp (show c < 2 ^ 31 by omega), nI_add, pk_sub (show 1 ≤ c + 1 by omega), show c + 1 - 1 = c by omega]
              exact h6
          · (conv => whnf)
            refine And.intro (fun _ => ?_) (fun c => absurd (show _ from (by decide)) c)
            (conv => whnf)
            exact h4 (Or.inr (Or.inl e))
    · (conv => whnf)
      refine And.intro (fun _ => ?_) (fun c => absurd (show _ from rfl) c)
      (conv => whnf)
      refine And.intro (fun _ => ?_) (fun c => absurd (show _ from (by decide)) c)
      (conv => whnf)
      exact h1 (Or.inr q)
  · (conv => whnf)
    refine And.intro (fun _ => ?_) (fun c => absurd (show _ from rfl) c)
    (conv => whnf)
    refine And.intro (fun _ => ?_) (fun c => absurd (show _ from (by decide)) c)
    (conv => whnf)
    exact h1 (Or.inl (fun p => q ((vp_in_le (n := 5) (by decide)).mpr p)))
def sp_X5_renew : zSpec := fun args w Q _ => ∃ α ν β μ r c x, c ≤ 40 ∧ μ 3 = nI c ∧ args = [.ref 21, .int x] ∧ w = W2 α ν β μ r ∧ (¬ vp_in x c → Q (some (.int (nI 0))) (W2 α ν β (zTh μ 1) r)) ∧
  ∀ j, j < c → x = nI j → (¬ μ 0 - β 10 j < nI 28800 → Q (some (.int (nI 0))) (W2 α ν β (zTh μ 2) r)) ∧ (μ 0 - β 10 j < nI 28800 → Q (some (.int (β 10 j + nI 28800 - μ 0))) (W2 α ν (zu β 10 (upd (β 10) j (μ 0))) (zTh μ 0) r))
def pg_X5_renew : List zE := [(0, .aload_n 0, 1, []), (1, .iload_n 1, 1, []), (2, .iconst 0, 1, [0]), (3, .aload_n 0, 1, []), (4, .getfield 124, 3, []), (7, .iconst 1, 1, [1]), (8, .isub, 1, []), (9, .invokestatic 59, 3, []), (12, .ifCond .ne 7, 3, [19]), (15, .iconst 1, 1, [1]), (16, .goto 16, 3, [32]), (19, .aload_n 0, 1, []), (20, .iload_n 1, 1, []), (21, .invokevirtual 127, 3, []), (24, .ifCond .ne 7, 3, [31]), (27, .iconst 2, 1, [2]), (28, .goto 4, 3, [32]), (31, .iconst 0, 1, [0]), (32, .putfield 55, 3, []), (35, .aload_n 0, 1, []), (36, .getfield 55, 3, []), (39, .ifCond .le 5, 3, [44]), (42, .iconst 0, 1, [0]), (43, .ireturn, 1, []), (44, .aload_n 0, 1, []), (45, .getfield 37, 3, []), (48, .iload_n 1, 1, []), (49, .iaload, 1, []), (50, .sipush 28800, 3, [28800]), (53, .iadd, 1, []), (54, .aload_n 0, 1, []), (55, .getfield 98, 3, []), (58, .isub, 1, []), (59, .istore_n 2, 1, []), (60, .aload_n 0, 1, []), (61, .getfield 37, 3, []), (64, .iload_n 1, 1, []), (65, .aload_n 0, 1, []), (66, .getfield 98, 3, []), (69, .iastore, 1, []), (70, .iload_n 2, 1, []), (71, .ireturn, 1, [])]
theorem hp_X5_renew : ∀ q ∈ pg_X5_renew, decode cX5_renew q.1 = .ok (q.2.1, q.2.2.1) ∧ ztg q.2.1 q.1 q.2.2.1 q.2.2.2 = true := zpg_of (by decide +kernel)
def cs_X5_renew : List (Nat × zCall) := [(59, 1, 3, none, 0, 0, false, sp_X5_in), (127, 0, 2, some 6, 0, 0, false, sp_X5_isRunning)]
theorem hcs_X5_renew {l : Launch} (hl0 : l.stackTraces = false) : ∀ q ∈ cs_X5_renew, zCallable l RX5 2 q := List.forall_mem_cons.mpr ⟨zcS (ps := [1137, 1138, 38, 1139]) (c_X5_in hl0) (by decide +kernel) ⟨by decide +kernel, by decide +kernel, by decide +kernel⟩ (by decide) (by decide), List.forall_mem_cons.mpr ⟨zcV (C := (RX5, TX5, 21)) (ps := [1196, 1198, 22, 38, 1199]) (c_X5_isRunning hl0) (by decide +kernel) rfl ⟨rfl, by decide +kernel, by decide +kernel, by decide +kernel⟩ (by decide) (by decide), fun _ h => absurd h List.not_mem_nil⟩⟩
def th_X5_renew : List (Nat × String) := []
theorem hth_X5_renew : ∀ q ∈ th_X5_renew, zThrow cX5_renew RX5 q := fun _ h => absurd h List.not_mem_nil
def kc_X5_renew : List (Nat × Int32) := []
theorem hkc_X5_renew : ∀ q ∈ kc_X5_renew, Cond.constant RX5 q.1 q.2 ∈ zTs := fun _ h => absurd h List.not_mem_nil
def nw_X5_renew : List (Nat × Nat × Nat × List Value) := []
theorem hnw_X5_renew : ∀ q ∈ nw_X5_renew, zNew RX5 q := fun _ h => absurd h List.not_mem_nil
set_option maxHeartbeats 4000000 in
set_option maxRecDepth 20000 in
theorem c_X5_renew {l : Launch} (hl0 : l.stackTraces = false) : CT l yX5_renew (.code yX5_renew cX5_renew 3 (some .int)) 2 0 0 false sp_X5_renew := by
  refine zCT_of hl0 (own := RX5) fl_RX5 cs_X5_renew nw_X5_renew th_X5_renew kc_X5_renew (fun _ => []) false pg_X5_renew rfl (by decide +kernel) hp_X5_renew ⟨_, _, rfl, rfl⟩ hfl_RX5 (fun h => nomatch h) (hcs_X5_renew hl0) hnw_X5_renew hth_X5_renew (fun _ _ h => absurd h List.not_mem_nil) hkc_X5_renew (fun args w Q X v0 hv0 h => ?_)
  obtain ⟨α, ν, β, μ, r, c, x, hc, hμ, rfl, rfl, h1, h2⟩ := h
  refine ⟨Nat.le_of_ble_eq_true rfl, 80, [], ?_, fun q hq => absurd hq List.not_mem_nil⟩
  (conv => whnf)
  rw [hμ]
  refine ⟨x, nI 0, nI c - nI 1, rfl, fun q => ?_, fun q => ?_⟩
  · obtain ⟨j, hj, rfl⟩ := vp_in_of ((vp_in_cnt (by omega)).mp q) (by omega)
    obtain ⟨h3, h4⟩ := h2 j hj rfl
    (conv => whnf)
    refine And.intro (fun c => absurd c (show ¬ _ from (by decide))) (fun _ => ?_)
    (conv => whnf)
    refine ⟨α, ν, β, μ, r, j, by omega, rfl, rfl, fun e => ?_, fun e => ?_⟩
    · (conv => whnf)
      refine And.intro (fun c => absurd c (show ¬ _ from (by decide))) (fun _ => ?_)
      (conv => whnf)
      refine And.intro (fun c => absurd c (show ¬ _ from (by decide))) (fun _ => ?_)
      (conv => whnf)
      refine ⟨vp_in_nI (show j < 40 by omega) (by decide), ?_⟩
      (conv => whnf)
      refine ⟨vp_in_nI (show j < 40 by omega) (by decide), ?_⟩
      (conv => whnf)
      rw [nI_clamp (by omega)]
      exact h4 e
    · (conv => whnf)
      refine And.intro (fun _ => ?_) (fun c => absurd (show _ from rfl) c)
      (conv => whnf)
      refine And.intro (fun _ => ?_) (fun c => absurd (show _ from (by decide)) c)
      (conv => whnf)
      exact h3 e
  · (conv => whnf)
    refine And.intro (fun _ => ?_) (fun c => absurd (show _ from rfl) c)
    (conv => whnf)
    refine And.intro (fun _ => ?_) (fun c => absurd (show _ from (by decide)) c)
    (conv => whnf)
    exact h1 (fun p => q ((vp_in_cnt (by omega)).mpr p))
def sp_X5_advance : zSpec := fun args w Q _ => ∃ α ν β μ r t x, t ≤ 1000000 ∧ μ 0 = nI t ∧ args = [.ref 21, .int x] ∧ w = W2 α ν β μ r ∧ (x < nI 1 ∨ nI 14400 < x → ∀ μ', μ' 7 = nI 1 → (∀ i, i ≠ 7 → μ' i = μ i) → Q (some (.int (nI 0))) (W2 α ν β μ' r)) ∧
  ∀ j, j ≤ 14400 → x = nI j → ¬ x < nI 1 → ¬ nI 14400 < x → (1000000 < t + j → ∀ μ', μ' 7 = nI 2 → (∀ i, i ≠ 7 → μ' i = μ i) → Q (some (.int (nI 0))) (W2 α ν β μ' r)) ∧ (¬ 1000000 < t + j → Q (some (.int (nI (t + j)))) (W2 α ν β (zu (zTh μ 0) 0 (nI (t + j))) r))
theorem zTh_ne (μ : Nat → Int32) (t : Nat) (i : Nat) (h : i ≠ 7) : zTh μ t i = μ i := by
  unfold zTh zu
  cases e : Nat.beq i 7
  · rfl
  · exact absurd (Nat.eq_of_beq_eq_true e) h
theorem zu_self (μ : Nat → Int32) (k : Nat) (i : Nat) : zu μ k (μ k) i = μ i := by
  unfold zu
  cases e : Nat.beq i k
  · rfl
  · rw [Nat.eq_of_beq_eq_true e]
def pg_X5_advance : List zE := [(0, .aload_n 0, 1, []), (1, .iload_n 1, 1, []), (2, .iconst 1, 1, [1]), (3, .sipush 14400, 3, [14400]), (6, .invokestatic 59, 3, []), (9, .ifCond .ne 7, 3, [16]), (12, .iconst 1, 1, [1]), (13, .goto 19, 3, [32]), (16, .aload_n 0, 1, []), (17, .getfield 98, 3, []), (20, .iload_n 1, 1, []), (21, .iadd, 1, []), (22, .ldc 130, 2, []), (24, .if_icmp .le 7, 3, [31]), (27, .iconst 2, 1, [2]), (28, .goto 4, 3, [32]), (31, .iconst 0, 1, [0]), (32, .putfield 55, 3, []), (35, .aload_n 0, 1, []), (36, .dup, 1, []), (37, .getfield 98, 3, []), (40, .aload_n 0, 1, []), (41, .getfield 55, 3, []), (44, .ifCond .ne 7, 3, [51]), (47, .iload_n 1, 1, []), (48, .goto 4, 3, [52]), (51, .iconst 0, 1, [0]), (52, .iadd, 1, []), (53, .putfield 98, 3, []), (56, .aload_n 0, 1, []), (57, .getfield 55, 3, []), (60, .ifCond .ne 10, 3, [70]), (63, .aload_n 0, 1, []), (64, .getfield 98, 3, []), (67, .goto 4, 3, [71]), (70, .iconst 0, 1, [0]), (71, .ireturn, 1, [])]
theorem hp_X5_advance : ∀ q ∈ pg_X5_advance, decode cX5_advance q.1 = .ok (q.2.1, q.2.2.1) ∧ ztg q.2.1 q.1 q.2.2.1 q.2.2.2 = true := zpg_of (by decide +kernel)
def cs_X5_advance : List (Nat × zCall) := [(59, 1, 3, none, 0, 0, false, sp_X5_in)]
theorem hcs_X5_advance {l : Launch} (hl0 : l.stackTraces = false) : ∀ q ∈ cs_X5_advance, zCallable l RX5 2 q := List.forall_mem_cons.mpr ⟨zcS (ps := [1137, 1138, 38, 1139]) (c_X5_in hl0) (by decide +kernel) ⟨by decide +kernel, by decide +kernel, by decide +kernel⟩ (by decide) (by decide), fun _ h => absurd h List.not_mem_nil⟩
def th_X5_advance : List (Nat × String) := []
theorem hth_X5_advance : ∀ q ∈ th_X5_advance, zThrow cX5_advance RX5 q := fun _ h => absurd h List.not_mem_nil
def kc_X5_advance : List (Nat × Int32) := [(130, 1000000)]
theorem hkc_X5_advance : ∀ q ∈ kc_X5_advance, Cond.constant RX5 q.1 q.2 ∈ zTs := List.forall_mem_cons.mpr ⟨zmem (i := 1251) (by decide +kernel) rfl, fun _ h => absurd h List.not_mem_nil⟩
def nw_X5_advance : List (Nat × Nat × Nat × List Value) := []
theorem hnw_X5_advance : ∀ q ∈ nw_X5_advance, zNew RX5 q := fun _ h => absurd h List.not_mem_nil
set_option maxHeartbeats 4000000 in
set_option maxRecDepth 20000 in
theorem c_X5_advance {l : Launch} (hl0 : l.stackTraces = false) : CT l yX5_advance (.code yX5_advance cX5_advance 2 (some .int)) 2 0 0 false sp_X5_advance := by
  refine zCT_of hl0 (own := RX5) fl_RX5 cs_X5_advance nw_X5_advance th_X5_advance kc_X5_advance (fun _ => []) false pg_X5_advance rfl (by decide +kernel) hp_X5_advance ⟨_, _, rfl, rfl⟩ hfl_RX5 (fun h => nomatch h) (hcs_X5_advance hl0) hnw_X5_advance hth_X5_advance (fun _ _ h => absurd h List.not_mem_nil) hkc_X5_advance (fun args w Q X v0 hv0 h => ?_)
  obtain ⟨α, ν, β, μ, r, t, x, ht, hμ, rfl, rfl, h1, h2⟩ := h
  refine ⟨Nat.le_of_ble_eq_true rfl, 80, [], ?_, fun q hq => absurd hq List.not_mem_nil⟩
  (conv => whnf)
  refine ⟨x, nI 1, nI 14400, rfl, fun q => ?_, fun q => ?_⟩
  · obtain ⟨j, hj, rfl⟩ := nI_le_of5 (by decide) (by decide) (by decide) q.1 q.2
    obtain ⟨h3, h4⟩ := h2 j hj rfl q.1 q.2
    (conv => whnf)
    refine And.intro (fun c => absurd c (show ¬ _ from (by decide))) (fun _ => ?_)
    (conv => whnf)
    rw [hμ]
    have e0 : nI t + nI j = nI (t + j) := nI_add t j
    by_cases g : 1000000 < t + j
    · refine And.intro (fun _ => ?_) (fun c => absurd (show _ from (show (1000000 : Int32) < nI t + nI j by rw [e0]; exact nI_lt (a := 1000000) g (by omega))) c)
      (conv => whnf)
      refine And.intro (fun c => absurd c (show ¬ _ from (by decide))) (fun _ => ?_)
      have h5 := h3 g (zu (zTh μ 2) 0 (zTh μ 2 0 + nI 0)) rfl (fun i hi => by
        have e1 : zTh μ 2 0 + nI 0 = zTh μ 2 0 := by
          show μ 0 + nI 0 = μ 0
          rw [hμ]
          exact nI_add t 0
        rw [e1, zu_self]
        exact zTh_ne μ 2 i hi)
      (conv => whnf)
      refine And.intro (fun c => absurd c (show ¬ _ from (by decide))) (fun _ => ?_)
      (conv => whnf)
      exact h5
    · refine And.intro (fun c => absurd c (show ¬ _ from (show ¬ (1000000 : Int32) < nI t + nI j by rw [e0]; exact nI_nlt (a := 1000000) (by omega) (by decide)))) (fun _ => ?_)
      (conv => whnf)
      refine And.intro (fun _ => ?_) (fun c => absurd (show _ from rfl) c)
      have h5 := h4 g
      (conv => whnf)
      refine And.intro (fun _ => ?_) (fun c => absurd (show _ from rfl) c)
      (conv => whnf)
      dsimp only [zkon]
      have e9 : zTh μ 0 0 = nI t := hμ
      rw [hμ, e0]
      exact h5
  · (conv => whnf)
    refine And.intro (fun _ => ?_) (fun c => absurd (show _ from rfl) c)
    (conv => whnf)
    refine And.intro (fun c => absurd c (show ¬ _ from (by decide))) (fun _ => ?_)
    have h5 := h1 (nor_of q) (zu (zTh μ 1) 0 (zTh μ 1 0 + nI 0)) rfl (fun i hi => by
      have e1 : zTh μ 1 0 + nI 0 = zTh μ 1 0 := by
        show μ 0 + nI 0 = μ 0
        rw [hμ]
        exact nI_add t 0
      rw [e1, zu_self]
      exact zTh_ne μ 1 i hi)
    (conv => whnf)
    refine And.intro (fun c => absurd c (show ¬ _ from (by decide))) (fun _ => ?_)
    (conv => whnf)
    exact h5
def zGetM (i : Nat) : zSpec := fun args w Q _ => ∃ α ν β μ r, args = [.ref 21] ∧ w = W2 α ν β μ r ∧ Q (some (.int (μ i))) (W2 α ν β (zTh μ 0) r)
def sp_X5_minute : zSpec := zGetM 0
def pg_X5_minute : List zE := [(0, .aload_n 0, 1, []), (1, .iconst 0, 1, [0]), (2, .putfield 55, 3, []), (5, .aload_n 0, 1, []), (6, .getfield 98, 3, []), (9, .ireturn, 1, [])]
theorem hp_X5_minute : ∀ q ∈ pg_X5_minute, decode cX5_minute q.1 = .ok (q.2.1, q.2.2.1) ∧ ztg q.2.1 q.1 q.2.2.1 q.2.2.2 = true := zpg_of (by decide +kernel)
def cs_X5_minute : List (Nat × zCall) := []
theorem hcs_X5_minute {l : Launch} (hl0 : l.stackTraces = false) : ∀ q ∈ cs_X5_minute, zCallable l RX5 1 q := fun _ h => absurd h List.not_mem_nil
def th_X5_minute : List (Nat × String) := []
theorem hth_X5_minute : ∀ q ∈ th_X5_minute, zThrow cX5_minute RX5 q := fun _ h => absurd h List.not_mem_nil
def kc_X5_minute : List (Nat × Int32) := []
theorem hkc_X5_minute : ∀ q ∈ kc_X5_minute, Cond.constant RX5 q.1 q.2 ∈ zTs := fun _ h => absurd h List.not_mem_nil
def nw_X5_minute : List (Nat × Nat × Nat × List Value) := []
theorem hnw_X5_minute : ∀ q ∈ nw_X5_minute, zNew RX5 q := fun _ h => absurd h List.not_mem_nil
set_option maxHeartbeats 4000000 in
set_option maxRecDepth 20000 in
theorem c_X5_minute {l : Launch} (hl0 : l.stackTraces = false) : CT l yX5_minute (.code yX5_minute cX5_minute 1 (some .int)) 1 0 0 false sp_X5_minute := by
  refine zCT_of hl0 (own := RX5) fl_RX5 cs_X5_minute nw_X5_minute th_X5_minute kc_X5_minute (fun _ => []) false pg_X5_minute rfl (by decide +kernel) hp_X5_minute ⟨_, _, rfl, rfl⟩ hfl_RX5 (fun h => nomatch h) (hcs_X5_minute hl0) hnw_X5_minute hth_X5_minute (fun _ _ h => absurd h List.not_mem_nil) hkc_X5_minute (fun args w Q X v0 hv0 h => ?_)
  obtain ⟨α, ν, β, μ, r, rfl, rfl, hQ⟩ := h
  refine ⟨Nat.le_of_ble_eq_true rfl, 20, [], ?_, fun q hq => absurd hq List.not_mem_nil⟩
  (conv => whnf)
  exact hQ
def sp_X5_claims : zSpec := zGetM 3
def pg_X5_claims : List zE := [(0, .aload_n 0, 1, []), (1, .iconst 0, 1, [0]), (2, .putfield 55, 3, []), (5, .aload_n 0, 1, []), (6, .getfield 124, 3, []), (9, .ireturn, 1, [])]
theorem hp_X5_claims : ∀ q ∈ pg_X5_claims, decode cX5_claims q.1 = .ok (q.2.1, q.2.2.1) ∧ ztg q.2.1 q.1 q.2.2.1 q.2.2.2 = true := zpg_of (by decide +kernel)
def cs_X5_claims : List (Nat × zCall) := []
theorem hcs_X5_claims {l : Launch} (hl0 : l.stackTraces = false) : ∀ q ∈ cs_X5_claims, zCallable l RX5 1 q := fun _ h => absurd h List.not_mem_nil
def th_X5_claims : List (Nat × String) := []
theorem hth_X5_claims : ∀ q ∈ th_X5_claims, zThrow cX5_claims RX5 q := fun _ h => absurd h List.not_mem_nil
def kc_X5_claims : List (Nat × Int32) := []
theorem hkc_X5_claims : ∀ q ∈ kc_X5_claims, Cond.constant RX5 q.1 q.2 ∈ zTs := fun _ h => absurd h List.not_mem_nil
def nw_X5_claims : List (Nat × Nat × Nat × List Value) := []
theorem hnw_X5_claims : ∀ q ∈ nw_X5_claims, zNew RX5 q := fun _ h => absurd h List.not_mem_nil
set_option maxHeartbeats 4000000 in
set_option maxRecDepth 20000 in
theorem c_X5_claims {l : Launch} (hl0 : l.stackTraces = false) : CT l yX5_claims (.code yX5_claims cX5_claims 1 (some .int)) 1 0 0 false sp_X5_claims := by
  refine zCT_of hl0 (own := RX5) fl_RX5 cs_X5_claims nw_X5_claims th_X5_claims kc_X5_claims (fun _ => []) false pg_X5_claims rfl (by decide +kernel) hp_X5_claims ⟨_, _, rfl, rfl⟩ hfl_RX5 (fun h => nomatch h) (hcs_X5_claims hl0) hnw_X5_claims hth_X5_claims (fun _ _ h => absurd h List.not_mem_nil) hkc_X5_claims (fun args w Q X v0 hv0 h => ?_)
  obtain ⟨α, ν, β, μ, r, rfl, rfl, hQ⟩ := h
  refine ⟨Nat.le_of_ble_eq_true rfl, 20, [], ?_, fun q hq => absurd hq List.not_mem_nil⟩
  (conv => whnf)
  exact hQ
def sp_X5_things : zSpec := zGetM 4
def pg_X5_things : List zE := [(0, .aload_n 0, 1, []), (1, .iconst 0, 1, [0]), (2, .putfield 55, 3, []), (5, .aload_n 0, 1, []), (6, .getfield 118, 3, []), (9, .ireturn, 1, [])]
theorem hp_X5_things : ∀ q ∈ pg_X5_things, decode cX5_things q.1 = .ok (q.2.1, q.2.2.1) ∧ ztg q.2.1 q.1 q.2.2.1 q.2.2.2 = true := zpg_of (by decide +kernel)
def cs_X5_things : List (Nat × zCall) := []
theorem hcs_X5_things {l : Launch} (hl0 : l.stackTraces = false) : ∀ q ∈ cs_X5_things, zCallable l RX5 1 q := fun _ h => absurd h List.not_mem_nil
def th_X5_things : List (Nat × String) := []
theorem hth_X5_things : ∀ q ∈ th_X5_things, zThrow cX5_things RX5 q := fun _ h => absurd h List.not_mem_nil
def kc_X5_things : List (Nat × Int32) := []
theorem hkc_X5_things : ∀ q ∈ kc_X5_things, Cond.constant RX5 q.1 q.2 ∈ zTs := fun _ h => absurd h List.not_mem_nil
def nw_X5_things : List (Nat × Nat × Nat × List Value) := []
theorem hnw_X5_things : ∀ q ∈ nw_X5_things, zNew RX5 q := fun _ h => absurd h List.not_mem_nil
set_option maxHeartbeats 4000000 in
set_option maxRecDepth 20000 in
theorem c_X5_things {l : Launch} (hl0 : l.stackTraces = false) : CT l yX5_things (.code yX5_things cX5_things 1 (some .int)) 1 0 0 false sp_X5_things := by
  refine zCT_of hl0 (own := RX5) fl_RX5 cs_X5_things nw_X5_things th_X5_things kc_X5_things (fun _ => []) false pg_X5_things rfl (by decide +kernel) hp_X5_things ⟨_, _, rfl, rfl⟩ hfl_RX5 (fun h => nomatch h) (hcs_X5_things hl0) hnw_X5_things hth_X5_things (fun _ _ h => absurd h List.not_mem_nil) hkc_X5_things (fun args w Q X v0 hv0 h => ?_)
  obtain ⟨α, ν, β, μ, r, rfl, rfl, hQ⟩ := h
  refine ⟨Nat.le_of_ble_eq_true rfl, 20, [], ?_, fun q hq => absurd hq List.not_mem_nil⟩
  (conv => whnf)
  exact hQ
def sp_X5_kept : zSpec := zGetM 5
def pg_X5_kept : List zE := [(0, .aload_n 0, 1, []), (1, .iconst 0, 1, [0]), (2, .putfield 55, 3, []), (5, .aload_n 0, 1, []), (6, .getfield 121, 3, []), (9, .ireturn, 1, [])]
theorem hp_X5_kept : ∀ q ∈ pg_X5_kept, decode cX5_kept q.1 = .ok (q.2.1, q.2.2.1) ∧ ztg q.2.1 q.1 q.2.2.1 q.2.2.2 = true := zpg_of (by decide +kernel)
def cs_X5_kept : List (Nat × zCall) := []
theorem hcs_X5_kept {l : Launch} (hl0 : l.stackTraces = false) : ∀ q ∈ cs_X5_kept, zCallable l RX5 1 q := fun _ h => absurd h List.not_mem_nil
def th_X5_kept : List (Nat × String) := []
theorem hth_X5_kept : ∀ q ∈ th_X5_kept, zThrow cX5_kept RX5 q := fun _ h => absurd h List.not_mem_nil
def kc_X5_kept : List (Nat × Int32) := []
theorem hkc_X5_kept : ∀ q ∈ kc_X5_kept, Cond.constant RX5 q.1 q.2 ∈ zTs := fun _ h => absurd h List.not_mem_nil
def nw_X5_kept : List (Nat × Nat × Nat × List Value) := []
theorem hnw_X5_kept : ∀ q ∈ nw_X5_kept, zNew RX5 q := fun _ h => absurd h List.not_mem_nil
set_option maxHeartbeats 4000000 in
set_option maxRecDepth 20000 in
theorem c_X5_kept {l : Launch} (hl0 : l.stackTraces = false) : CT l yX5_kept (.code yX5_kept cX5_kept 1 (some .int)) 1 0 0 false sp_X5_kept := by
  refine zCT_of hl0 (own := RX5) fl_RX5 cs_X5_kept nw_X5_kept th_X5_kept kc_X5_kept (fun _ => []) false pg_X5_kept rfl (by decide +kernel) hp_X5_kept ⟨_, _, rfl, rfl⟩ hfl_RX5 (fun h => nomatch h) (hcs_X5_kept hl0) hnw_X5_kept hth_X5_kept (fun _ _ h => absurd h List.not_mem_nil) hkc_X5_kept (fun args w Q X v0 hv0 h => ?_)
  obtain ⟨α, ν, β, μ, r, rfl, rfl, hQ⟩ := h
  refine ⟨Nat.le_of_ble_eq_true rfl, 20, [], ?_, fun q hq => absurd hq List.not_mem_nil⟩
  (conv => whnf)
  exact hQ
def sp_X5_finder : zSpec := fun args w Q _ => ∃ α ν β μ r c x, zCm β μ c ∧ args = [.ref 21, .int x] ∧ w = W2 α ν β μ r ∧ (¬ vp_in x 96 → Q (some (.int (nI 0))) (W2 α ν β (zTh μ 1) r)) ∧ ∀ k, k < 96 → x = nI k → ∀ z, zHM β μ c (β 3 k) z → Q (some (.int (zfd (β 8) z))) (W2 α ν β (zTh μ 0) r)
def pg_X5_finder : List zE := [(0, .aload_n 0, 1, []), (1, .iload_n 1, 1, []), (2, .invokevirtual 75, 3, []), (5, .ifCond .ne 5, 3, [10]), (8, .iconst 0, 1, [0]), (9, .ireturn, 1, []), (10, .aload_n 0, 1, []), (11, .aload_n 0, 1, []), (12, .getfield 19, 3, []), (15, .iload_n 1, 1, []), (16, .iaload, 1, []), (17, .invokevirtual 95, 3, []), (20, .istore_n 2, 1, []), (21, .iload_n 2, 1, []), (22, .iconst (-1), 1, []), (23, .if_icmp .ne 7, 3, [30]), (26, .iconst (-1), 1, []), (27, .goto 9, 3, [36]), (30, .aload_n 0, 1, []), (31, .getfield 31, 3, []), (34, .iload_n 2, 1, []), (35, .iaload, 1, []), (36, .ireturn, 1, [])]
theorem hp_X5_finder : ∀ q ∈ pg_X5_finder, decode cX5_finder q.1 = .ok (q.2.1, q.2.2.1) ∧ ztg q.2.1 q.1 q.2.2.1 q.2.2.2 = true := zpg_of (by decide +kernel)
def cs_X5_finder : List (Nat × zCall) := [(75, 0, 2, some 6, 0, 0, false, sp_X5_isTold), (95, 0, 2, some 6, 0, 0, false, sp_X5_holder)]
theorem hcs_X5_finder {l : Launch} (hl0 : l.stackTraces = false) : ∀ q ∈ cs_X5_finder, zCallable l RX5 4 q := List.forall_mem_cons.mpr ⟨zcV (C := (RX5, TX5, 21)) (ps := [1156, 1158, 16, 38, 1159]) (c_X5_isTold hl0) (by decide +kernel) rfl ⟨rfl, by decide +kernel, by decide +kernel, by decide +kernel⟩ (by decide) (by decide), List.forall_mem_cons.mpr ⟨zcV (C := (RX5, TX5, 21)) (ps := [1192, 1194, 21, 38, 1195]) (c_X5_holder hl0) (by decide +kernel) rfl ⟨rfl, by decide +kernel, by decide +kernel, by decide +kernel⟩ (by decide) (by decide), fun _ h => absurd h List.not_mem_nil⟩⟩
def th_X5_finder : List (Nat × String) := []
theorem hth_X5_finder : ∀ q ∈ th_X5_finder, zThrow cX5_finder RX5 q := fun _ h => absurd h List.not_mem_nil
def kc_X5_finder : List (Nat × Int32) := []
theorem hkc_X5_finder : ∀ q ∈ kc_X5_finder, Cond.constant RX5 q.1 q.2 ∈ zTs := fun _ h => absurd h List.not_mem_nil
def nw_X5_finder : List (Nat × Nat × Nat × List Value) := []
theorem hnw_X5_finder : ∀ q ∈ nw_X5_finder, zNew RX5 q := fun _ h => absurd h List.not_mem_nil
set_option maxHeartbeats 4000000 in
set_option maxRecDepth 20000 in
theorem c_X5_finder {l : Launch} (hl0 : l.stackTraces = false) : CT l yX5_finder (.code yX5_finder cX5_finder 3 (some .int)) 4 0 0 false sp_X5_finder := by
  refine zCT_of hl0 (own := RX5) fl_RX5 cs_X5_finder nw_X5_finder th_X5_finder kc_X5_finder (fun _ => []) false pg_X5_finder rfl (by decide +kernel) hp_X5_finder ⟨_, _, rfl, rfl⟩ hfl_RX5 (fun h => nomatch h) (hcs_X5_finder hl0) hnw_X5_finder hth_X5_finder (fun _ _ h => absurd h List.not_mem_nil) hkc_X5_finder (fun args w Q X v0 hv0 h => ?_)
  obtain ⟨α, ν, β, μ, r, c, x, hc, rfl, rfl, h1, h2⟩ := h
  refine ⟨Nat.le_of_ble_eq_true rfl, 60, [], ?_, fun q hq => absurd hq List.not_mem_nil⟩
  (conv => whnf)
  refine ⟨_, _, _, _, _, _, rfl, rfl, fun q => ?_, fun q => ?_⟩
  · obtain ⟨k, hk, rfl⟩ := vp_in_of q (by decide)
    (conv => whnf)
    refine And.intro (fun c => absurd c (show ¬ _ from (by decide))) (fun _ => ?_)
    (conv => whnf)
    refine ⟨vp_in_nI hk (by decide), ?_⟩
    (conv => whnf)
    rw [nI_clamp (by omega)]
    refine ⟨α, ν, β, zTh μ 0, r, c, β 3 k, hc, rfl, rfl, fun z hz => ?_⟩
    have h3 := h2 k hk rfl z hz
    rcases zHr_of hz with rfl | ⟨j, hj, rfl⟩
    · (conv => whnf)
      refine And.intro (fun _ => ?_) (fun c => absurd (show _ from rfl) c)
      (conv => whnf)
      exact h3
    · have hj2 : j < 40 := by have := hc.1; omega
      (conv => whnf)
      refine And.intro (fun c => absurd c (show ¬ _ from (nI_ne_m1 (show j < 2 ^ 31 by omega)))) (fun _ => ?_)
      (conv => whnf)
      refine ⟨vp_in_nI hj2 (by decide), ?_⟩
      (conv => whnf)
      rw [nI_clamp (show j < 2 ^ 31 by omega)]
      rw [zfd_j _ (show j < 2 ^ 31 by omega)] at h3
      exact h3
  · (conv => whnf)
    refine And.intro (fun _ => ?_) (fun c => absurd (show _ from rfl) c)
    (conv => whnf)
    exact h1 q
def sp_X5_finderBySoundings : zSpec := sp_X5_finder
def pg_X5_finderBySoundings : List zE := [(0, .aload_n 0, 1, []), (1, .iload_n 1, 1, []), (2, .invokevirtual 131, 3, []), (5, .ireturn, 1, [])]
theorem hp_X5_finderBySoundings : ∀ q ∈ pg_X5_finderBySoundings, decode cX5_finderBySoundings q.1 = .ok (q.2.1, q.2.2.1) ∧ ztg q.2.1 q.1 q.2.2.1 q.2.2.2 = true := zpg_of (by decide +kernel)
def cs_X5_finderBySoundings : List (Nat × zCall) := [(131, 0, 2, some 6, 0, 0, false, sp_X5_finder)]
theorem hcs_X5_finderBySoundings {l : Launch} (hl0 : l.stackTraces = false) : ∀ q ∈ cs_X5_finderBySoundings, zCallable l RX5 5 q := List.forall_mem_cons.mpr ⟨zcV (C := (RX5, TX5, 21)) (ps := [1264, 1257, 1258, 38, 1259]) (c_X5_finder hl0) (by decide +kernel) rfl ⟨rfl, by decide +kernel, by decide +kernel, by decide +kernel⟩ (by decide) (by decide), fun _ h => absurd h List.not_mem_nil⟩
def th_X5_finderBySoundings : List (Nat × String) := []
theorem hth_X5_finderBySoundings : ∀ q ∈ th_X5_finderBySoundings, zThrow cX5_finderBySoundings RX5 q := fun _ h => absurd h List.not_mem_nil
def kc_X5_finderBySoundings : List (Nat × Int32) := []
theorem hkc_X5_finderBySoundings : ∀ q ∈ kc_X5_finderBySoundings, Cond.constant RX5 q.1 q.2 ∈ zTs := fun _ h => absurd h List.not_mem_nil
def nw_X5_finderBySoundings : List (Nat × Nat × Nat × List Value) := []
theorem hnw_X5_finderBySoundings : ∀ q ∈ nw_X5_finderBySoundings, zNew RX5 q := fun _ h => absurd h List.not_mem_nil
set_option maxHeartbeats 4000000 in
set_option maxRecDepth 20000 in
theorem c_X5_finderBySoundings {l : Launch} (hl0 : l.stackTraces = false) : CT l yX5_finderBySoundings (.code yX5_finderBySoundings cX5_finderBySoundings 2 (some .int)) 5 0 0 false sp_X5_finderBySoundings := by
  refine zCT_of hl0 (own := RX5) fl_RX5 cs_X5_finderBySoundings nw_X5_finderBySoundings th_X5_finderBySoundings kc_X5_finderBySoundings (fun _ => []) false pg_X5_finderBySoundings rfl (by decide +kernel) hp_X5_finderBySoundings ⟨_, _, rfl, rfl⟩ hfl_RX5 (fun h => nomatch h) (hcs_X5_finderBySoundings hl0) hnw_X5_finderBySoundings hth_X5_finderBySoundings (fun _ _ h => absurd h List.not_mem_nil) hkc_X5_finderBySoundings (fun args w Q X v0 hv0 h => ?_)
  obtain ⟨α, ν, β, μ, r, c, x, hc, rfl, rfl, h1, h2⟩ := h
  refine ⟨Nat.le_of_ble_eq_true rfl, 20, [], ?_, fun q hq => absurd hq List.not_mem_nil⟩
  (conv => whnf)
  refine ⟨α, ν, β, μ, r, c, x, hc, rfl, rfl, fun q => ?_, fun k hk e z hz => ?_⟩
  · (conv => whnf)
    exact h1 q
  · (conv => whnf)
    exact h2 k hk e z hz
def sp_X5_runs : zSpec := fun args w Q _ => ∃ α ν β μ r c x, c ≤ 40 ∧ μ 3 = nI c ∧ args = [.ref 21, .int x] ∧ w = W2 α ν β μ r ∧ (¬ vp_in x c → Q (some (.int 0)) (W2 α ν β (zTh μ 1) r)) ∧ ∀ j, j < c → x = nI j → zB Q (μ 0 - β 10 j < nI 28800) (W2 α ν β (zTh μ 0) r)
def pg_X5_runs : List zE := [(0, .aload_n 0, 1, []), (1, .iload_n 1, 1, []), (2, .invokevirtual 134, 3, []), (5, .ifCond .eq 15, 3, [20]), (8, .aload_n 0, 1, []), (9, .iload_n 1, 1, []), (10, .invokevirtual 127, 3, []), (13, .ifCond .eq 7, 3, [20]), (16, .iconst 1, 1, [1]), (17, .goto 4, 3, [21]), (20, .iconst 0, 1, [0]), (21, .ireturn, 1, [])]
theorem hp_X5_runs : ∀ q ∈ pg_X5_runs, decode cX5_runs q.1 = .ok (q.2.1, q.2.2.1) ∧ ztg q.2.1 q.1 q.2.2.1 q.2.2.2 = true := zpg_of (by decide +kernel)
def cs_X5_runs : List (Nat × zCall) := [(134, 0, 2, some 6, 0, 0, false, sp_X5_isClaim), (127, 0, 2, some 6, 0, 0, false, sp_X5_isRunning)]
theorem hcs_X5_runs {l : Launch} (hl0 : l.stackTraces = false) : ∀ q ∈ cs_X5_runs, zCallable l RX5 3 q := List.forall_mem_cons.mpr ⟨zcV (C := (RX5, TX5, 21)) (ps := [1273, 1275, 25, 38, 1276]) (c_X5_isClaim hl0) (by decide +kernel) rfl ⟨rfl, by decide +kernel, by decide +kernel, by decide +kernel⟩ (by decide) (by decide), List.forall_mem_cons.mpr ⟨zcV (C := (RX5, TX5, 21)) (ps := [1196, 1198, 22, 38, 1199]) (c_X5_isRunning hl0) (by decide +kernel) rfl ⟨rfl, by decide +kernel, by decide +kernel, by decide +kernel⟩ (by decide) (by decide), fun _ h => absurd h List.not_mem_nil⟩⟩
def th_X5_runs : List (Nat × String) := []
theorem hth_X5_runs : ∀ q ∈ th_X5_runs, zThrow cX5_runs RX5 q := fun _ h => absurd h List.not_mem_nil
def kc_X5_runs : List (Nat × Int32) := []
theorem hkc_X5_runs : ∀ q ∈ kc_X5_runs, Cond.constant RX5 q.1 q.2 ∈ zTs := fun _ h => absurd h List.not_mem_nil
def nw_X5_runs : List (Nat × Nat × Nat × List Value) := []
theorem hnw_X5_runs : ∀ q ∈ nw_X5_runs, zNew RX5 q := fun _ h => absurd h List.not_mem_nil
set_option maxHeartbeats 4000000 in
set_option maxRecDepth 20000 in
theorem c_X5_runs {l : Launch} (hl0 : l.stackTraces = false) : CT l yX5_runs (.code yX5_runs cX5_runs 2 (some .boolean)) 3 0 0 false sp_X5_runs := by
  refine zCT_of hl0 (own := RX5) fl_RX5 cs_X5_runs nw_X5_runs th_X5_runs kc_X5_runs (fun _ => []) false pg_X5_runs rfl (by decide +kernel) hp_X5_runs ⟨_, _, rfl, rfl⟩ hfl_RX5 (fun h => nomatch h) (hcs_X5_runs hl0) hnw_X5_runs hth_X5_runs (fun _ _ h => absurd h List.not_mem_nil) hkc_X5_runs (fun args w Q X v0 hv0 h => ?_)
  obtain ⟨α, ν, β, μ, r, c, x, hc, hμ, rfl, rfl, h1, h2⟩ := h
  refine ⟨Nat.le_of_ble_eq_true rfl, 60, [], ?_, fun q hq => absurd hq List.not_mem_nil⟩
  (conv => whnf)
  refine ⟨α, ν, β, μ, r, c, x, hc, hμ, rfl, rfl, fun q => ?_, fun q => ?_⟩
  · obtain ⟨j, hj, rfl⟩ := vp_in_of q (by omega)
    obtain ⟨h3, h4⟩ := h2 j hj rfl
    (conv => whnf)
    refine And.intro (fun c => absurd c (show ¬ _ from (by decide))) (fun _ => ?_)
    (conv => whnf)
    refine ⟨α, ν, β, zTh μ 0, r, j, by omega, rfl, rfl, fun e => ?_, fun e => ?_⟩
    · (conv => whnf)
      refine And.intro (fun c => absurd c (show ¬ _ from (by decide))) (fun _ => ?_)
      (conv => whnf)
      exact ⟨Or.inr rfl, h3 e⟩
    · (conv => whnf)
      refine And.intro (fun _ => ?_) (fun c => absurd (show _ from rfl) c)
      (conv => whnf)
      exact ⟨Or.inl rfl, h4 e⟩
  · (conv => whnf)
    refine And.intro (fun _ => ?_) (fun c => absurd (show _ from rfl) c)
    (conv => whnf)
    exact ⟨Or.inl rfl, h1 q⟩
def sp_X5_holds : zSpec := fun args w Q _ => ∃ α ν β μ r c x, zCm β μ c ∧ args = [.ref 21, .int x] ∧ w = W2 α ν β μ r ∧ (¬ vp_in x c → Q (some (.int 0)) (W2 α ν β (zTh μ 1) r)) ∧ ∀ j k, j < c → k < 96 → x = nI j → β 9 j = nI k → ∀ z, zHM β μ c (β 3 k) z → zB Q (z = nI j) (W2 α ν β (zTh μ 0) r)
def pg_X5_holds : List zE := [(0, .aload_n 0, 1, []), (1, .iload_n 1, 1, []), (2, .invokevirtual 134, 3, []), (5, .ifCond .eq 26, 3, [31]), (8, .aload_n 0, 1, []), (9, .aload_n 0, 1, []), (10, .getfield 19, 3, []), (13, .aload_n 0, 1, []), (14, .getfield 34, 3, []), (17, .iload_n 1, 1, []), (18, .iaload, 1, []), (19, .iaload, 1, []), (20, .invokevirtual 95, 3, []), (23, .iload_n 1, 1, []), (24, .if_icmp .ne 7, 3, [31]), (27, .iconst 1, 1, [1]), (28, .goto 4, 3, [32]), (31, .iconst 0, 1, [0]), (32, .ireturn, 1, [])]
theorem hp_X5_holds : ∀ q ∈ pg_X5_holds, decode cX5_holds q.1 = .ok (q.2.1, q.2.2.1) ∧ ztg q.2.1 q.1 q.2.2.1 q.2.2.2 = true := zpg_of (by decide +kernel)
def cs_X5_holds : List (Nat × zCall) := [(134, 0, 2, some 6, 0, 0, false, sp_X5_isClaim), (95, 0, 2, some 6, 0, 0, false, sp_X5_holder)]
theorem hcs_X5_holds {l : Launch} (hl0 : l.stackTraces = false) : ∀ q ∈ cs_X5_holds, zCallable l RX5 3 q := List.forall_mem_cons.mpr ⟨zcV (C := (RX5, TX5, 21)) (ps := [1273, 1275, 25, 38, 1276]) (c_X5_isClaim hl0) (by decide +kernel) rfl ⟨rfl, by decide +kernel, by decide +kernel, by decide +kernel⟩ (by decide) (by decide), List.forall_mem_cons.mpr ⟨zcV (C := (RX5, TX5, 21)) (ps := [1192, 1194, 21, 38, 1195]) (c_X5_holder hl0) (by decide +kernel) rfl ⟨rfl, by decide +kernel, by decide +kernel, by decide +kernel⟩ (by decide) (by decide), fun _ h => absurd h List.not_mem_nil⟩⟩
def th_X5_holds : List (Nat × String) := []
theorem hth_X5_holds : ∀ q ∈ th_X5_holds, zThrow cX5_holds RX5 q := fun _ h => absurd h List.not_mem_nil
def kc_X5_holds : List (Nat × Int32) := []
theorem hkc_X5_holds : ∀ q ∈ kc_X5_holds, Cond.constant RX5 q.1 q.2 ∈ zTs := fun _ h => absurd h List.not_mem_nil
def nw_X5_holds : List (Nat × Nat × Nat × List Value) := []
theorem hnw_X5_holds : ∀ q ∈ nw_X5_holds, zNew RX5 q := fun _ h => absurd h List.not_mem_nil
set_option maxHeartbeats 4000000 in
set_option maxRecDepth 20000 in
theorem c_X5_holds {l : Launch} (hl0 : l.stackTraces = false) : CT l yX5_holds (.code yX5_holds cX5_holds 2 (some .boolean)) 3 0 0 false sp_X5_holds := by
  refine zCT_of hl0 (own := RX5) fl_RX5 cs_X5_holds nw_X5_holds th_X5_holds kc_X5_holds (fun _ => []) false pg_X5_holds rfl (by decide +kernel) hp_X5_holds ⟨_, _, rfl, rfl⟩ hfl_RX5 (fun h => nomatch h) (hcs_X5_holds hl0) hnw_X5_holds hth_X5_holds (fun _ _ h => absurd h List.not_mem_nil) hkc_X5_holds (fun args w Q X v0 hv0 h => ?_)
  obtain ⟨α, ν, β, μ, r, c, x, hc, rfl, rfl, h1, h2⟩ := h
  refine ⟨Nat.le_of_ble_eq_true rfl, 60, [], ?_, fun q hq => absurd hq List.not_mem_nil⟩
  (conv => whnf)
  refine ⟨α, ν, β, μ, r, c, x, hc.1, hc.2.1, rfl, rfl, fun q => ?_, fun q => ?_⟩
  · obtain ⟨j, hj, rfl⟩ := vp_in_of q (by have := hc.1; omega)
    obtain ⟨k, hk, e⟩ := hc.2.2 j hj
    have hj2 : j < 40 := by have := hc.1; omega
    (conv => whnf)
    refine And.intro (fun c => absurd c (show ¬ _ from (by decide))) (fun _ => ?_)
    (conv => whnf)
    refine ⟨vp_in_nI hj2 (by decide), ?_⟩
    (conv => whnf)
    rw [nI_clamp (show j < 2 ^ 31 by omega), e]
    refine ⟨vp_in_nI hk (by decide), ?_⟩
    (conv => whnf)
    rw [nI_clamp (show k < 2 ^ 31 by omega)]
    refine ⟨α, ν, β, zTh μ 0, r, c, β 3 k, hc, rfl, rfl, fun z hz => ?_⟩
    obtain ⟨h3, h4⟩ := h2 j k hj hk rfl e z hz
    (conv => whnf)
    refine And.intro (fun g => ?_) (fun g => ?_)
    · (conv => whnf)
      exact ⟨Or.inr rfl, h3 g⟩
    · (conv => whnf)
      exact ⟨Or.inl rfl, h4 g⟩
  · (conv => whnf)
    refine And.intro (fun _ => ?_) (fun c => absurd (show _ from rfl) c)
    (conv => whnf)
    exact ⟨Or.inl rfl, h1 q⟩
def sp_X5_isThing : zSpec := fun args w Q _ => ∃ α ν β μ r c x, c ≤ 60 ∧ μ 4 = nI c ∧ args = [.ref 21, .int x] ∧ w = W2 α ν β μ r ∧ (vp_in x c → Q (some (.int 1)) (W2 α ν β (zTh μ 0) r)) ∧ (¬ vp_in x c → Q (some (.int 0)) (W2 α ν β (zTh μ 1) r))
def pg_X5_isThing : List zE := [(0, .aload_n 0, 1, []), (1, .iload_n 1, 1, []), (2, .iconst 0, 1, [0]), (3, .aload_n 0, 1, []), (4, .getfield 118, 3, []), (7, .iconst 1, 1, [1]), (8, .isub, 1, []), (9, .invokestatic 59, 3, []), (12, .ifCond .eq 7, 3, [19]), (15, .iconst 0, 1, [0]), (16, .goto 4, 3, [20]), (19, .iconst 1, 1, [1]), (20, .putfield 55, 3, []), (23, .aload_n 0, 1, []), (24, .getfield 55, 3, []), (27, .ifCond .ne 7, 3, [34]), (30, .iconst 1, 1, [1]), (31, .goto 4, 3, [35]), (34, .iconst 0, 1, [0]), (35, .ireturn, 1, [])]
theorem hp_X5_isThing : ∀ q ∈ pg_X5_isThing, decode cX5_isThing q.1 = .ok (q.2.1, q.2.2.1) ∧ ztg q.2.1 q.1 q.2.2.1 q.2.2.2 = true := zpg_of (by decide +kernel)
def cs_X5_isThing : List (Nat × zCall) := [(59, 1, 3, none, 0, 0, false, sp_X5_in)]
theorem hcs_X5_isThing {l : Launch} (hl0 : l.stackTraces = false) : ∀ q ∈ cs_X5_isThing, zCallable l RX5 2 q := List.forall_mem_cons.mpr ⟨zcS (ps := [1137, 1138, 38, 1139]) (c_X5_in hl0) (by decide +kernel) ⟨by decide +kernel, by decide +kernel, by decide +kernel⟩ (by decide) (by decide), fun _ h => absurd h List.not_mem_nil⟩
def th_X5_isThing : List (Nat × String) := []
theorem hth_X5_isThing : ∀ q ∈ th_X5_isThing, zThrow cX5_isThing RX5 q := fun _ h => absurd h List.not_mem_nil
def kc_X5_isThing : List (Nat × Int32) := []
theorem hkc_X5_isThing : ∀ q ∈ kc_X5_isThing, Cond.constant RX5 q.1 q.2 ∈ zTs := fun _ h => absurd h List.not_mem_nil
def nw_X5_isThing : List (Nat × Nat × Nat × List Value) := []
theorem hnw_X5_isThing : ∀ q ∈ nw_X5_isThing, zNew RX5 q := fun _ h => absurd h List.not_mem_nil
set_option maxHeartbeats 4000000 in
set_option maxRecDepth 20000 in
theorem c_X5_isThing {l : Launch} (hl0 : l.stackTraces = false) : CT l yX5_isThing (.code yX5_isThing cX5_isThing 2 (some .boolean)) 2 0 0 false sp_X5_isThing := by
  refine zCT_of hl0 (own := RX5) fl_RX5 cs_X5_isThing nw_X5_isThing th_X5_isThing kc_X5_isThing (fun _ => []) false pg_X5_isThing rfl (by decide +kernel) hp_X5_isThing ⟨_, _, rfl, rfl⟩ hfl_RX5 (fun h => nomatch h) (hcs_X5_isThing hl0) hnw_X5_isThing hth_X5_isThing (fun _ _ h => absurd h List.not_mem_nil) hkc_X5_isThing (fun args w Q X v0 hv0 h => ?_)
  obtain ⟨α, ν, β, μ, r, c, x, hc, hμ, rfl, rfl, h1, h2⟩ := h
  refine ⟨Nat.le_of_ble_eq_true rfl, 60, [], ?_, fun q hq => absurd hq List.not_mem_nil⟩
  (conv => whnf)
  rw [hμ]
  refine ⟨x, nI 0, nI c - nI 1, rfl, fun q => ?_, fun q => ?_⟩
  · (conv => whnf)
    refine And.intro (fun c => absurd c (show ¬ _ from (by decide))) (fun _ => ?_)
    (conv => whnf)
    refine And.intro (fun _ => ?_) (fun c => absurd (show _ from rfl) c)
    (conv => whnf)
    exact ⟨Or.inr rfl, h1 ((vp_in_cnt (by omega)).mp q)⟩
  · (conv => whnf)
    refine And.intro (fun _ => ?_) (fun c => absurd (show _ from rfl) c)
    (conv => whnf)
    refine And.intro (fun c => absurd c (show ¬ _ from (by decide))) (fun _ => ?_)
    (conv => whnf)
    exact ⟨Or.inl rfl, h2 (fun p => q ((vp_in_cnt (by omega)).mpr p))⟩
def zThgM (i : Nat) : zSpec := fun args w Q _ => ∃ α ν β μ r c x, c ≤ 60 ∧ μ 4 = nI c ∧ args = [.ref 21, .int x] ∧ w = W2 α ν β μ r ∧ (¬ vp_in x c → Q (some (.int (nI 0))) (W2 α ν β (zTh μ 1) r)) ∧ ∀ j, j < c → x = nI j → Q (some (.int (β i j))) (W2 α ν β (zTh μ 0) r)
def sp_X5_shapeOfThing : zSpec := zThgM 11
def pg_X5_shapeOfThing : List zE := [(0, .aload_n 0, 1, []), (1, .iload_n 1, 1, []), (2, .invokevirtual 137, 3, []), (5, .ifCond .eq 12, 3, [17]), (8, .aload_n 0, 1, []), (9, .getfield 40, 3, []), (12, .iload_n 1, 1, []), (13, .iaload, 1, []), (14, .goto 4, 3, [18]), (17, .iconst 0, 1, [0]), (18, .ireturn, 1, [])]
theorem hp_X5_shapeOfThing : ∀ q ∈ pg_X5_shapeOfThing, decode cX5_shapeOfThing q.1 = .ok (q.2.1, q.2.2.1) ∧ ztg q.2.1 q.1 q.2.2.1 q.2.2.2 = true := zpg_of (by decide +kernel)
def cs_X5_shapeOfThing : List (Nat × zCall) := [(137, 0, 2, some 6, 0, 0, false, sp_X5_isThing)]
theorem hcs_X5_shapeOfThing {l : Launch} (hl0 : l.stackTraces = false) : ∀ q ∈ cs_X5_shapeOfThing, zCallable l RX5 3 q := List.forall_mem_cons.mpr ⟨zcV (C := (RX5, TX5, 21)) (ps := [1289, 1291, 26, 38, 1292]) (c_X5_isThing hl0) (by decide +kernel) rfl ⟨rfl, by decide +kernel, by decide +kernel, by decide +kernel⟩ (by decide) (by decide), fun _ h => absurd h List.not_mem_nil⟩
def th_X5_shapeOfThing : List (Nat × String) := []
theorem hth_X5_shapeOfThing : ∀ q ∈ th_X5_shapeOfThing, zThrow cX5_shapeOfThing RX5 q := fun _ h => absurd h List.not_mem_nil
def kc_X5_shapeOfThing : List (Nat × Int32) := []
theorem hkc_X5_shapeOfThing : ∀ q ∈ kc_X5_shapeOfThing, Cond.constant RX5 q.1 q.2 ∈ zTs := fun _ h => absurd h List.not_mem_nil
def nw_X5_shapeOfThing : List (Nat × Nat × Nat × List Value) := []
theorem hnw_X5_shapeOfThing : ∀ q ∈ nw_X5_shapeOfThing, zNew RX5 q := fun _ h => absurd h List.not_mem_nil
set_option maxHeartbeats 4000000 in
set_option maxRecDepth 20000 in
theorem c_X5_shapeOfThing {l : Launch} (hl0 : l.stackTraces = false) : CT l yX5_shapeOfThing (.code yX5_shapeOfThing cX5_shapeOfThing 2 (some .int)) 3 0 0 false sp_X5_shapeOfThing := by
  refine zCT_of hl0 (own := RX5) fl_RX5 cs_X5_shapeOfThing nw_X5_shapeOfThing th_X5_shapeOfThing kc_X5_shapeOfThing (fun _ => []) false pg_X5_shapeOfThing rfl (by decide +kernel) hp_X5_shapeOfThing ⟨_, _, rfl, rfl⟩ hfl_RX5 (fun h => nomatch h) (hcs_X5_shapeOfThing hl0) hnw_X5_shapeOfThing hth_X5_shapeOfThing (fun _ _ h => absurd h List.not_mem_nil) hkc_X5_shapeOfThing (fun args w Q X v0 hv0 h => ?_)
  obtain ⟨α, ν, β, μ, r, c, x, hc, hμ, rfl, rfl, h1, h2⟩ := h
  refine ⟨Nat.le_of_ble_eq_true rfl, 60, [], ?_, fun q hq => absurd hq List.not_mem_nil⟩
  (conv => whnf)
  refine ⟨α, ν, β, μ, r, c, x, hc, hμ, rfl, rfl, fun q => ?_, fun q => ?_⟩
  · obtain ⟨j, hj, rfl⟩ := vp_in_of q (by omega)
    (conv => whnf)
    refine And.intro (fun c => absurd c (show ¬ _ from (by decide))) (fun _ => ?_)
    (conv => whnf)
    refine ⟨vp_in_nI (show j < 60 by omega) (by decide), ?_⟩
    (conv => whnf)
    rw [nI_clamp (by omega)]
    exact h2 j hj rfl
  · (conv => whnf)
    refine And.intro (fun _ => ?_) (fun c => absurd (show _ from rfl) c)
    (conv => whnf)
    exact h1 q
def sp_X5_finderOfThing : zSpec := zThgM 12
def pg_X5_finderOfThing : List zE := [(0, .aload_n 0, 1, []), (1, .iload_n 1, 1, []), (2, .invokevirtual 137, 3, []), (5, .ifCond .eq 12, 3, [17]), (8, .aload_n 0, 1, []), (9, .getfield 43, 3, []), (12, .iload_n 1, 1, []), (13, .iaload, 1, []), (14, .goto 4, 3, [18]), (17, .iconst 0, 1, [0]), (18, .ireturn, 1, [])]
theorem hp_X5_finderOfThing : ∀ q ∈ pg_X5_finderOfThing, decode cX5_finderOfThing q.1 = .ok (q.2.1, q.2.2.1) ∧ ztg q.2.1 q.1 q.2.2.1 q.2.2.2 = true := zpg_of (by decide +kernel)
def cs_X5_finderOfThing : List (Nat × zCall) := [(137, 0, 2, some 6, 0, 0, false, sp_X5_isThing)]
theorem hcs_X5_finderOfThing {l : Launch} (hl0 : l.stackTraces = false) : ∀ q ∈ cs_X5_finderOfThing, zCallable l RX5 3 q := List.forall_mem_cons.mpr ⟨zcV (C := (RX5, TX5, 21)) (ps := [1289, 1291, 26, 38, 1292]) (c_X5_isThing hl0) (by decide +kernel) rfl ⟨rfl, by decide +kernel, by decide +kernel, by decide +kernel⟩ (by decide) (by decide), fun _ h => absurd h List.not_mem_nil⟩
def th_X5_finderOfThing : List (Nat × String) := []
theorem hth_X5_finderOfThing : ∀ q ∈ th_X5_finderOfThing, zThrow cX5_finderOfThing RX5 q := fun _ h => absurd h List.not_mem_nil
def kc_X5_finderOfThing : List (Nat × Int32) := []
theorem hkc_X5_finderOfThing : ∀ q ∈ kc_X5_finderOfThing, Cond.constant RX5 q.1 q.2 ∈ zTs := fun _ h => absurd h List.not_mem_nil
def nw_X5_finderOfThing : List (Nat × Nat × Nat × List Value) := []
theorem hnw_X5_finderOfThing : ∀ q ∈ nw_X5_finderOfThing, zNew RX5 q := fun _ h => absurd h List.not_mem_nil
set_option maxHeartbeats 4000000 in
set_option maxRecDepth 20000 in
theorem c_X5_finderOfThing {l : Launch} (hl0 : l.stackTraces = false) : CT l yX5_finderOfThing (.code yX5_finderOfThing cX5_finderOfThing 2 (some .int)) 3 0 0 false sp_X5_finderOfThing := by
  refine zCT_of hl0 (own := RX5) fl_RX5 cs_X5_finderOfThing nw_X5_finderOfThing th_X5_finderOfThing kc_X5_finderOfThing (fun _ => []) false pg_X5_finderOfThing rfl (by decide +kernel) hp_X5_finderOfThing ⟨_, _, rfl, rfl⟩ hfl_RX5 (fun h => nomatch h) (hcs_X5_finderOfThing hl0) hnw_X5_finderOfThing hth_X5_finderOfThing (fun _ _ h => absurd h List.not_mem_nil) hkc_X5_finderOfThing (fun args w Q X v0 hv0 h => ?_)
  obtain ⟨α, ν, β, μ, r, c, x, hc, hμ, rfl, rfl, h1, h2⟩ := h
  refine ⟨Nat.le_of_ble_eq_true rfl, 60, [], ?_, fun q hq => absurd hq List.not_mem_nil⟩
  (conv => whnf)
  refine ⟨α, ν, β, μ, r, c, x, hc, hμ, rfl, rfl, fun q => ?_, fun q => ?_⟩
  · obtain ⟨j, hj, rfl⟩ := vp_in_of q (by omega)
    (conv => whnf)
    refine And.intro (fun c => absurd c (show ¬ _ from (by decide))) (fun _ => ?_)
    (conv => whnf)
    refine ⟨vp_in_nI (show j < 60 by omega) (by decide), ?_⟩
    (conv => whnf)
    rw [nI_clamp (by omega)]
    exact h2 j hj rfl
  · (conv => whnf)
    refine And.intro (fun _ => ?_) (fun c => absurd (show _ from rfl) c)
    (conv => whnf)
    exact h1 q
def sp_X5_reward : zSpec := fun args w Q _ => ∃ α ν β μ r x, args = [.ref 21, .int x] ∧ w = W2 α ν β μ r ∧ (¬ vp_in x 6 → Q (some (.int (nI 0))) (W2 α ν β (zTh μ 1) r)) ∧ ∀ j, j < 6 → x = nI j → Q (some (.int (β 13 j))) (W2 α ν β (zTh μ 0) r)
def pg_X5_reward : List zE := [(0, .aload_n 0, 1, []), (1, .iload_n 1, 1, []), (2, .iconst 0, 1, [0]), (3, .iconst 5, 1, [5]), (4, .invokestatic 59, 3, []), (7, .ifCond .eq 7, 3, [14]), (10, .iconst 0, 1, [0]), (11, .goto 4, 3, [15]), (14, .iconst 1, 1, [1]), (15, .putfield 55, 3, []), (18, .aload_n 0, 1, []), (19, .getfield 55, 3, []), (22, .ifCond .ne 12, 3, [34]), (25, .aload_n 0, 1, []), (26, .getfield 46, 3, []), (29, .iload_n 1, 1, []), (30, .iaload, 1, []), (31, .goto 4, 3, [35]), (34, .iconst 0, 1, [0]), (35, .ireturn, 1, [])]
theorem hp_X5_reward : ∀ q ∈ pg_X5_reward, decode cX5_reward q.1 = .ok (q.2.1, q.2.2.1) ∧ ztg q.2.1 q.1 q.2.2.1 q.2.2.2 = true := zpg_of (by decide +kernel)
def cs_X5_reward : List (Nat × zCall) := [(59, 1, 3, none, 0, 0, false, sp_X5_in)]
theorem hcs_X5_reward {l : Launch} (hl0 : l.stackTraces = false) : ∀ q ∈ cs_X5_reward, zCallable l RX5 2 q := List.forall_mem_cons.mpr ⟨zcS (ps := [1137, 1138, 38, 1139]) (c_X5_in hl0) (by decide +kernel) ⟨by decide +kernel, by decide +kernel, by decide +kernel⟩ (by decide) (by decide), fun _ h => absurd h List.not_mem_nil⟩
def th_X5_reward : List (Nat × String) := []
theorem hth_X5_reward : ∀ q ∈ th_X5_reward, zThrow cX5_reward RX5 q := fun _ h => absurd h List.not_mem_nil
def kc_X5_reward : List (Nat × Int32) := []
theorem hkc_X5_reward : ∀ q ∈ kc_X5_reward, Cond.constant RX5 q.1 q.2 ∈ zTs := fun _ h => absurd h List.not_mem_nil
def nw_X5_reward : List (Nat × Nat × Nat × List Value) := []
theorem hnw_X5_reward : ∀ q ∈ nw_X5_reward, zNew RX5 q := fun _ h => absurd h List.not_mem_nil
set_option maxHeartbeats 4000000 in
set_option maxRecDepth 20000 in
theorem c_X5_reward {l : Launch} (hl0 : l.stackTraces = false) : CT l yX5_reward (.code yX5_reward cX5_reward 2 (some .int)) 2 0 0 false sp_X5_reward := by
  refine zCT_of hl0 (own := RX5) fl_RX5 cs_X5_reward nw_X5_reward th_X5_reward kc_X5_reward (fun _ => []) false pg_X5_reward rfl (by decide +kernel) hp_X5_reward ⟨_, _, rfl, rfl⟩ hfl_RX5 (fun h => nomatch h) (hcs_X5_reward hl0) hnw_X5_reward hth_X5_reward (fun _ _ h => absurd h List.not_mem_nil) hkc_X5_reward (fun args w Q X v0 hv0 h => ?_)
  obtain ⟨α, ν, β, μ, r, x, rfl, rfl, h1, h2⟩ := h
  refine ⟨Nat.le_of_ble_eq_true rfl, 60, [], ?_, fun q hq => absurd hq List.not_mem_nil⟩
  (conv => whnf)
  refine ⟨_, _, _, rfl, fun q => ?_, fun q => ?_⟩
  · obtain ⟨j, hj, rfl⟩ := vp_in_of ((vp_in_le (n := 5) (by decide)).mp q) (by decide)
    (conv => whnf)
    refine And.intro (fun c => absurd c (show ¬ _ from (by decide))) (fun _ => ?_)
    (conv => whnf)
    refine And.intro (fun _ => ?_) (fun c => absurd (show _ from rfl) c)
    (conv => whnf)
    refine ⟨vp_in_nI hj (by decide), ?_⟩
    (conv => whnf)
    rw [nI_clamp (by omega)]
    exact h2 j hj rfl
  · (conv => whnf)
    refine And.intro (fun _ => ?_) (fun c => absurd (show _ from rfl) c)
    (conv => whnf)
    refine And.intro (fun c => absurd c (show ¬ _ from (by decide))) (fun _ => ?_)
    (conv => whnf)
    exact h1 (fun p => q ((vp_in_le (n := 5) (by decide)).mpr p))
