/-! ===== EchoRegistry$Crew ===== -/
def sp_X2_isDiver : zSpec := fun args w Q _ => ∃ x, args = [.int x] ∧ zB Q (vp_in x 4) w
def fl_RX2 : List (Nat × Nat × Nat) := [(9, 3, 0), (21, 3, 1)]
theorem hfl_RX2 : ∀ q ∈ fl_RX2, zFld RX2 q := zfld_of (ps := [87, 88]) (by decide +kernel)
def pg_X2_isDiver : List zE := [(0, .iload_n 0, 1, []), (1, .ifCond .lt 12, 3, [13]), (4, .iload_n 0, 1, []), (5, .iconst 4, 1, [4]), (6, .if_icmp .ge 7, 3, [13]), (9, .iconst 1, 1, [1]), (10, .goto 4, 3, [14]), (13, .iconst 0, 1, [0]), (14, .ireturn, 1, [])]
theorem hp_X2_isDiver : ∀ q ∈ pg_X2_isDiver, decode cX2_isDiver q.1 = .ok (q.2.1, q.2.2.1) ∧ ztg q.2.1 q.1 q.2.2.1 q.2.2.2 = true := zpg_of (by decide +kernel)
def cs_X2_isDiver : List (Nat × zCall) := []
theorem hcs_X2_isDiver {l : Launch} (hl0 : l.stackTraces = false) : ∀ q ∈ cs_X2_isDiver, zCallable l RX2 1 q := fun _ h => absurd h List.not_mem_nil
def th_X2_isDiver : List (Nat × String) := []
theorem hth_X2_isDiver : ∀ q ∈ th_X2_isDiver, zThrow cX2_isDiver RX2 q := fun _ h => absurd h List.not_mem_nil
def kc_X2_isDiver : List (Nat × Int32) := []
theorem hkc_X2_isDiver : ∀ q ∈ kc_X2_isDiver, Cond.constant RX2 q.1 q.2 ∈ zTs := fun _ h => absurd h List.not_mem_nil
def nw_X2_isDiver : List (Nat × Nat × Nat × List Value) := []
theorem hnw_X2_isDiver : ∀ q ∈ nw_X2_isDiver, zNew RX2 q := fun _ h => absurd h List.not_mem_nil
set_option maxHeartbeats 4000000 in
set_option maxRecDepth 20000 in
theorem c_X2_isDiver {l : Launch} (hl0 : l.stackTraces = false) : CT l yX2_isDiver (.code yX2_isDiver cX2_isDiver 1 (some .boolean)) 1 0 0 false sp_X2_isDiver := by
  refine zCT_of hl0 (own := RX2) fl_RX2 cs_X2_isDiver nw_X2_isDiver th_X2_isDiver kc_X2_isDiver (fun _ => []) false pg_X2_isDiver rfl (by decide +kernel) hp_X2_isDiver ⟨_, _, rfl, rfl⟩ hfl_RX2 (fun h => nomatch h) (hcs_X2_isDiver hl0) hnw_X2_isDiver hth_X2_isDiver (fun _ _ h => absurd h List.not_mem_nil) hkc_X2_isDiver (fun args w Q X v0 hv0 h => ?_)
  obtain ⟨x, rfl, h1, h2⟩ := h
  refine ⟨Nat.le_of_ble_eq_true rfl, 20, [], ?_, fun q hq => absurd hq List.not_mem_nil⟩
  (conv => whnf)
  refine And.intro (fun c => ?_) (fun c => ?_) <;> dsimp only at c
  · (conv => whnf); exact ⟨Or.inl rfl, h2 (vp_in_neg c)⟩
  · (conv => whnf)
    refine And.intro (fun d => ?_) (fun d => ?_) <;> dsimp only at d
    · (conv => whnf); exact ⟨Or.inr rfl, h1 (vp_in_lt (by decide) c d)⟩
    · (conv => whnf); exact ⟨Or.inl rfl, h2 (vp_in_nlt (by decide) d)⟩
/-- the air of a minute in a cell -/
def zau (k : Nat) : Nat := k / 12 + 2
def sp_X2_airForDive : zSpec := fun args w Q _ => ∃ k m, k < 96 ∧ m ≤ 60 ∧ args = [.int (nI k), .int (nI m)] ∧ Q (some (.int (nI (m * zau k)))) w
def pg_X2_airForDive : List zE := [(0, .iload_n 1, 1, []), (1, .iconst 1, 1, [1]), (2, .iload_n 0, 1, []), (3, .invokestatic 24, 3, []), (6, .bipush 10, 2, [10]), (8, .idiv, 1, []), (9, .iadd, 1, []), (10, .imul, 1, []), (11, .ireturn, 1, [])]
theorem hp_X2_airForDive : ∀ q ∈ pg_X2_airForDive, decode cX2_airForDive q.1 = .ok (q.2.1, q.2.2.1) ∧ ztg q.2.1 q.1 q.2.2.1 q.2.2.2 = true := zpg_of (by decide +kernel)
def cs_X2_airForDive : List (Nat × zCall) := [(24, 1, 1, none, 0, 0, false, sp_X4_depthAt)]
theorem hcs_X2_airForDive {l : Launch} (hl0 : l.stackTraces = false) : ∀ q ∈ cs_X2_airForDive, zCallable l RX2 2 q := List.forall_mem_cons.mpr ⟨zcN (ps := [384, 14, 385]) (host := RX4) (c_X4_depthAt hl0) (by decide +kernel) (by decide +kernel) ⟨by decide +kernel, by decide +kernel, by decide +kernel⟩ (by decide) (by decide), fun _ h => absurd h List.not_mem_nil⟩
def th_X2_airForDive : List (Nat × String) := []
theorem hth_X2_airForDive : ∀ q ∈ th_X2_airForDive, zThrow cX2_airForDive RX2 q := fun _ h => absurd h List.not_mem_nil
def kc_X2_airForDive : List (Nat × Int32) := []
theorem hkc_X2_airForDive : ∀ q ∈ kc_X2_airForDive, Cond.constant RX2 q.1 q.2 ∈ zTs := fun _ h => absurd h List.not_mem_nil
def nw_X2_airForDive : List (Nat × Nat × Nat × List Value) := []
theorem hnw_X2_airForDive : ∀ q ∈ nw_X2_airForDive, zNew RX2 q := fun _ h => absurd h List.not_mem_nil
set_option maxHeartbeats 4000000 in
set_option maxRecDepth 20000 in
theorem c_X2_airForDive {l : Launch} (hl0 : l.stackTraces = false) : CT l yX2_airForDive (.code yX2_airForDive cX2_airForDive 2 (some .int)) 2 0 0 false sp_X2_airForDive := by
  refine zCT_of hl0 (own := RX2) fl_RX2 cs_X2_airForDive nw_X2_airForDive th_X2_airForDive kc_X2_airForDive (fun _ => []) false pg_X2_airForDive rfl (by decide +kernel) hp_X2_airForDive ⟨_, _, rfl, rfl⟩ hfl_RX2 (fun h => nomatch h) (hcs_X2_airForDive hl0) hnw_X2_airForDive hth_X2_airForDive (fun _ _ h => absurd h List.not_mem_nil) hkc_X2_airForDive (fun args w Q X v0 hv0 h => ?_)
  obtain ⟨k, m, hk, hm, rfl, hQ⟩ := h
  refine ⟨Nat.le_of_ble_eq_true rfl, 20, [], ?_, fun q hq => absurd hq List.not_mem_nil⟩
  (conv => whnf)
  refine ⟨k, hk, rfl, ?_⟩
  (conv => whnf)
  refine ⟨by decide, ?_⟩
  (conv => whnf)
  dsimp only [zkon]
  rw [pk_div (by omega) (by omega) (by omega), nI_add, pk_mul, show m * (1 + 10 * (k / 12 + 1) / 10) = m * zau k by rw [Nat.mul_div_cancel_left _ (by decide)]; unfold zau; congr 1; omega]
  exact hQ
def sp_X2_airOf : zSpec := fun args w Q _ => ∃ α ν r d, d < 4 ∧ args = [.ref 8, .int (nI d)] ∧ w = WX α ν r ∧ Q (some (.int (α 6 d))) (WX α ν r)
def pg_X2_airOf : List zE := [(0, .iload_n 1, 1, []), (1, .invokestatic 28, 3, []), (4, .ifCond .eq 12, 3, [16]), (7, .aload_n 0, 1, []), (8, .getfield 9, 3, []), (11, .iload_n 1, 1, []), (12, .iaload, 1, []), (13, .goto 4, 3, [17]), (16, .iconst 0, 1, [0]), (17, .ireturn, 1, [])]
theorem hp_X2_airOf : ∀ q ∈ pg_X2_airOf, decode cX2_airOf q.1 = .ok (q.2.1, q.2.2.1) ∧ ztg q.2.1 q.1 q.2.2.1 q.2.2.2 = true := zpg_of (by decide +kernel)
def cs_X2_airOf : List (Nat × zCall) := [(28, 1, 1, none, 0, 0, false, sp_X2_isDiver)]
theorem hcs_X2_airOf {l : Launch} (hl0 : l.stackTraces = false) : ∀ q ∈ cs_X2_airOf, zCallable l RX2 2 q := List.forall_mem_cons.mpr ⟨zcS (ps := [358, 359, 17, 360]) (c_X2_isDiver hl0) (by decide +kernel) ⟨by decide +kernel, by decide +kernel, by decide +kernel⟩ (by decide) (by decide), fun _ h => absurd h List.not_mem_nil⟩
def th_X2_airOf : List (Nat × String) := []
theorem hth_X2_airOf : ∀ q ∈ th_X2_airOf, zThrow cX2_airOf RX2 q := fun _ h => absurd h List.not_mem_nil
def kc_X2_airOf : List (Nat × Int32) := []
theorem hkc_X2_airOf : ∀ q ∈ kc_X2_airOf, Cond.constant RX2 q.1 q.2 ∈ zTs := fun _ h => absurd h List.not_mem_nil
def nw_X2_airOf : List (Nat × Nat × Nat × List Value) := []
theorem hnw_X2_airOf : ∀ q ∈ nw_X2_airOf, zNew RX2 q := fun _ h => absurd h List.not_mem_nil
set_option maxHeartbeats 4000000 in
set_option maxRecDepth 20000 in
theorem c_X2_airOf {l : Launch} (hl0 : l.stackTraces = false) : CT l yX2_airOf (.code yX2_airOf cX2_airOf 2 (some .int)) 2 0 0 false sp_X2_airOf := by
  refine zCT_of hl0 (own := RX2) fl_RX2 cs_X2_airOf nw_X2_airOf th_X2_airOf kc_X2_airOf (fun _ => []) false pg_X2_airOf rfl (by decide +kernel) hp_X2_airOf ⟨_, _, rfl, rfl⟩ hfl_RX2 (fun h => nomatch h) (hcs_X2_airOf hl0) hnw_X2_airOf hth_X2_airOf (fun _ _ h => absurd h List.not_mem_nil) hkc_X2_airOf (fun args w Q X v0 hv0 h => ?_)
  obtain ⟨α, ν, r, k, hk, rfl, rfl, hQ⟩ := h
  refine ⟨Nat.le_of_ble_eq_true rfl, 20, [], ?_, fun q hq => absurd hq List.not_mem_nil⟩
  (conv => whnf)
  refine ⟨_, rfl, fun _ => ?_, fun c => absurd (vp_in_nI hk (by decide)) c⟩
  (conv => whnf)
  refine And.intro (fun c => absurd c (show ¬ _ from (by decide))) (fun _ => ?_)
  (conv => whnf)
  refine ⟨vp_in_nI hk (by decide), ?_⟩
  (conv => whnf)
  rw [nI_clamp (by omega)]
  exact hQ
def zrst (f y : Int32) : Int32 := if 0 < f - y then f - y else 0
def sp_X2_minutesUntilFree : zSpec := fun args w Q _ => ∃ α ν r d y, d < 4 ∧ args = [.ref 8, .int (nI d), .int y] ∧ w = WX α ν r ∧ Q (some (.int (zrst (α 7 d) y))) (WX α ν r)
def pg_X2_minutesUntilFree : List zE := [(0, .iload_n 1, 1, []), (1, .invokestatic 28, 3, []), (4, .ifCond .eq 18, 3, [22]), (7, .iconst 0, 1, [0]), (8, .aload_n 0, 1, []), (9, .getfield 21, 3, []), (12, .iload_n 1, 1, []), (13, .iaload, 1, []), (14, .iload_n 2, 1, []), (15, .isub, 1, []), (16, .invokestatic 32, 3, []), (19, .goto 4, 3, [23]), (22, .iconst 0, 1, [0]), (23, .ireturn, 1, [])]
theorem hp_X2_minutesUntilFree : ∀ q ∈ pg_X2_minutesUntilFree, decode cX2_minutesUntilFree q.1 = .ok (q.2.1, q.2.2.1) ∧ ztg q.2.1 q.1 q.2.2.1 q.2.2.2 = true := zpg_of (by decide +kernel)
def cs_X2_minutesUntilFree : List (Nat × zCall) := [(28, 1, 1, none, 0, 0, false, sp_X2_isDiver), (32, 1, 2, none, 0, 0, false, zspMax)]
theorem hcs_X2_minutesUntilFree {l : Launch} (hl0 : l.stackTraces = false) : ∀ q ∈ cs_X2_minutesUntilFree, zCallable l RX2 2 q := List.forall_mem_cons.mpr ⟨zcS (ps := [358, 359, 17, 360]) (c_X2_isDiver hl0) (by decide +kernel) ⟨by decide +kernel, by decide +kernel, by decide +kernel⟩ (by decide) (by decide), List.forall_mem_cons.mpr ⟨zcMax (ps := [369, 370, 29, 371]) (by decide +kernel) (by decide), fun _ h => absurd h List.not_mem_nil⟩⟩
def th_X2_minutesUntilFree : List (Nat × String) := []
theorem hth_X2_minutesUntilFree : ∀ q ∈ th_X2_minutesUntilFree, zThrow cX2_minutesUntilFree RX2 q := fun _ h => absurd h List.not_mem_nil
def kc_X2_minutesUntilFree : List (Nat × Int32) := []
theorem hkc_X2_minutesUntilFree : ∀ q ∈ kc_X2_minutesUntilFree, Cond.constant RX2 q.1 q.2 ∈ zTs := fun _ h => absurd h List.not_mem_nil
def nw_X2_minutesUntilFree : List (Nat × Nat × Nat × List Value) := []
theorem hnw_X2_minutesUntilFree : ∀ q ∈ nw_X2_minutesUntilFree, zNew RX2 q := fun _ h => absurd h List.not_mem_nil
set_option maxHeartbeats 4000000 in
set_option maxRecDepth 20000 in
theorem c_X2_minutesUntilFree {l : Launch} (hl0 : l.stackTraces = false) : CT l yX2_minutesUntilFree (.code yX2_minutesUntilFree cX2_minutesUntilFree 3 (some .int)) 2 0 0 false sp_X2_minutesUntilFree := by
  refine zCT_of hl0 (own := RX2) fl_RX2 cs_X2_minutesUntilFree nw_X2_minutesUntilFree th_X2_minutesUntilFree kc_X2_minutesUntilFree (fun _ => []) false pg_X2_minutesUntilFree rfl (by decide +kernel) hp_X2_minutesUntilFree ⟨_, _, rfl, rfl⟩ hfl_RX2 (fun h => nomatch h) (hcs_X2_minutesUntilFree hl0) hnw_X2_minutesUntilFree hth_X2_minutesUntilFree (fun _ _ h => absurd h List.not_mem_nil) hkc_X2_minutesUntilFree (fun args w Q X v0 hv0 h => ?_)
  obtain ⟨α, ν, r, k, y, hk, rfl, rfl, hQ⟩ := h
  refine ⟨Nat.le_of_ble_eq_true rfl, 20, [], ?_, fun q hq => absurd hq List.not_mem_nil⟩
  (conv => whnf)
  refine ⟨_, rfl, fun _ => ?_, fun c => absurd (vp_in_nI hk (by decide)) c⟩
  (conv => whnf)
  refine And.intro (fun c => absurd c (show ¬ _ from (by decide))) (fun _ => ?_)
  (conv => whnf)
  refine ⟨vp_in_nI hk (by decide), ?_⟩
  (conv => whnf)
  rw [nI_clamp (by omega)]
  refine ⟨_, _, rfl, ?_⟩
  (conv => whnf)
  exact hQ
def sp_X2_isFree : zSpec := fun args w Q _ => ∃ α ν r d y, d < 4 ∧ args = [.ref 8, .int (nI d), .int y] ∧ w = WX α ν r ∧ zB Q (zrst (α 7 d) y = 0) (WX α ν r)
def pg_X2_isFree : List zE := [(0, .aload_n 0, 1, []), (1, .iload_n 1, 1, []), (2, .iload_n 2, 1, []), (3, .invokevirtual 38, 3, []), (6, .ifCond .ne 7, 3, [13]), (9, .iconst 1, 1, [1]), (10, .goto 4, 3, [14]), (13, .iconst 0, 1, [0]), (14, .ireturn, 1, [])]
theorem hp_X2_isFree : ∀ q ∈ pg_X2_isFree, decode cX2_isFree q.1 = .ok (q.2.1, q.2.2.1) ∧ ztg q.2.1 q.1 q.2.2.1 q.2.2.2 = true := zpg_of (by decide +kernel)
def cs_X2_isFree : List (Nat × zCall) := [(38, 0, 3, some 3, 0, 0, false, sp_X2_minutesUntilFree)]
theorem hcs_X2_isFree {l : Launch} (hl0 : l.stackTraces = false) : ∀ q ∈ cs_X2_isFree, zCallable l RX2 3 q := List.forall_mem_cons.mpr ⟨zcV (C := (RX2, TX2, 2)) (ps := [524, 366, 367, 17, 368]) (c_X2_minutesUntilFree hl0) (by decide +kernel) rfl ⟨rfl, by decide +kernel, by decide +kernel, by decide +kernel⟩ (by decide) (by decide), fun _ h => absurd h List.not_mem_nil⟩
def th_X2_isFree : List (Nat × String) := []
theorem hth_X2_isFree : ∀ q ∈ th_X2_isFree, zThrow cX2_isFree RX2 q := fun _ h => absurd h List.not_mem_nil
def kc_X2_isFree : List (Nat × Int32) := []
theorem hkc_X2_isFree : ∀ q ∈ kc_X2_isFree, Cond.constant RX2 q.1 q.2 ∈ zTs := fun _ h => absurd h List.not_mem_nil
def nw_X2_isFree : List (Nat × Nat × Nat × List Value) := []
theorem hnw_X2_isFree : ∀ q ∈ nw_X2_isFree, zNew RX2 q := fun _ h => absurd h List.not_mem_nil
set_option maxHeartbeats 4000000 in
set_option maxRecDepth 20000 in
theorem c_X2_isFree {l : Launch} (hl0 : l.stackTraces = false) : CT l yX2_isFree (.code yX2_isFree cX2_isFree 3 (some .boolean)) 3 0 0 false sp_X2_isFree := by
  refine zCT_of hl0 (own := RX2) fl_RX2 cs_X2_isFree nw_X2_isFree th_X2_isFree kc_X2_isFree (fun _ => []) false pg_X2_isFree rfl (by decide +kernel) hp_X2_isFree ⟨_, _, rfl, rfl⟩ hfl_RX2 (fun h => nomatch h) (hcs_X2_isFree hl0) hnw_X2_isFree hth_X2_isFree (fun _ _ h => absurd h List.not_mem_nil) hkc_X2_isFree (fun args w Q X v0 hv0 h => ?_)
  obtain ⟨α, ν, r, k, y, hk, rfl, rfl, h1, h2⟩ := h
  refine ⟨Nat.le_of_ble_eq_true rfl, 20, [], ?_, fun q hq => absurd hq List.not_mem_nil⟩
  (conv => whnf)
  refine ⟨α, ν, r, k, y, hk, rfl, rfl, ?_⟩
  (conv => whnf)
  refine And.intro (fun c => ?_) (fun c => ?_)
  · (conv => whnf)
    exact ⟨Or.inr rfl, h1 c⟩
  · (conv => whnf)
    exact ⟨Or.inl rfl, h2 c⟩
def sp_X2_dive : zSpec := fun args w Q _ => ∃ α ν r d k m y, d < 4 ∧ k < 96 ∧ m ≤ 60 ∧ args = [.ref 8, .int (nI d), .int (nI k), .int (nI m), .int y] ∧ w = WX α ν r ∧
  Q none (WX (zu (zu α 6 (upd (α 6) d (α 6 d - nI (m * zau k)))) 7 (upd (α 7) d (y + nI m + nI (m * (10 * (k / 12 + 1)) / 20)))) ν r)
def pg_X2_dive : List zE := [(0, .iload_n 1, 1, []), (1, .invokestatic 28, 3, []), (4, .ifCond .eq 37, 3, [41]), (7, .aload_n 0, 1, []), (8, .getfield 9, 3, []), (11, .iload_n 1, 1, []), (12, .dup2, 1, []), (13, .iaload, 1, []), (14, .iload_n 2, 1, []), (15, .iload_n 3, 1, []), (16, .invokestatic 41, 3, []), (19, .isub, 1, []), (20, .iastore, 1, []), (21, .aload_n 0, 1, []), (22, .getfield 21, 3, []), (25, .iload_n 1, 1, []), (26, .iload 4, 2, []), (28, .iload_n 3, 1, []), (29, .iadd, 1, []), (30, .iload_n 3, 1, []), (31, .iload_n 2, 1, []), (32, .invokestatic 24, 3, []), (35, .imul, 1, []), (36, .bipush 20, 2, [20]), (38, .idiv, 1, []), (39, .iadd, 1, []), (40, .iastore, 1, []), (41, .return_, 1, [])]
theorem hp_X2_dive : ∀ q ∈ pg_X2_dive, decode cX2_dive q.1 = .ok (q.2.1, q.2.2.1) ∧ ztg q.2.1 q.1 q.2.2.1 q.2.2.2 = true := zpg_of (by decide +kernel)
def cs_X2_dive : List (Nat × zCall) := [(28, 1, 1, none, 0, 0, false, sp_X2_isDiver), (41, 1, 2, none, 0, 0, false, sp_X2_airForDive), (24, 1, 1, none, 0, 0, false, sp_X4_depthAt)]
theorem hcs_X2_dive {l : Launch} (hl0 : l.stackTraces = false) : ∀ q ∈ cs_X2_dive, zCallable l RX2 3 q := List.forall_mem_cons.mpr ⟨zcS (ps := [358, 359, 17, 360]) (c_X2_isDiver hl0) (by decide +kernel) ⟨by decide +kernel, by decide +kernel, by decide +kernel⟩ (by decide) (by decide), List.forall_mem_cons.mpr ⟨zcS (ps := [380, 381, 17, 382]) (c_X2_airForDive hl0) (by decide +kernel) ⟨by decide +kernel, by decide +kernel, by decide +kernel⟩ (by decide) (by decide), List.forall_mem_cons.mpr ⟨zcN (ps := [384, 14, 385]) (host := RX4) (c_X4_depthAt hl0) (by decide +kernel) (by decide +kernel) ⟨by decide +kernel, by decide +kernel, by decide +kernel⟩ (by decide) (by decide), fun _ h => absurd h List.not_mem_nil⟩⟩⟩
def th_X2_dive : List (Nat × String) := []
theorem hth_X2_dive : ∀ q ∈ th_X2_dive, zThrow cX2_dive RX2 q := fun _ h => absurd h List.not_mem_nil
def kc_X2_dive : List (Nat × Int32) := []
theorem hkc_X2_dive : ∀ q ∈ kc_X2_dive, Cond.constant RX2 q.1 q.2 ∈ zTs := fun _ h => absurd h List.not_mem_nil
def nw_X2_dive : List (Nat × Nat × Nat × List Value) := []
theorem hnw_X2_dive : ∀ q ∈ nw_X2_dive, zNew RX2 q := fun _ h => absurd h List.not_mem_nil
set_option maxHeartbeats 4000000 in
set_option maxRecDepth 20000 in
theorem c_X2_dive {l : Launch} (hl0 : l.stackTraces = false) : CT l yX2_dive (.code yX2_dive cX2_dive 5 none) 3 0 0 false sp_X2_dive := by
  refine zCT_of hl0 (own := RX2) fl_RX2 cs_X2_dive nw_X2_dive th_X2_dive kc_X2_dive (fun _ => []) false pg_X2_dive rfl (by decide +kernel) hp_X2_dive ⟨_, _, rfl, rfl⟩ hfl_RX2 (fun h => nomatch h) (hcs_X2_dive hl0) hnw_X2_dive hth_X2_dive (fun _ _ h => absurd h List.not_mem_nil) hkc_X2_dive (fun args w Q X v0 hv0 h => ?_)
  obtain ⟨α, ν, r, d, k, m, y, hd, hk, hm, rfl, rfl, hQ⟩ := h
  refine ⟨Nat.le_of_ble_eq_true rfl, 60, [], ?_, fun q hq => absurd hq List.not_mem_nil⟩
  (conv => whnf)
  refine ⟨_, rfl, fun _ => ?_, fun c => absurd (vp_in_nI hd (by decide)) c⟩
  (conv => whnf)
  refine And.intro (fun c => absurd c (show ¬ _ from (by decide))) (fun _ => ?_)
  (conv => whnf)
  refine ⟨vp_in_nI hd (by decide), ?_⟩
  (conv => whnf)
  refine ⟨k, m, hk, hm, rfl, ?_⟩
  (conv => whnf)
  refine ⟨vp_in_nI hd (by decide), ?_⟩
  (conv => whnf)
  refine ⟨k, hk, rfl, ?_⟩
  (conv => whnf)
  refine ⟨by decide, ?_⟩
  (conv => whnf)
  refine ⟨vp_in_nI hd (by decide), ?_⟩
  (conv => whnf)
  have hb : m * (10 * (k / 12 + 1)) ≤ 60 * (10 * (k / 12 + 1)) := Nat.mul_le_mul_right _ hm
  dsimp only [zkon]
  rw [nI_clamp (by omega), pk_mul, pk_div (by omega) (by omega) (by omega)]
  exact hQ
def sp_X2_fillBottle : zSpec := fun args w Q _ => ∃ α ν r d, d < 4 ∧ args = [.ref 8, .int (nI d)] ∧ w = WX α ν r ∧ Q (some (.int (nI 200 - α 6 d))) (WX (zu α 6 (upd (α 6) d (nI 200))) ν r)
def pg_X2_fillBottle : List zE := [(0, .iload_n 1, 1, []), (1, .invokestatic 28, 3, []), (4, .ifCond .ne 5, 3, [9]), (7, .iconst 0, 1, [0]), (8, .ireturn, 1, []), (9, .sipush 200, 3, [200]), (12, .aload_n 0, 1, []), (13, .getfield 9, 3, []), (16, .iload_n 1, 1, []), (17, .iaload, 1, []), (18, .isub, 1, []), (19, .istore_n 2, 1, []), (20, .aload_n 0, 1, []), (21, .getfield 9, 3, []), (24, .iload_n 1, 1, []), (25, .sipush 200, 3, [200]), (28, .iastore, 1, []), (29, .iload_n 2, 1, []), (30, .ireturn, 1, [])]
theorem hp_X2_fillBottle : ∀ q ∈ pg_X2_fillBottle, decode cX2_fillBottle q.1 = .ok (q.2.1, q.2.2.1) ∧ ztg q.2.1 q.1 q.2.2.1 q.2.2.2 = true := zpg_of (by decide +kernel)
def cs_X2_fillBottle : List (Nat × zCall) := [(28, 1, 1, none, 0, 0, false, sp_X2_isDiver)]
theorem hcs_X2_fillBottle {l : Launch} (hl0 : l.stackTraces = false) : ∀ q ∈ cs_X2_fillBottle, zCallable l RX2 2 q := List.forall_mem_cons.mpr ⟨zcS (ps := [358, 359, 17, 360]) (c_X2_isDiver hl0) (by decide +kernel) ⟨by decide +kernel, by decide +kernel, by decide +kernel⟩ (by decide) (by decide), fun _ h => absurd h List.not_mem_nil⟩
def th_X2_fillBottle : List (Nat × String) := []
theorem hth_X2_fillBottle : ∀ q ∈ th_X2_fillBottle, zThrow cX2_fillBottle RX2 q := fun _ h => absurd h List.not_mem_nil
def kc_X2_fillBottle : List (Nat × Int32) := []
theorem hkc_X2_fillBottle : ∀ q ∈ kc_X2_fillBottle, Cond.constant RX2 q.1 q.2 ∈ zTs := fun _ h => absurd h List.not_mem_nil
def nw_X2_fillBottle : List (Nat × Nat × Nat × List Value) := []
theorem hnw_X2_fillBottle : ∀ q ∈ nw_X2_fillBottle, zNew RX2 q := fun _ h => absurd h List.not_mem_nil
set_option maxHeartbeats 4000000 in
set_option maxRecDepth 20000 in
theorem c_X2_fillBottle {l : Launch} (hl0 : l.stackTraces = false) : CT l yX2_fillBottle (.code yX2_fillBottle cX2_fillBottle 3 (some .int)) 2 0 0 false sp_X2_fillBottle := by
  refine zCT_of hl0 (own := RX2) fl_RX2 cs_X2_fillBottle nw_X2_fillBottle th_X2_fillBottle kc_X2_fillBottle (fun _ => []) false pg_X2_fillBottle rfl (by decide +kernel) hp_X2_fillBottle ⟨_, _, rfl, rfl⟩ hfl_RX2 (fun h => nomatch h) (hcs_X2_fillBottle hl0) hnw_X2_fillBottle hth_X2_fillBottle (fun _ _ h => absurd h List.not_mem_nil) hkc_X2_fillBottle (fun args w Q X v0 hv0 h => ?_)
  obtain ⟨α, ν, r, k, hk, rfl, rfl, hQ⟩ := h
  refine ⟨Nat.le_of_ble_eq_true rfl, 20, [], ?_, fun q hq => absurd hq List.not_mem_nil⟩
  (conv => whnf)
  refine ⟨_, rfl, fun _ => ?_, fun c => absurd (vp_in_nI hk (by decide)) c⟩
  (conv => whnf)
  refine And.intro (fun c => absurd c (show ¬ _ from (by decide))) (fun _ => ?_)
  (conv => whnf)
  refine ⟨vp_in_nI hk (by decide), ?_⟩
  (conv => whnf)
  refine ⟨vp_in_nI hk (by decide), ?_⟩
  (conv => whnf)
  rw [nI_clamp (by omega)]
  exact hQ
def sp_X2_longestDive : zSpec := fun args w Q _ => ∃ α ν r d k a, d < 4 ∧ k < 96 ∧ a ≤ 200 ∧ α 6 d = nI a ∧ args = [.ref 8, .int (nI d), .int (nI k)] ∧ w = WX α ν r ∧ Q (some (.int (nI (min (a / zau k) 60)))) (WX α ν r)
def pg_X2_longestDive : List zE := [(0, .bipush 60, 2, [60]), (2, .istore_n 3, 1, []), (3, .iload_n 3, 1, []), (4, .ifCond .le 22, 3, [26]), (7, .iload_n 2, 1, []), (8, .iload_n 3, 1, []), (9, .invokestatic 41, 3, []), (12, .aload_n 0, 1, []), (13, .iload_n 1, 1, []), (14, .invokevirtual 44, 3, []), (17, .if_icmp .le 9, 3, [26]), (20, .iinc 3 (-1), 3, []), (23, .goto (-20), 3, [3]), (26, .iload_n 3, 1, []), (27, .ireturn, 1, [])]
theorem hp_X2_longestDive : ∀ q ∈ pg_X2_longestDive, decode cX2_longestDive q.1 = .ok (q.2.1, q.2.2.1) ∧ ztg q.2.1 q.1 q.2.2.1 q.2.2.2 = true := zpg_of (by decide +kernel)
def cs_X2_longestDive : List (Nat × zCall) := [(41, 1, 2, none, 0, 0, false, sp_X2_airForDive), (44, 0, 2, some 3, 0, 0, false, sp_X2_airOf)]
theorem hcs_X2_longestDive {l : Launch} (hl0 : l.stackTraces = false) : ∀ q ∈ cs_X2_longestDive, zCallable l RX2 3 q := List.forall_mem_cons.mpr ⟨zcS (ps := [380, 381, 17, 382]) (c_X2_airForDive hl0) (by decide +kernel) ⟨by decide +kernel, by decide +kernel, by decide +kernel⟩ (by decide) (by decide), List.forall_mem_cons.mpr ⟨zcV (C := (RX2, TX2, 2)) (ps := [386, 355, 356, 17, 357]) (c_X2_airOf hl0) (by decide +kernel) rfl ⟨rfl, by decide +kernel, by decide +kernel, by decide +kernel⟩ (by decide) (by decide), fun _ h => absurd h List.not_mem_nil⟩⟩
def th_X2_longestDive : List (Nat × String) := []
theorem hth_X2_longestDive : ∀ q ∈ th_X2_longestDive, zThrow cX2_longestDive RX2 q := fun _ h => absurd h List.not_mem_nil
def kc_X2_longestDive : List (Nat × Int32) := []
theorem hkc_X2_longestDive : ∀ q ∈ kc_X2_longestDive, Cond.constant RX2 q.1 q.2 ∈ zTs := fun _ h => absurd h List.not_mem_nil
def nw_X2_longestDive : List (Nat × Nat × Nat × List Value) := []
theorem hnw_X2_longestDive : ∀ q ∈ nw_X2_longestDive, zNew RX2 q := fun _ h => absurd h List.not_mem_nil
set_option maxHeartbeats 4000000 in
set_option maxRecDepth 20000 in
theorem c_X2_longestDive {l : Launch} (hl0 : l.stackTraces = false) : CT l yX2_longestDive (.code yX2_longestDive cX2_longestDive 4 (some .int)) 3 0 0 false sp_X2_longestDive := by
  refine zCT_of hl0 (own := RX2) fl_RX2 cs_X2_longestDive nw_X2_longestDive th_X2_longestDive kc_X2_longestDive (fun _ => []) false pg_X2_longestDive rfl (by decide +kernel) hp_X2_longestDive ⟨_, _, rfl, rfl⟩ hfl_RX2 (fun h => nomatch h) (hcs_X2_longestDive hl0) hnw_X2_longestDive hth_X2_longestDive (fun _ _ h => absurd h List.not_mem_nil) hkc_X2_longestDive (fun args w Q X v0 hv0 h => ?_)
  obtain ⟨α, ν, r, d, k, a, hd, hk, ha, ha6, rfl, rfl, hQ⟩ := h
  have hu : 2 ≤ zau k ∧ zau k ≤ 9 := by unfold zau; omega
  refine ⟨Nat.le_of_ble_eq_true rfl, 60, [(3, fun m L S w' cu su => ∃ i, zsub [(0, .ref 8), (1, .int (nI d)), (2, .int (nI k)), (3, .int (nI i))] L ∧ S = [] ∧ w' = WX α ν r ∧ i ≤ 60 ∧ min (a / zau k) 60 ≤ i ∧ m = i ∧ cu = 0 ∧ su = 0)], ?_, zone ?_⟩
  · (conv => whnf)
    exact ⟨60, 60, ⟨rfl, rfl, rfl, rfl, trivial⟩, rfl, rfl, by decide, Nat.min_le_right _ _, rfl, rfl, rfl⟩
  · rintro m L S w' cu su ⟨i, hL, rfl, rfl, hi, hm, rfl, rfl, rfl⟩
    refine ⟨_, hL, ?_⟩
    (conv => whnf)
    refine And.intro (fun c => ?_) (fun c => ?_)
    · have h0 : 0 < m := by
        apply Classical.byContradiction
        intro h
        have : m = 0 := by omega
        subst this
        exact absurd c (by decide)
      have hmu : m * zau k ≤ 60 * 9 := Nat.mul_le_mul hi hu.2
      (conv => whnf)
      refine ⟨k, m, hk, hi, rfl, ?_⟩
      (conv => whnf)
      refine ⟨α, ν, r, d, hd, rfl, rfl, ?_⟩
      (conv => whnf)
      rw [ha6]
      refine And.intro (fun e => ?_) (fun e => ?_)
      · have e1 : ¬ m * zau k ≤ a := fun h => absurd e (nI_nlt h (by omega))
        have e2 : ¬ m ≤ a / zau k := fun h => e1 ((Nat.le_div_iff_mul_le (by omega)).mp h)
        (conv => whnf)
        refine ⟨m - 1, by omega, m - 1, ⟨rfl, rfl, rfl, ?_, trivial⟩, rfl, rfl, by omega, by omega, rfl, rfl, rfl⟩
        obtain ⟨j, rfl⟩ : ∃ j, m = j + 1 := ⟨m - 1, by omega⟩
        exact congrArg (fun x => some (Value.int x)) (pk_m1 j)
      · (conv => whnf)
        have e1 : m * zau k ≤ a := by
          apply Classical.byContradiction
          intro h
          exact e (nI_lt (show a < m * zau k by omega) (by omega))
        have e2 : m ≤ a / zau k := (Nat.le_div_iff_mul_le (by omega)).mpr e1
        rw [show min (a / zau k) 60 = m by omega] at hQ
        exact hQ
    · have h0 : m = 0 := by
        have : ¬ 0 < m := fun h => c (nI_lt (a := 0) h (by omega))
        omega
      subst h0
      (conv => whnf)
      rw [show min (a / zau k) 60 = 0 from Nat.le_zero.mp hm] at hQ
      exact hQ
