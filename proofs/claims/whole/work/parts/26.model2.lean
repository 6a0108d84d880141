/-! ===== EchoRegistryModel: soundings, shapes, names ===== -/
def zTh (μ : Nat → Int32) (n : Nat) : Nat → Int32 := zu μ 7 (nI n)
def sp_X5_sound : zSpec := fun args w Q _ => ∃ α ν β μ r x h, args = [.ref 21, .int x, .int h] ∧ w = W2 α ν β μ r ∧ (¬ vp_in x 96 → Q (some (.int (nI 0))) (W2 α ν β (zTh μ 1) r)) ∧
  ∀ k, k < 96 → x = nI k → (h < nI 0 ∨ nI 9 < h → Q (some (.int (nI 0))) (W2 α ν β (zTh μ 2) r)) ∧ (¬ h < nI 0 → ¬ nI 9 < h → ∀ f a4, zLow (upd (β 0) k h) f →
    Q (some (.int (β 0 k))) (W2 α ν (zu (zu (zu β 0 (upd (β 0) k h)) 4 a4) 3 f) (zTh μ 0) r))
theorem nor_of {a b : Prop} (h : ¬ (¬ a ∧ ¬ b)) : a ∨ b := by
  by_cases ha : a
  · exact Or.inl ha
  · exact Or.inr (Classical.byContradiction (fun hb => h ⟨ha, hb⟩))
def pg_X5_sound : List zE := [(0, .aload_n 0, 1, []), (1, .iload_n 1, 1, []), (2, .invokestatic 67, 3, []), (5, .ifCond .ne 7, 3, [12]), (8, .iconst 1, 1, [1]), (9, .goto 18, 3, [27]), (12, .iload_n 2, 1, []), (13, .iconst 0, 1, [0]), (14, .bipush 9, 2, [9]), (16, .invokestatic 59, 3, []), (19, .ifCond .ne 7, 3, [26]), (22, .iconst 2, 1, [2]), (23, .goto 4, 3, [27]), (26, .iconst 0, 1, [0]), (27, .putfield 55, 3, []), (30, .aload_n 0, 1, []), (31, .getfield 55, 3, []), (34, .ifCond .le 5, 3, [39]), (37, .iconst 0, 1, [0]), (38, .ireturn, 1, []), (39, .aload_n 0, 1, []), (40, .getfield 7, 3, []), (43, .iload_n 1, 1, []), (44, .iaload, 1, []), (45, .istore_n 3, 1, []), (46, .aload_n 0, 1, []), (47, .getfield 7, 3, []), (50, .iload_n 1, 1, []), (51, .iload_n 2, 1, []), (52, .iastore, 1, []), (53, .aload_n 0, 1, []), (54, .invokevirtual 52, 3, []), (57, .iload_n 3, 1, []), (58, .ireturn, 1, [])]
theorem hp_X5_sound : ∀ q ∈ pg_X5_sound, decode cX5_sound q.1 = .ok (q.2.1, q.2.2.1) ∧ ztg q.2.1 q.1 q.2.2.1 q.2.2.2 = true := zpg_of (by decide +kernel)
def cs_X5_sound : List (Nat × zCall) := [(67, 1, 1, none, 0, 0, false, sp_X5_isCell), (59, 1, 3, none, 0, 0, false, sp_X5_in), (52, 0, 1, some 6, 0, 0, false, sp_X5_finds)]
theorem hcs_X5_sound {l : Launch} (hl0 : l.stackTraces = false) : ∀ q ∈ cs_X5_sound, zCallable l RX5 3 q := List.forall_mem_cons.mpr ⟨zcS (ps := [1134, 1135, 38, 1136]) (c_X5_isCell hl0) (by decide +kernel) ⟨by decide +kernel, by decide +kernel, by decide +kernel⟩ (by decide) (by decide), List.forall_mem_cons.mpr ⟨zcS (ps := [1137, 1138, 38, 1139]) (c_X5_in hl0) (by decide +kernel) ⟨by decide +kernel, by decide +kernel, by decide +kernel⟩ (by decide) (by decide), List.forall_mem_cons.mpr ⟨zcV (C := (RX5, TX5, 21)) (ps := [1054, 1056, 13, 38, 1057]) (c_X5_finds hl0) (by decide +kernel) rfl ⟨rfl, by decide +kernel, by decide +kernel, by decide +kernel⟩ (by decide) (by decide), fun _ h => absurd h List.not_mem_nil⟩⟩⟩
def th_X5_sound : List (Nat × String) := []
theorem hth_X5_sound : ∀ q ∈ th_X5_sound, zThrow cX5_sound RX5 q := fun _ h => absurd h List.not_mem_nil
def kc_X5_sound : List (Nat × Int32) := []
theorem hkc_X5_sound : ∀ q ∈ kc_X5_sound, Cond.constant RX5 q.1 q.2 ∈ zTs := fun _ h => absurd h List.not_mem_nil
def nw_X5_sound : List (Nat × Nat × Nat × List Value) := []
theorem hnw_X5_sound : ∀ q ∈ nw_X5_sound, zNew RX5 q := fun _ h => absurd h List.not_mem_nil
set_option maxHeartbeats 4000000 in
set_option maxRecDepth 20000 in
theorem c_X5_sound {l : Launch} (hl0 : l.stackTraces = false) : CT l yX5_sound (.code yX5_sound cX5_sound 4 (some .int)) 3 0 0 false sp_X5_sound := by
  refine zCT_of hl0 (own := RX5) fl_RX5 cs_X5_sound nw_X5_sound th_X5_sound kc_X5_sound (fun _ => []) false pg_X5_sound rfl (by decide +kernel) hp_X5_sound ⟨_, _, rfl, rfl⟩ hfl_RX5 (fun h => nomatch h) (hcs_X5_sound hl0) hnw_X5_sound hth_X5_sound (fun _ _ h => absurd h List.not_mem_nil) hkc_X5_sound (fun args w Q X v0 hv0 h => ?_)
  obtain ⟨α, ν, β, μ, r, x, h, rfl, rfl, h1, h2⟩ := h
  refine ⟨Nat.le_of_ble_eq_true rfl, 80, [], ?_, fun q hq => absurd hq List.not_mem_nil⟩
  (conv => whnf)
  refine ⟨_, rfl, fun c => ?_, fun c => ?_⟩
  · obtain ⟨k, hk, rfl⟩ := vp_in_of c (by decide)
    obtain ⟨h3, h4⟩ := h2 k hk rfl
    (conv => whnf)
    refine And.intro (fun c => absurd c (show ¬ _ from (by decide))) (fun _ => ?_)
    (conv => whnf)
    refine ⟨_, _, _, rfl, fun d => ?_, fun d => ?_⟩
    · (conv => whnf)
      refine And.intro (fun c => absurd c (show ¬ _ from (by decide))) (fun _ => ?_)
      (conv => whnf)
      refine And.intro (fun c => absurd c (show ¬ _ from (by decide))) (fun _ => ?_)
      (conv => whnf)
      refine ⟨vp_in_nI hk (by decide), ?_⟩
      (conv => whnf)
      refine ⟨vp_in_nI hk (by decide), ?_⟩
      (conv => whnf)
      rw [nI_clamp (by omega)]
      refine ⟨α, ν, zu β 0 (upd (β 0) k h), zTh μ 0, r, rfl, rfl, fun f a4 hf => ?_⟩
      (conv => whnf)
      exact h4 d.1 d.2 f a4 hf
    · (conv => whnf)
      refine And.intro (fun _ => ?_) (fun c => absurd (show _ from rfl) c)
      (conv => whnf)
      refine And.intro (fun _ => ?_) (fun c => absurd (show _ from (by decide)) c)
      (conv => whnf)
      exact h3 (nor_of d)
  · (conv => whnf)
    refine And.intro (fun _ => ?_) (fun c => absurd (show _ from rfl) c)
    (conv => whnf)
    refine And.intro (fun _ => ?_) (fun c => absurd (show _ from (by decide)) c)
    (conv => whnf)
    exact h1 c
def sp_X5_count : zSpec := fun args w Q _ => ∃ α ν β μ r, args = [.ref 21] ∧ w = W2 α ν β μ r ∧ Q (some (.int (nI (zcs (β 3) 96)))) (W2 α ν β μ r)
def pg_X5_count : List zE := [(0, .iconst 0, 1, [0]), (1, .istore_n 1, 1, []), (2, .iconst 0, 1, [0]), (3, .istore_n 2, 1, []), (4, .iload_n 2, 1, []), (5, .bipush 96, 2, [96]), (7, .if_icmp .ge 27, 3, [34]), (10, .iload_n 1, 1, []), (11, .aload_n 0, 1, []), (12, .getfield 19, 3, []), (15, .iload_n 2, 1, []), (16, .iaload, 1, []), (17, .iload_n 2, 1, []), (18, .if_icmp .ne 7, 3, [25]), (21, .iconst 1, 1, [1]), (22, .goto 4, 3, [26]), (25, .iconst 0, 1, [0]), (26, .iadd, 1, []), (27, .istore_n 1, 1, []), (28, .iinc 2 1, 3, [1]), (31, .goto (-27), 3, [4]), (34, .iload_n 1, 1, []), (35, .ireturn, 1, [])]
theorem hp_X5_count : ∀ q ∈ pg_X5_count, decode cX5_count q.1 = .ok (q.2.1, q.2.2.1) ∧ ztg q.2.1 q.1 q.2.2.1 q.2.2.2 = true := zpg_of (by decide +kernel)
def cs_X5_count : List (Nat × zCall) := []
theorem hcs_X5_count {l : Launch} (hl0 : l.stackTraces = false) : ∀ q ∈ cs_X5_count, zCallable l RX5 1 q := fun _ h => absurd h List.not_mem_nil
def th_X5_count : List (Nat × String) := []
theorem hth_X5_count : ∀ q ∈ th_X5_count, zThrow cX5_count RX5 q := fun _ h => absurd h List.not_mem_nil
def kc_X5_count : List (Nat × Int32) := []
theorem hkc_X5_count : ∀ q ∈ kc_X5_count, Cond.constant RX5 q.1 q.2 ∈ zTs := fun _ h => absurd h List.not_mem_nil
def nw_X5_count : List (Nat × Nat × Nat × List Value) := []
theorem hnw_X5_count : ∀ q ∈ nw_X5_count, zNew RX5 q := fun _ h => absurd h List.not_mem_nil
set_option maxHeartbeats 4000000 in
set_option maxRecDepth 20000 in
theorem c_X5_count {l : Launch} (hl0 : l.stackTraces = false) : CT l yX5_count (.code yX5_count cX5_count 3 (some .int)) 1 0 0 false sp_X5_count := by
  refine zCT_of hl0 (own := RX5) fl_RX5 cs_X5_count nw_X5_count th_X5_count kc_X5_count (fun _ => []) false pg_X5_count rfl (by decide +kernel) hp_X5_count ⟨_, _, rfl, rfl⟩ hfl_RX5 (fun h => nomatch h) (hcs_X5_count hl0) hnw_X5_count hth_X5_count (fun _ _ h => absurd h List.not_mem_nil) hkc_X5_count (fun args w Q X v0 hv0 h => ?_)
  obtain ⟨α, ν, β, μ, r, rfl, rfl, hQ⟩ := h
  refine ⟨Nat.le_of_ble_eq_true rfl, 60, [(4, fun m L S w' cu su => ∃ i, zsub [(0, .ref 21), (1, .int (nI (zcs (β 3) i))), (2, .int (nI i))] L ∧ S = [] ∧ w' = W2 α ν β μ r ∧ i ≤ 96 ∧ m = 96 - i ∧ cu = 0 ∧ su = 0)], ?_, zone ?_⟩
  · (conv => whnf)
    exact ⟨96, 0, ⟨rfl, rfl, rfl, trivial⟩, rfl, rfl, by decide, rfl, rfl, rfl⟩
  · rintro m L S w' cu su ⟨i, hL, rfl, rfl, hi, rfl, rfl, rfl⟩
    refine ⟨_, hL, ?_⟩
    (conv => whnf)
    refine And.intro (fun c => ?_) (fun c => ?_)
    · have hlt : i < 96 := (nI_ltI (by omega) (by omega)).mp c
      (conv => whnf)
      refine ⟨vp_in_nI hlt (by decide), ?_⟩
      (conv => whnf)
      rw [nI_clamp (by omega)]
      refine And.intro (fun d => ?_) (fun d => ?_)
      · (conv => whnf)
        exact ⟨96 - (i + 1), by omega, i + 1, ⟨rfl, zi1 (zcs_t d), zi1 rfl, trivial⟩, rfl, rfl, by omega, rfl, rfl, rfl⟩
      · (conv => whnf)
        exact ⟨96 - (i + 1), by omega, i + 1, ⟨rfl, by rw [zcs_f d]; exact congrArg (fun x => some (Value.int x)) (nI_add _ 0), zi1 rfl, trivial⟩, rfl, rfl, by omega, rfl, rfl, rfl⟩
    · have hge : i = 96 := by
        have : ¬ i < 96 := fun h => c (nI_lt h (by decide))
        omega
      subst hge
      (conv => whnf)
      exact hQ
def sp_X5_sweep : zSpec := fun args w Q _ => ∃ α ν β μ r x m h, args = [.ref 21, .int x, .int m, .int h] ∧ w = W2 α ν β μ r ∧ (¬ vp_in x 96 → Q (some (.int (nI 0))) (W2 α ν β (zTh μ 1) r)) ∧
  ∀ k, k < 96 → x = nI k → ((m < nI 1 ∨ nI (12 - k % 12) < m) ∨ (h < nI 0 ∨ nI 9 < h) → Q (some (.int (nI 0))) (W2 α ν β (zTh μ 2) r)) ∧ (∀ n, m = nI n → n ≤ 12 - k % 12 → ¬ m < nI 1 → ¬ nI (12 - k % 12) < m → ¬ h < nI 0 → ¬ nI 9 < h → ∀ f a4, zLow (zsv (β 0) k h n) f →
    Q (some (.int (nI (zcs f 96)))) (W2 α ν (zu (zu (zu β 0 (zsv (β 0) k h n)) 4 a4) 3 f) (zTh μ 0) r))
def pg_X5_sweep : List zE := [(0, .aload_n 0, 1, []), (1, .iload_n 1, 1, []), (2, .invokestatic 67, 3, []), (5, .ifCond .ne 7, 3, [12]), (8, .iconst 1, 1, [1]), (9, .goto 33, 3, [42]), (12, .iload_n 2, 1, []), (13, .iconst 1, 1, [1]), (14, .bipush 12, 2, [12]), (16, .iload_n 1, 1, []), (17, .bipush 12, 2, [12]), (19, .irem, 1, []), (20, .isub, 1, []), (21, .invokestatic 59, 3, []), (24, .ifCond .eq 13, 3, [37]), (27, .iload_n 3, 1, []), (28, .iconst 0, 1, [0]), (29, .bipush 9, 2, [9]), (31, .invokestatic 59, 3, []), (34, .ifCond .ne 7, 3, [41]), (37, .iconst 2, 1, [2]), (38, .goto 4, 3, [42]), (41, .iconst 0, 1, [0]), (42, .putfield 55, 3, []), (45, .aload_n 0, 1, []), (46, .getfield 55, 3, []), (49, .ifCond .le 5, 3, [54]), (52, .iconst 0, 1, [0]), (53, .ireturn, 1, []), (54, .iconst 0, 1, [0]), (55, .istore 4, 2, []), (57, .iload 4, 2, []), (59, .iload_n 2, 1, []), (60, .if_icmp .ge 19, 3, [79]), (63, .aload_n 0, 1, []), (64, .getfield 7, 3, []), (67, .iload_n 1, 1, []), (68, .iload 4, 2, []), (70, .iadd, 1, []), (71, .iload_n 3, 1, []), (72, .iastore, 1, []), (73, .iinc 4 1, 3, [1]), (76, .goto (-19), 3, [57]), (79, .aload_n 0, 1, []), (80, .invokevirtual 52, 3, []), (83, .aload_n 0, 1, []), (84, .invokevirtual 71, 3, []), (87, .ireturn, 1, [])]
theorem hp_X5_sweep : ∀ q ∈ pg_X5_sweep, decode cX5_sweep q.1 = .ok (q.2.1, q.2.2.1) ∧ ztg q.2.1 q.1 q.2.2.1 q.2.2.2 = true := zpg_of (by decide +kernel)
def cs_X5_sweep : List (Nat × zCall) := [(67, 1, 1, none, 0, 0, false, sp_X5_isCell), (59, 1, 3, none, 0, 0, false, sp_X5_in), (52, 0, 1, some 6, 0, 0, false, sp_X5_finds), (71, 0, 1, some 6, 0, 0, false, sp_X5_count)]
theorem hcs_X5_sweep {l : Launch} (hl0 : l.stackTraces = false) : ∀ q ∈ cs_X5_sweep, zCallable l RX5 3 q := List.forall_mem_cons.mpr ⟨zcS (ps := [1134, 1135, 38, 1136]) (c_X5_isCell hl0) (by decide +kernel) ⟨by decide +kernel, by decide +kernel, by decide +kernel⟩ (by decide) (by decide), List.forall_mem_cons.mpr ⟨zcS (ps := [1137, 1138, 38, 1139]) (c_X5_in hl0) (by decide +kernel) ⟨by decide +kernel, by decide +kernel, by decide +kernel⟩ (by decide) (by decide), List.forall_mem_cons.mpr ⟨zcV (C := (RX5, TX5, 21)) (ps := [1054, 1056, 13, 38, 1057]) (c_X5_finds hl0) (by decide +kernel) rfl ⟨rfl, by decide +kernel, by decide +kernel, by decide +kernel⟩ (by decide) (by decide), List.forall_mem_cons.mpr ⟨zcV (C := (RX5, TX5, 21)) (ps := [1144, 1146, 15, 38, 1147]) (c_X5_count hl0) (by decide +kernel) rfl ⟨rfl, by decide +kernel, by decide +kernel, by decide +kernel⟩ (by decide) (by decide), fun _ h => absurd h List.not_mem_nil⟩⟩⟩⟩
def th_X5_sweep : List (Nat × String) := []
theorem hth_X5_sweep : ∀ q ∈ th_X5_sweep, zThrow cX5_sweep RX5 q := fun _ h => absurd h List.not_mem_nil
def kc_X5_sweep : List (Nat × Int32) := []
theorem hkc_X5_sweep : ∀ q ∈ kc_X5_sweep, Cond.constant RX5 q.1 q.2 ∈ zTs := fun _ h => absurd h List.not_mem_nil
def nw_X5_sweep : List (Nat × Nat × Nat × List Value) := []
theorem hnw_X5_sweep : ∀ q ∈ nw_X5_sweep, zNew RX5 q := fun _ h => absurd h List.not_mem_nil
set_option maxHeartbeats 4000000 in
set_option maxRecDepth 20000 in
theorem c_X5_sweep {l : Launch} (hl0 : l.stackTraces = false) : CT l yX5_sweep (.code yX5_sweep cX5_sweep 5 (some .int)) 3 0 0 false sp_X5_sweep := by
  refine zCT_of hl0 (own := RX5) fl_RX5 cs_X5_sweep nw_X5_sweep th_X5_sweep kc_X5_sweep (fun _ => []) false pg_X5_sweep rfl (by decide +kernel) hp_X5_sweep ⟨_, _, rfl, rfl⟩ hfl_RX5 (fun h => nomatch h) (hcs_X5_sweep hl0) hnw_X5_sweep hth_X5_sweep (fun _ _ h => absurd h List.not_mem_nil) hkc_X5_sweep (fun args w Q X v0 hv0 h => ?_)
  obtain ⟨α, ν, β, μ, r, x, m, h, rfl, rfl, h1, h2⟩ := h
  by_cases hc : vp_in x 96
  · obtain ⟨k, hk, rfl⟩ := vp_in_of hc (by decide)
    obtain ⟨h3, h4⟩ := h2 k hk rfl
    refine ⟨Nat.le_of_ble_eq_true rfl, 80, [(57, fun ms L S w' cu su => ∃ n i, zsub [(0, .ref 21), (1, .int (nI k)), (2, .int m), (3, .int h), (4, .int (nI i))] L ∧ S = [] ∧ w' = W2 α ν (zu β 0 (zsv (β 0) k h i)) (zTh μ 0) r ∧ m = nI n ∧ n ≤ 12 - k % 12 ∧ i ≤ n ∧ ¬ m < nI 1 ∧ ¬ nI (12 - k % 12) < m ∧ ¬ h < nI 0 ∧ ¬ nI 9 < h ∧ ms = 12 - i ∧ cu = 0 ∧ su = 0)], ?_, zone ?_⟩
    · (conv => whnf)
      refine ⟨_, rfl, fun _ => ?_, fun c => absurd hc c⟩
      (conv => whnf)
      refine And.intro (fun c => absurd c (show ¬ _ from (by decide))) (fun _ => ?_)
      (conv => whnf)
      refine ⟨by decide, ?_⟩
      (conv => whnf)
      refine ⟨m, nI 1, nI (12 - k % 12), ?_, fun d => ?_, fun d => ?_⟩
      · dsimp only [zkon]
        rw [pk_rem (show k < 2 ^ 31 by omega) (by decide) (by decide), pk_sub (show k % 12 ≤ 12 by omega)]
      · obtain ⟨n, hn1, hn2⟩ := nI_le_of (by omega) d.1 d.2
        (conv => whnf)
        refine And.intro (fun c => absurd c (show ¬ _ from (by decide))) (fun _ => ?_)
        (conv => whnf)
        refine ⟨_, _, _, rfl, fun e => ?_, fun e => ?_⟩
        · (conv => whnf)
          refine And.intro (fun c => absurd c (show ¬ _ from (by decide))) (fun _ => ?_)
          (conv => whnf)
          refine And.intro (fun c => absurd c (show ¬ _ from (by decide))) (fun _ => ?_)
          (conv => whnf)
          refine ⟨12, n, 0, ⟨rfl, rfl, rfl, rfl, rfl, trivial⟩, rfl, ?_, hn1, hn2, Nat.zero_le _, d.1, d.2, e.1, e.2, rfl, rfl, rfl⟩
          rw [zsv_0]
          rfl
        · (conv => whnf)
          refine And.intro (fun _ => ?_) (fun c => absurd (show _ from rfl) c)
          (conv => whnf)
          refine And.intro (fun _ => ?_) (fun c => absurd (show _ from (by decide)) c)
          (conv => whnf)
          exact h3 (Or.inr (nor_of e))
      · (conv => whnf)
        refine And.intro (fun _ => ?_) (fun c => absurd (show _ from rfl) c)
        (conv => whnf)
        refine And.intro (fun _ => ?_) (fun c => absurd (show _ from (by decide)) c)
        (conv => whnf)
        exact h3 (Or.inl (nor_of d))
    · rintro ms L S w' cu su ⟨n, i, hL, rfl, rfl, hm, hn, hi, a, b, a', b', rfl, rfl, rfl⟩
      refine ⟨_, hL, ?_⟩
      subst hm
      (conv => whnf)
      refine And.intro (fun c => ?_) (fun c => ?_)
      · have hlt : i < n := (nI_ltI (by omega) (by omega)).mp c
        (conv => whnf)
        dsimp only [zkon]
        rw [nI_add]
        refine ⟨vp_in_nI (show k + i < 96 by omega) (by decide), ?_⟩
        (conv => whnf)
        refine ⟨12 - (i + 1), by omega, n, i + 1, ⟨rfl, rfl, rfl, rfl, zi1 rfl, trivial⟩, rfl, ?_, rfl, hn, hlt, a, b, a', b', rfl, rfl, rfl⟩
        rw [nI_clamp (by omega), ← zsv_s]
        rfl
      · have hge : i = n := by
          have : ¬ i < n := fun h => c (nI_lt h (by omega))
          omega
        subst hge
        (conv => whnf)
        refine ⟨α, ν, zu β 0 (zsv (β 0) k h i), zTh μ 0, r, rfl, rfl, fun f a4 hf => ?_⟩
        (conv => whnf)
        refine ⟨_, _, _, _, _, rfl, rfl, ?_⟩
        (conv => whnf)
        exact h4 i rfl hn a b a' b' f a4 hf
  · refine ⟨Nat.le_of_ble_eq_true rfl, 60, [], ?_, fun q hq => absurd hq List.not_mem_nil⟩
    (conv => whnf)
    refine ⟨_, rfl, fun c => absurd c hc, fun c => ?_⟩
    (conv => whnf)
    refine And.intro (fun _ => ?_) (fun c => absurd (show _ from rfl) c)
    (conv => whnf)
    refine And.intro (fun _ => ?_) (fun c => absurd (show _ from (by decide)) c)
    (conv => whnf)
    exact h1 c
def sp_X5_shapes : zSpec := fun args w Q _ => ∃ α ν β μ r, args = [.ref 21] ∧ w = W2 α ν β μ r ∧ Q (some (.int (nI (zcs (β 3) 96)))) (W2 α ν β (zTh μ 0) r)
def pg_X5_shapes : List zE := [(0, .aload_n 0, 1, []), (1, .iconst 0, 1, [0]), (2, .putfield 55, 3, []), (5, .aload_n 0, 1, []), (6, .invokevirtual 71, 3, []), (9, .ireturn, 1, [])]
theorem hp_X5_shapes : ∀ q ∈ pg_X5_shapes, decode cX5_shapes q.1 = .ok (q.2.1, q.2.2.1) ∧ ztg q.2.1 q.1 q.2.2.1 q.2.2.2 = true := zpg_of (by decide +kernel)
def cs_X5_shapes : List (Nat × zCall) := [(71, 0, 1, some 6, 0, 0, false, sp_X5_count)]
theorem hcs_X5_shapes {l : Launch} (hl0 : l.stackTraces = false) : ∀ q ∈ cs_X5_shapes, zCallable l RX5 2 q := List.forall_mem_cons.mpr ⟨zcV (C := (RX5, TX5, 21)) (ps := [1144, 1146, 15, 38, 1147]) (c_X5_count hl0) (by decide +kernel) rfl ⟨rfl, by decide +kernel, by decide +kernel, by decide +kernel⟩ (by decide) (by decide), fun _ h => absurd h List.not_mem_nil⟩
def th_X5_shapes : List (Nat × String) := []
theorem hth_X5_shapes : ∀ q ∈ th_X5_shapes, zThrow cX5_shapes RX5 q := fun _ h => absurd h List.not_mem_nil
def kc_X5_shapes : List (Nat × Int32) := []
theorem hkc_X5_shapes : ∀ q ∈ kc_X5_shapes, Cond.constant RX5 q.1 q.2 ∈ zTs := fun _ h => absurd h List.not_mem_nil
def nw_X5_shapes : List (Nat × Nat × Nat × List Value) := []
theorem hnw_X5_shapes : ∀ q ∈ nw_X5_shapes, zNew RX5 q := fun _ h => absurd h List.not_mem_nil
set_option maxHeartbeats 4000000 in
set_option maxRecDepth 20000 in
theorem c_X5_shapes {l : Launch} (hl0 : l.stackTraces = false) : CT l yX5_shapes (.code yX5_shapes cX5_shapes 1 (some .int)) 2 0 0 false sp_X5_shapes := by
  refine zCT_of hl0 (own := RX5) fl_RX5 cs_X5_shapes nw_X5_shapes th_X5_shapes kc_X5_shapes (fun _ => []) false pg_X5_shapes rfl (by decide +kernel) hp_X5_shapes ⟨_, _, rfl, rfl⟩ hfl_RX5 (fun h => nomatch h) (hcs_X5_shapes hl0) hnw_X5_shapes hth_X5_shapes (fun _ _ h => absurd h List.not_mem_nil) hkc_X5_shapes (fun args w Q X v0 hv0 h => ?_)
  obtain ⟨α, ν, β, μ, r, rfl, rfl, hQ⟩ := h
  refine ⟨Nat.le_of_ble_eq_true rfl, 20, [], ?_, fun q hq => absurd hq List.not_mem_nil⟩
  (conv => whnf)
  refine ⟨α, ν, β, zTh μ 0, r, rfl, rfl, ?_⟩
  (conv => whnf)
  exact hQ
def sp_X5_isTold : zSpec := fun args w Q _ => ∃ α ν β μ r x, args = [.ref 21, .int x] ∧ w = W2 α ν β μ r ∧ (vp_in x 96 → Q (some (.int 1)) (W2 α ν β (zTh μ 0) r)) ∧ (¬ vp_in x 96 → Q (some (.int 0)) (W2 α ν β (zTh μ 1) r))
def pg_X5_isTold : List zE := [(0, .aload_n 0, 1, []), (1, .iload_n 1, 1, []), (2, .invokestatic 67, 3, []), (5, .ifCond .eq 7, 3, [12]), (8, .iconst 0, 1, [0]), (9, .goto 4, 3, [13]), (12, .iconst 1, 1, [1]), (13, .putfield 55, 3, []), (16, .aload_n 0, 1, []), (17, .getfield 55, 3, []), (20, .ifCond .ne 7, 3, [27]), (23, .iconst 1, 1, [1]), (24, .goto 4, 3, [28]), (27, .iconst 0, 1, [0]), (28, .ireturn, 1, [])]
theorem hp_X5_isTold : ∀ q ∈ pg_X5_isTold, decode cX5_isTold q.1 = .ok (q.2.1, q.2.2.1) ∧ ztg q.2.1 q.1 q.2.2.1 q.2.2.2 = true := zpg_of (by decide +kernel)
def cs_X5_isTold : List (Nat × zCall) := [(67, 1, 1, none, 0, 0, false, sp_X5_isCell)]
theorem hcs_X5_isTold {l : Launch} (hl0 : l.stackTraces = false) : ∀ q ∈ cs_X5_isTold, zCallable l RX5 3 q := List.forall_mem_cons.mpr ⟨zcS (ps := [1134, 1135, 38, 1136]) (c_X5_isCell hl0) (by decide +kernel) ⟨by decide +kernel, by decide +kernel, by decide +kernel⟩ (by decide) (by decide), fun _ h => absurd h List.not_mem_nil⟩
def th_X5_isTold : List (Nat × String) := []
theorem hth_X5_isTold : ∀ q ∈ th_X5_isTold, zThrow cX5_isTold RX5 q := fun _ h => absurd h List.not_mem_nil
def kc_X5_isTold : List (Nat × Int32) := []
theorem hkc_X5_isTold : ∀ q ∈ kc_X5_isTold, Cond.constant RX5 q.1 q.2 ∈ zTs := fun _ h => absurd h List.not_mem_nil
def nw_X5_isTold : List (Nat × Nat × Nat × List Value) := []
theorem hnw_X5_isTold : ∀ q ∈ nw_X5_isTold, zNew RX5 q := fun _ h => absurd h List.not_mem_nil
set_option maxHeartbeats 4000000 in
set_option maxRecDepth 20000 in
theorem c_X5_isTold {l : Launch} (hl0 : l.stackTraces = false) : CT l yX5_isTold (.code yX5_isTold cX5_isTold 2 (some .boolean)) 3 0 0 false sp_X5_isTold := by
  refine zCT_of hl0 (own := RX5) fl_RX5 cs_X5_isTold nw_X5_isTold th_X5_isTold kc_X5_isTold (fun _ => []) false pg_X5_isTold rfl (by decide +kernel) hp_X5_isTold ⟨_, _, rfl, rfl⟩ hfl_RX5 (fun h => nomatch h) (hcs_X5_isTold hl0) hnw_X5_isTold hth_X5_isTold (fun _ _ h => absurd h List.not_mem_nil) hkc_X5_isTold (fun args w Q X v0 hv0 h => ?_)
  obtain ⟨α, ν, β, μ, r, x, rfl, rfl, h1, h2⟩ := h
  refine ⟨Nat.le_of_ble_eq_true rfl, 60, [], ?_, fun q hq => absurd hq List.not_mem_nil⟩
  (conv => whnf)
  refine ⟨_, rfl, fun c => ?_, fun c => ?_⟩
  · (conv => whnf)
    refine And.intro (fun c => absurd c (show ¬ _ from (by decide))) (fun _ => ?_)
    (conv => whnf)
    refine And.intro (fun _ => ?_) (fun c => absurd (show _ from rfl) c)
    (conv => whnf)
    exact ⟨Or.inr rfl, h1 c⟩
  · (conv => whnf)
    refine And.intro (fun _ => ?_) (fun c => absurd (show _ from rfl) c)
    (conv => whnf)
    refine And.intro (fun c => absurd c (show ¬ _ from (by decide))) (fun _ => ?_)
    (conv => whnf)
    exact ⟨Or.inl rfl, h2 c⟩
def zAskM (g : (Nat → Nat → Int32) → Nat → Int32) : zSpec := fun args w Q _ => ∃ α ν β μ r x, args = [.ref 21, .int x] ∧ w = W2 α ν β μ r ∧ (¬ vp_in x 96 → Q (some (.int (nI 0))) (W2 α ν β (zTh μ 1) r)) ∧ ∀ k, k < 96 → x = nI k → Q (some (.int (g β k))) (W2 α ν β (zTh μ 0) r)
def sp_X5_shapeOf : zSpec := zAskM (fun β k => β 3 k)
def pg_X5_shapeOf : List zE := [(0, .aload_n 0, 1, []), (1, .iload_n 1, 1, []), (2, .invokevirtual 75, 3, []), (5, .ifCond .eq 12, 3, [17]), (8, .aload_n 0, 1, []), (9, .getfield 19, 3, []), (12, .iload_n 1, 1, []), (13, .iaload, 1, []), (14, .goto 4, 3, [18]), (17, .iconst 0, 1, [0]), (18, .ireturn, 1, [])]
theorem hp_X5_shapeOf : ∀ q ∈ pg_X5_shapeOf, decode cX5_shapeOf q.1 = .ok (q.2.1, q.2.2.1) ∧ ztg q.2.1 q.1 q.2.2.1 q.2.2.2 = true := zpg_of (by decide +kernel)
def cs_X5_shapeOf : List (Nat × zCall) := [(75, 0, 2, some 6, 0, 0, false, sp_X5_isTold)]
theorem hcs_X5_shapeOf {l : Launch} (hl0 : l.stackTraces = false) : ∀ q ∈ cs_X5_shapeOf, zCallable l RX5 4 q := List.forall_mem_cons.mpr ⟨zcV (C := (RX5, TX5, 21)) (ps := [1156, 1158, 16, 38, 1159]) (c_X5_isTold hl0) (by decide +kernel) rfl ⟨rfl, by decide +kernel, by decide +kernel, by decide +kernel⟩ (by decide) (by decide), fun _ h => absurd h List.not_mem_nil⟩
def th_X5_shapeOf : List (Nat × String) := []
theorem hth_X5_shapeOf : ∀ q ∈ th_X5_shapeOf, zThrow cX5_shapeOf RX5 q := fun _ h => absurd h List.not_mem_nil
def kc_X5_shapeOf : List (Nat × Int32) := []
theorem hkc_X5_shapeOf : ∀ q ∈ kc_X5_shapeOf, Cond.constant RX5 q.1 q.2 ∈ zTs := fun _ h => absurd h List.not_mem_nil
def nw_X5_shapeOf : List (Nat × Nat × Nat × List Value) := []
theorem hnw_X5_shapeOf : ∀ q ∈ nw_X5_shapeOf, zNew RX5 q := fun _ h => absurd h List.not_mem_nil
set_option maxHeartbeats 4000000 in
set_option maxRecDepth 20000 in
theorem c_X5_shapeOf {l : Launch} (hl0 : l.stackTraces = false) : CT l yX5_shapeOf (.code yX5_shapeOf cX5_shapeOf 2 (some .int)) 4 0 0 false sp_X5_shapeOf := by
  refine zCT_of hl0 (own := RX5) fl_RX5 cs_X5_shapeOf nw_X5_shapeOf th_X5_shapeOf kc_X5_shapeOf (fun _ => []) false pg_X5_shapeOf rfl (by decide +kernel) hp_X5_shapeOf ⟨_, _, rfl, rfl⟩ hfl_RX5 (fun h => nomatch h) (hcs_X5_shapeOf hl0) hnw_X5_shapeOf hth_X5_shapeOf (fun _ _ h => absurd h List.not_mem_nil) hkc_X5_shapeOf (fun args w Q X v0 hv0 h => ?_)
  obtain ⟨α, ν, β, μ, r, x, rfl, rfl, h1, h2⟩ := h
  refine ⟨Nat.le_of_ble_eq_true rfl, 60, [], ?_, fun q hq => absurd hq List.not_mem_nil⟩
  (conv => whnf)
  refine ⟨_, _, _, _, _, _, rfl, rfl, fun c => ?_, fun c => ?_⟩
  · obtain ⟨k, hk, rfl⟩ := vp_in_of c (by decide)
    (conv => whnf)
    refine And.intro (fun c => absurd c (show ¬ _ from (by decide))) (fun _ => ?_)
    (conv => whnf)
    refine ⟨vp_in_nI hk (by decide), ?_⟩
    (conv => whnf)
    rw [nI_clamp (by omega)]
    exact h2 k hk rfl
  · (conv => whnf)
    refine And.intro (fun _ => ?_) (fun c => absurd (show _ from rfl) c)
    (conv => whnf)
    exact h1 c
/-- how many cells are v -/
def zct (f : Nat → Int32) (s : Int32) : Nat → Nat
  | 0 => 0
  | n + 1 => zct f s n + (if f n = s then 1 else 0)
theorem zct_t {f : Nat → Int32} {s : Int32} {n : Nat} (h : f n = s) : zct f s (n + 1) = zct f s n + 1 := by
  show zct f s n + (if f n = s then 1 else 0) = _
  rw [if_pos h]
theorem zct_f {f : Nat → Int32} {s : Int32} {n : Nat} (h : ¬ f n = s) : zct f s (n + 1) = zct f s n := by
  show zct f s n + (if f n = s then 1 else 0) = _
  rw [if_neg h]; rfl
theorem zct_c {f : Nat → Int32} {s : Int32} (h : s ≠ -1) : ∀ n, zct f s n = zcnt f s n
  | 0 => rfl
  | n + 1 => by
    by_cases e : f n = s
    · rw [zct_t e, zcnt_t ⟨h, e⟩, zct_c h n]
    · rw [zct_f e, zcnt_f (fun q => e q.2), zct_c h n]
theorem zcnt_m (f : Nat → Int32) : ∀ n, zcnt f (-1) n = 0
  | 0 => rfl
  | n + 1 => by rw [zcnt_f (fun q => q.1 rfl), zcnt_m f n]
def sp_X5_sizeOf : zSpec := fun args w Q _ => ∃ α ν β μ r s, args = [.ref 21, .int s] ∧ w = W2 α ν β μ r ∧ Q (some (.int (nI (zct (β 3) s 96)))) (W2 α ν β μ r)
def pg_X5_sizeOf : List zE := [(0, .iconst 0, 1, [0]), (1, .istore_n 2, 1, []), (2, .iconst 0, 1, [0]), (3, .istore_n 3, 1, []), (4, .iload_n 3, 1, []), (5, .bipush 96, 2, [96]), (7, .if_icmp .ge 27, 3, [34]), (10, .iload_n 2, 1, []), (11, .aload_n 0, 1, []), (12, .getfield 19, 3, []), (15, .iload_n 3, 1, []), (16, .iaload, 1, []), (17, .iload_n 1, 1, []), (18, .if_icmp .ne 7, 3, [25]), (21, .iconst 1, 1, [1]), (22, .goto 4, 3, [26]), (25, .iconst 0, 1, [0]), (26, .iadd, 1, []), (27, .istore_n 2, 1, []), (28, .iinc 3 1, 3, [1]), (31, .goto (-27), 3, [4]), (34, .iload_n 2, 1, []), (35, .ireturn, 1, [])]
theorem hp_X5_sizeOf : ∀ q ∈ pg_X5_sizeOf, decode cX5_sizeOf q.1 = .ok (q.2.1, q.2.2.1) ∧ ztg q.2.1 q.1 q.2.2.1 q.2.2.2 = true := zpg_of (by decide +kernel)
def cs_X5_sizeOf : List (Nat × zCall) := []
theorem hcs_X5_sizeOf {l : Launch} (hl0 : l.stackTraces = false) : ∀ q ∈ cs_X5_sizeOf, zCallable l RX5 1 q := fun _ h => absurd h List.not_mem_nil
def th_X5_sizeOf : List (Nat × String) := []
theorem hth_X5_sizeOf : ∀ q ∈ th_X5_sizeOf, zThrow cX5_sizeOf RX5 q := fun _ h => absurd h List.not_mem_nil
def kc_X5_sizeOf : List (Nat × Int32) := []
theorem hkc_X5_sizeOf : ∀ q ∈ kc_X5_sizeOf, Cond.constant RX5 q.1 q.2 ∈ zTs := fun _ h => absurd h List.not_mem_nil
def nw_X5_sizeOf : List (Nat × Nat × Nat × List Value) := []
theorem hnw_X5_sizeOf : ∀ q ∈ nw_X5_sizeOf, zNew RX5 q := fun _ h => absurd h List.not_mem_nil
set_option maxHeartbeats 4000000 in
set_option maxRecDepth 20000 in
theorem c_X5_sizeOf {l : Launch} (hl0 : l.stackTraces = false) : CT l yX5_sizeOf (.code yX5_sizeOf cX5_sizeOf 4 (some .int)) 1 0 0 false sp_X5_sizeOf := by
  refine zCT_of hl0 (own := RX5) fl_RX5 cs_X5_sizeOf nw_X5_sizeOf th_X5_sizeOf kc_X5_sizeOf (fun _ => []) false pg_X5_sizeOf rfl (by decide +kernel) hp_X5_sizeOf ⟨_, _, rfl, rfl⟩ hfl_RX5 (fun h => nomatch h) (hcs_X5_sizeOf hl0) hnw_X5_sizeOf hth_X5_sizeOf (fun _ _ h => absurd h List.not_mem_nil) hkc_X5_sizeOf (fun args w Q X v0 hv0 h => ?_)
  obtain ⟨α, ν, β, μ, r, s, rfl, rfl, hQ⟩ := h
  refine ⟨Nat.le_of_ble_eq_true rfl, 60, [(4, fun m L S w' cu su => ∃ i, zsub [(0, .ref 21), (1, .int s), (2, .int (nI (zct (β 3) s i))), (3, .int (nI i))] L ∧ S = [] ∧ w' = W2 α ν β μ r ∧ i ≤ 96 ∧ m = 96 - i ∧ cu = 0 ∧ su = 0)], ?_, zone ?_⟩
  · (conv => whnf)
    exact ⟨96, 0, ⟨rfl, rfl, rfl, rfl, trivial⟩, rfl, rfl, by decide, rfl, rfl, rfl⟩
  · rintro m L S w' cu su ⟨i, hL, rfl, rfl, hi, rfl, rfl, rfl⟩
    refine ⟨_, hL, ?_⟩
    (conv => whnf)
    refine And.intro (fun c => ?_) (fun c => ?_)
    · have hlt : i < 96 := (nI_ltI (by omega) (by omega)).mp c
      (conv => whnf)
      refine ⟨vp_in_nI hlt (by decide), ?_⟩
      (conv => whnf)
      rw [nI_clamp (by omega)]
      refine And.intro (fun d => ?_) (fun d => ?_)
      · (conv => whnf)
        exact ⟨96 - (i + 1), by omega, i + 1, ⟨rfl, rfl, zi1 (zct_t d), zi1 rfl, trivial⟩, rfl, rfl, by omega, rfl, rfl, rfl⟩
      · (conv => whnf)
        exact ⟨96 - (i + 1), by omega, i + 1, ⟨rfl, rfl, by rw [zct_f d]; exact congrArg (fun x => some (Value.int x)) (nI_add _ 0), zi1 rfl, trivial⟩, rfl, rfl, by omega, rfl, rfl, rfl⟩
    · have hge : i = 96 := by
        have : ¬ i < 96 := fun h => c (nI_lt h (by decide))
        omega
      subst hge
      (conv => whnf)
      exact hQ
def sp_X5_size : zSpec := zAskM (fun β k => nI (zcnt (β 3) (β 3 k) 96))
def pg_X5_size : List zE := [(0, .aload_n 0, 1, []), (1, .iload_n 1, 1, []), (2, .invokevirtual 75, 3, []), (5, .ifCond .eq 26, 3, [31]), (8, .aload_n 0, 1, []), (9, .getfield 19, 3, []), (12, .iload_n 1, 1, []), (13, .iaload, 1, []), (14, .iconst (-1), 1, []), (15, .if_icmp .eq 16, 3, [31]), (18, .aload_n 0, 1, []), (19, .aload_n 0, 1, []), (20, .getfield 19, 3, []), (23, .iload_n 1, 1, []), (24, .iaload, 1, []), (25, .invokevirtual 78, 3, []), (28, .goto 4, 3, [32]), (31, .iconst 0, 1, [0]), (32, .ireturn, 1, [])]
theorem hp_X5_size : ∀ q ∈ pg_X5_size, decode cX5_size q.1 = .ok (q.2.1, q.2.2.1) ∧ ztg q.2.1 q.1 q.2.2.1 q.2.2.2 = true := zpg_of (by decide +kernel)
def cs_X5_size : List (Nat × zCall) := [(75, 0, 2, some 6, 0, 0, false, sp_X5_isTold), (78, 0, 2, some 6, 0, 0, false, sp_X5_sizeOf)]
theorem hcs_X5_size {l : Launch} (hl0 : l.stackTraces = false) : ∀ q ∈ cs_X5_size, zCallable l RX5 4 q := List.forall_mem_cons.mpr ⟨zcV (C := (RX5, TX5, 21)) (ps := [1156, 1158, 16, 38, 1159]) (c_X5_isTold hl0) (by decide +kernel) rfl ⟨rfl, by decide +kernel, by decide +kernel, by decide +kernel⟩ (by decide) (by decide), List.forall_mem_cons.mpr ⟨zcV (C := (RX5, TX5, 21)) (ps := [1164, 1166, 17, 38, 1167]) (c_X5_sizeOf hl0) (by decide +kernel) rfl ⟨rfl, by decide +kernel, by decide +kernel, by decide +kernel⟩ (by decide) (by decide), fun _ h => absurd h List.not_mem_nil⟩⟩
def th_X5_size : List (Nat × String) := []
theorem hth_X5_size : ∀ q ∈ th_X5_size, zThrow cX5_size RX5 q := fun _ h => absurd h List.not_mem_nil
def kc_X5_size : List (Nat × Int32) := []
theorem hkc_X5_size : ∀ q ∈ kc_X5_size, Cond.constant RX5 q.1 q.2 ∈ zTs := fun _ h => absurd h List.not_mem_nil
def nw_X5_size : List (Nat × Nat × Nat × List Value) := []
theorem hnw_X5_size : ∀ q ∈ nw_X5_size, zNew RX5 q := fun _ h => absurd h List.not_mem_nil
set_option maxHeartbeats 4000000 in
set_option maxRecDepth 20000 in
theorem c_X5_size {l : Launch} (hl0 : l.stackTraces = false) : CT l yX5_size (.code yX5_size cX5_size 2 (some .int)) 4 0 0 false sp_X5_size := by
  refine zCT_of hl0 (own := RX5) fl_RX5 cs_X5_size nw_X5_size th_X5_size kc_X5_size (fun _ => []) false pg_X5_size rfl (by decide +kernel) hp_X5_size ⟨_, _, rfl, rfl⟩ hfl_RX5 (fun h => nomatch h) (hcs_X5_size hl0) hnw_X5_size hth_X5_size (fun _ _ h => absurd h List.not_mem_nil) hkc_X5_size (fun args w Q X v0 hv0 h => ?_)
  obtain ⟨α, ν, β, μ, r, x, rfl, rfl, h1, h2⟩ := h
  refine ⟨Nat.le_of_ble_eq_true rfl, 60, [], ?_, fun q hq => absurd hq List.not_mem_nil⟩
  (conv => whnf)
  refine ⟨_, _, _, _, _, _, rfl, rfl, fun c => ?_, fun c => ?_⟩
  · obtain ⟨k, hk, rfl⟩ := vp_in_of c (by decide)
    have h3 : Q (some (.int (nI (zcnt (β 3) (β 3 k) 96)))) (W2 α ν β (zTh μ 0) r) := h2 k hk rfl
    (conv => whnf)
    refine And.intro (fun c => absurd c (show ¬ _ from (by decide))) (fun _ => ?_)
    (conv => whnf)
    refine ⟨vp_in_nI hk (by decide), ?_⟩
    (conv => whnf)
    rw [nI_clamp (by omega)]
    refine And.intro (fun d => ?_) (fun d => ?_)
    · have e : β 3 k = -1 := d
      (conv => whnf)
      rw [e, zcnt_m] at h3
      exact h3
    · have e : β 3 k ≠ -1 := d
      (conv => whnf)
      refine ⟨vp_in_nI hk (by decide), ?_⟩
      (conv => whnf)
      rw [nI_clamp (by omega)]
      refine ⟨_, _, _, _, _, _, rfl, rfl, ?_⟩
      (conv => whnf)
      have e2 : zct (β 3) (β 3 k) 96 = zcnt (β 3) (β 3 k) 96 := zct_c e 96
      rw [← e2] at h3
      exact h3
  · (conv => whnf)
    refine And.intro (fun _ => ?_) (fun c => absurd (show _ from rfl) c)
    (conv => whnf)
    exact h1 c
def sp_X5_top : zSpec := zAskM (fun β k => zmx (β 3) (β 0) (β 3 k) 96)
def pg_X5_top : List zE := [(0, .iconst 0, 1, [0]), (1, .istore_n 2, 1, []), (2, .iconst 0, 1, [0]), (3, .istore_n 3, 1, []), (4, .iload_n 3, 1, []), (5, .bipush 96, 2, [96]), (7, .if_icmp .ge 63, 3, [70]), (10, .aload_n 0, 1, []), (11, .iload_n 1, 1, []), (12, .invokevirtual 75, 3, []), (15, .ifCond .eq 55, 3, [70]), (18, .aload_n 0, 1, []), (19, .getfield 19, 3, []), (22, .iload_n 1, 1, []), (23, .iaload, 1, []), (24, .iconst (-1), 1, []), (25, .if_icmp .eq 37, 3, [62]), (28, .aload_n 0, 1, []), (29, .getfield 19, 3, []), (32, .iload_n 3, 1, []), (33, .iaload, 1, []), (34, .aload_n 0, 1, []), (35, .getfield 19, 3, []), (38, .iload_n 1, 1, []), (39, .iaload, 1, []), (40, .if_icmp .ne 22, 3, [62]), (43, .aload_n 0, 1, []), (44, .getfield 7, 3, []), (47, .iload_n 3, 1, []), (48, .iaload, 1, []), (49, .iload_n 2, 1, []), (50, .if_icmp .le 12, 3, [62]), (53, .aload_n 0, 1, []), (54, .getfield 7, 3, []), (57, .iload_n 3, 1, []), (58, .iaload, 1, []), (59, .goto 4, 3, [63]), (62, .iload_n 2, 1, []), (63, .istore_n 2, 1, []), (64, .iinc 3 1, 3, [1]), (67, .goto (-63), 3, [4]), (70, .iload_n 2, 1, []), (71, .ireturn, 1, [])]
theorem hp_X5_top : ∀ q ∈ pg_X5_top, decode cX5_top q.1 = .ok (q.2.1, q.2.2.1) ∧ ztg q.2.1 q.1 q.2.2.1 q.2.2.2 = true := zpg_of (by decide +kernel)
def cs_X5_top : List (Nat × zCall) := [(75, 0, 2, some 6, 0, 0, false, sp_X5_isTold)]
theorem hcs_X5_top {l : Launch} (hl0 : l.stackTraces = false) : ∀ q ∈ cs_X5_top, zCallable l RX5 4 q := List.forall_mem_cons.mpr ⟨zcV (C := (RX5, TX5, 21)) (ps := [1156, 1158, 16, 38, 1159]) (c_X5_isTold hl0) (by decide +kernel) rfl ⟨rfl, by decide +kernel, by decide +kernel, by decide +kernel⟩ (by decide) (by decide), fun _ h => absurd h List.not_mem_nil⟩
def th_X5_top : List (Nat × String) := []
theorem hth_X5_top : ∀ q ∈ th_X5_top, zThrow cX5_top RX5 q := fun _ h => absurd h List.not_mem_nil
def kc_X5_top : List (Nat × Int32) := []
theorem hkc_X5_top : ∀ q ∈ kc_X5_top, Cond.constant RX5 q.1 q.2 ∈ zTs := fun _ h => absurd h List.not_mem_nil
def nw_X5_top : List (Nat × Nat × Nat × List Value) := []
theorem hnw_X5_top : ∀ q ∈ nw_X5_top, zNew RX5 q := fun _ h => absurd h List.not_mem_nil
set_option maxHeartbeats 4000000 in
set_option maxRecDepth 20000 in
theorem c_X5_top {l : Launch} (hl0 : l.stackTraces = false) : CT l yX5_top (.code yX5_top cX5_top 4 (some .int)) 4 0 0 false sp_X5_top := by
  refine zCT_of hl0 (own := RX5) fl_RX5 cs_X5_top nw_X5_top th_X5_top kc_X5_top (fun _ => []) false pg_X5_top rfl (by decide +kernel) hp_X5_top ⟨_, _, rfl, rfl⟩ hfl_RX5 (fun h => nomatch h) (hcs_X5_top hl0) hnw_X5_top hth_X5_top (fun _ _ h => absurd h List.not_mem_nil) hkc_X5_top (fun args w Q X v0 hv0 h => ?_)
  obtain ⟨α, ν, β, μ, r, x, rfl, rfl, h1, h2⟩ := h
  by_cases hc : vp_in x 96
  · obtain ⟨k, hk, rfl⟩ := vp_in_of hc (by decide)
    have h3 := h2 k hk rfl
    refine ⟨Nat.le_of_ble_eq_true rfl, 80, [(4, fun m L S w' cu su => ∃ i μ', zsub [(0, .ref 21), (1, .int (nI k)), (2, .int (zmx (β 3) (β 0) (β 3 k) i)), (3, .int (nI i))] L ∧ S = [] ∧ w' = W2 α ν β μ' r ∧ (μ' = μ ∧ i = 0 ∨ μ' = zTh μ 0) ∧ i ≤ 96 ∧ m = 96 - i ∧ cu = 0 ∧ su = 0)], ?_, zone ?_⟩
    · (conv => whnf)
      exact ⟨96, 0, μ, ⟨rfl, rfl, rfl, rfl, trivial⟩, rfl, rfl, Or.inl ⟨rfl, rfl⟩, by decide, rfl, rfl, rfl⟩
    · rintro m L S w' cu su ⟨i, μ', hL, rfl, rfl, hμ, hi, rfl, rfl, rfl⟩
      refine ⟨_, hL, ?_⟩
      have hμ2 : zTh μ' 0 = zTh μ 0 := by
        rcases hμ with ⟨rfl, _⟩ | rfl
        · rfl
        · funext j
          unfold zTh zu
          cases Nat.beq j 7 <;> rfl
      (conv => whnf)
      refine And.intro (fun c => ?_) (fun c => ?_)
      · have hlt : i < 96 := (nI_ltI (by omega) (by omega)).mp c
        (conv => whnf)
        refine ⟨α, ν, β, μ', r, nI k, rfl, rfl, fun _ => ?_, fun c => absurd hc c⟩
        rw [hμ2]
        (conv => whnf)
        refine And.intro (fun c => absurd c (show ¬ _ from (by decide))) (fun _ => ?_)
        (conv => whnf)
        refine ⟨vp_in_nI hk (by decide), ?_⟩
        (conv => whnf)
        rw [nI_clamp (show k < 2 ^ 31 by omega)]
        refine And.intro (fun d => ?_) (fun d => ?_)
        · (conv => whnf)
          exact ⟨96 - (i + 1), by omega, i + 1, zTh μ 0, ⟨rfl, rfl, by rw [zmx_f (fun q => q.1 d)]; rfl, zi1 rfl, trivial⟩, rfl, rfl, Or.inr rfl, by omega, rfl, rfl, rfl⟩
        · (conv => whnf)
          refine ⟨vp_in_nI hlt (by decide), ?_⟩
          (conv => whnf)
          refine ⟨vp_in_nI hk (by decide), ?_⟩
          (conv => whnf)
          rw [nI_clamp (show k < 2 ^ 31 by omega), nI_clamp (show i < 2 ^ 31 by omega)]
          refine And.intro (fun e => ?_) (fun e => ?_)
          · have hq : β 3 k ≠ -1 ∧ β 3 i = β 3 k := ⟨d, e⟩
            (conv => whnf)
            refine ⟨vp_in_nI hlt (by decide), ?_⟩
            (conv => whnf)
            rw [nI_clamp (show i < 2 ^ 31 by omega)]
            refine And.intro (fun g => ?_) (fun g => ?_)
            · (conv => whnf)
              refine ⟨vp_in_nI hlt (by decide), ?_⟩
              (conv => whnf)
              rw [nI_clamp (show i < 2 ^ 31 by omega)]
              exact ⟨96 - (i + 1), by omega, i + 1, zTh μ 0, ⟨rfl, rfl, by rw [zmx_t hq]; exact congrArg (fun x => some (Value.int x)) (if_pos g).symm, zi1 rfl, trivial⟩, rfl, rfl, Or.inr rfl, by omega, rfl, rfl, rfl⟩
            · (conv => whnf)
              exact ⟨96 - (i + 1), by omega, i + 1, zTh μ 0, ⟨rfl, rfl, by rw [zmx_t hq]; exact congrArg (fun x => some (Value.int x)) (if_neg g).symm, zi1 rfl, trivial⟩, rfl, rfl, Or.inr rfl, by omega, rfl, rfl, rfl⟩
          · (conv => whnf)
            exact ⟨96 - (i + 1), by omega, i + 1, zTh μ 0, ⟨rfl, rfl, by rw [zmx_f (fun q => e q.2)]; rfl, zi1 rfl, trivial⟩, rfl, rfl, Or.inr rfl, by omega, rfl, rfl, rfl⟩
      · have hge : i = 96 := by
          have : ¬ i < 96 := fun h => c (nI_lt h (by decide))
          omega
        subst hge
        have hμ3 : μ' = zTh μ 0 := by
          rcases hμ with ⟨_, e⟩ | e
          · omega
          · exact e
        rw [hμ3]
        (conv => whnf)
        exact h3
  · refine ⟨Nat.le_of_ble_eq_true rfl, 60, [(4, fun m L S w' cu su => zsub [(0, .ref 21), (1, .int x), (2, .int (nI 0)), (3, .int (nI 0))] L ∧ S = [] ∧ w' = W2 α ν β μ r ∧ m = 0 ∧ cu = 0 ∧ su = 0)], ?_, zone ?_⟩
    · (conv => whnf)
      exact ⟨0, ⟨rfl, rfl, rfl, rfl, trivial⟩, rfl, rfl, rfl, rfl, rfl⟩
    · rintro m L S w' cu su ⟨hL, rfl, rfl, rfl, rfl, rfl⟩
      refine ⟨_, hL, ?_⟩
      (conv => whnf)
      refine And.intro (fun _ => ?_) (fun c => absurd (show _ from (by decide)) c)
      (conv => whnf)
      refine ⟨α, ν, β, μ, r, x, rfl, rfl, fun q => absurd q hc, fun _ => ?_⟩
      (conv => whnf)
      refine And.intro (fun _ => ?_) (fun c => absurd (show _ from rfl) c)
      (conv => whnf)
      exact h1 hc
def sp_X5_nameFor : zSpec := fun args w Q _ => ∃ α ν β μ r s, args = [.ref 21, .int s] ∧ w = W2 α ν β μ r ∧ Q (some (.int (zNm β s))) (W2 α ν β μ r)
theorem znm_m (f t m : Nat → Int32) : ∀ n, znm f t m (-1) n = (0, 0)
  | 0 => rfl
  | n + 1 => by rw [znm_f (Or.inl (fun q => q.1 rfl)), znm_m f t m n]
def pg_X5_nameFor : List zE := [(0, .iconst 0, 1, [0]), (1, .istore_n 2, 1, []), (2, .iconst 0, 1, [0]), (3, .istore_n 3, 1, []), (4, .iconst 0, 1, [0]), (5, .istore 4, 2, []), (7, .iload 4, 2, []), (9, .bipush 96, 2, [96]), (11, .if_icmp .ge 52, 3, [63]), (14, .iload_n 1, 1, []), (15, .iconst (-1), 1, []), (16, .if_icmp .eq 47, 3, [63]), (19, .aload_n 0, 1, []), (20, .getfield 19, 3, []), (23, .iload 4, 2, []), (25, .iaload, 1, []), (26, .iload_n 1, 1, []), (27, .if_icmp .ne 30, 3, [57]), (30, .aload_n 0, 1, []), (31, .getfield 16, 3, []), (34, .iload 4, 2, []), (36, .iaload, 1, []), (37, .iload_n 2, 1, []), (38, .if_icmp .le 19, 3, [57]), (41, .aload_n 0, 1, []), (42, .getfield 16, 3, []), (45, .iload 4, 2, []), (47, .iaload, 1, []), (48, .istore_n 2, 1, []), (49, .aload_n 0, 1, []), (50, .getfield 13, 3, []), (53, .iload 4, 2, []), (55, .iaload, 1, []), (56, .istore_n 3, 1, []), (57, .iinc 4 1, 3, [1]), (60, .goto (-53), 3, [7]), (63, .iload_n 3, 1, []), (64, .ireturn, 1, [])]
theorem hp_X5_nameFor : ∀ q ∈ pg_X5_nameFor, decode cX5_nameFor q.1 = .ok (q.2.1, q.2.2.1) ∧ ztg q.2.1 q.1 q.2.2.1 q.2.2.2 = true := zpg_of (by decide +kernel)
def cs_X5_nameFor : List (Nat × zCall) := []
theorem hcs_X5_nameFor {l : Launch} (hl0 : l.stackTraces = false) : ∀ q ∈ cs_X5_nameFor, zCallable l RX5 1 q := fun _ h => absurd h List.not_mem_nil
def th_X5_nameFor : List (Nat × String) := []
theorem hth_X5_nameFor : ∀ q ∈ th_X5_nameFor, zThrow cX5_nameFor RX5 q := fun _ h => absurd h List.not_mem_nil
def kc_X5_nameFor : List (Nat × Int32) := []
theorem hkc_X5_nameFor : ∀ q ∈ kc_X5_nameFor, Cond.constant RX5 q.1 q.2 ∈ zTs := fun _ h => absurd h List.not_mem_nil
def nw_X5_nameFor : List (Nat × Nat × Nat × List Value) := []
theorem hnw_X5_nameFor : ∀ q ∈ nw_X5_nameFor, zNew RX5 q := fun _ h => absurd h List.not_mem_nil
set_option maxHeartbeats 4000000 in
set_option maxRecDepth 20000 in
theorem c_X5_nameFor {l : Launch} (hl0 : l.stackTraces = false) : CT l yX5_nameFor (.code yX5_nameFor cX5_nameFor 5 (some .int)) 1 0 0 false sp_X5_nameFor := by
  refine zCT_of hl0 (own := RX5) fl_RX5 cs_X5_nameFor nw_X5_nameFor th_X5_nameFor kc_X5_nameFor (fun _ => []) false pg_X5_nameFor rfl (by decide +kernel) hp_X5_nameFor ⟨_, _, rfl, rfl⟩ hfl_RX5 (fun h => nomatch h) (hcs_X5_nameFor hl0) hnw_X5_nameFor hth_X5_nameFor (fun _ _ h => absurd h List.not_mem_nil) hkc_X5_nameFor (fun args w Q X v0 hv0 h => ?_)
  obtain ⟨α, ν, β, μ, r, s, rfl, rfl, hQ⟩ := h
  refine ⟨Nat.le_of_ble_eq_true rfl, 60, [(7, fun m L S w' cu su => ∃ i, zsub [(0, .ref 21), (1, .int s), (2, .int (znm (β 3) (β 2) (β 1) s i).1), (3, .int (znm (β 3) (β 2) (β 1) s i).2), (4, .int (nI i))] L ∧ S = [] ∧ w' = W2 α ν β μ r ∧ i ≤ 96 ∧ m = 96 - i ∧ cu = 0 ∧ su = 0)], ?_, zone ?_⟩
  · (conv => whnf)
    exact ⟨96, 0, ⟨rfl, rfl, rfl, rfl, rfl, trivial⟩, rfl, rfl, by decide, rfl, rfl, rfl⟩
  · rintro m L S w' cu su ⟨i, hL, rfl, rfl, hi, rfl, rfl, rfl⟩
    refine ⟨_, hL, ?_⟩
    (conv => whnf)
    refine And.intro (fun c => ?_) (fun c => ?_)
    · have hlt : i < 96 := (nI_ltI (by omega) (by omega)).mp c
      (conv => whnf)
      refine And.intro (fun d => ?_) (fun d => ?_)
      · have d2 : s = -1 := d
        (conv => whnf)
        have e2 : (znm (β 3) (β 2) (β 1) s i).2 = zNm β s := by rw [d2]; unfold zNm; rw [znm_m, znm_m]
        rw [e2]
        exact hQ
      · (conv => whnf)
        refine ⟨vp_in_nI hlt (by decide), ?_⟩
        (conv => whnf)
        rw [nI_clamp (by omega)]
        refine And.intro (fun e => ?_) (fun e => ?_)
        · have hq : s ≠ -1 ∧ β 3 i = s := ⟨d, e⟩
          (conv => whnf)
          refine ⟨vp_in_nI hlt (by decide), ?_⟩
          (conv => whnf)
          rw [nI_clamp (by omega)]
          refine And.intro (fun g => ?_) (fun g => ?_)
          · (conv => whnf)
            refine ⟨vp_in_nI hlt (by decide), ?_⟩
            (conv => whnf)
            refine ⟨vp_in_nI hlt (by decide), ?_⟩
            (conv => whnf)
            rw [nI_clamp (by omega)]
            exact ⟨96 - (i + 1), by omega, i + 1, ⟨rfl, rfl, by rw [znm_t hq g]; rfl, by rw [znm_t hq g]; rfl, zi1 rfl, trivial⟩, rfl, rfl, by omega, rfl, rfl, rfl⟩
          · (conv => whnf)
            exact ⟨96 - (i + 1), by omega, i + 1, ⟨rfl, rfl, by rw [znm_f (Or.inr g)]; rfl, by rw [znm_f (Or.inr g)]; rfl, zi1 rfl, trivial⟩, rfl, rfl, by omega, rfl, rfl, rfl⟩
        · (conv => whnf)
          exact ⟨96 - (i + 1), by omega, i + 1, ⟨rfl, rfl, by rw [znm_f (Or.inl (fun q => e q.2))]; rfl, by rw [znm_f (Or.inl (fun q => e q.2))]; rfl, zi1 rfl, trivial⟩, rfl, rfl, by omega, rfl, rfl, rfl⟩
    · have hge : i = 96 := by
        have : ¬ i < 96 := fun h => c (nI_lt h (by decide))
        omega
      subst hge
      (conv => whnf)
      exact hQ
def sp_X5_nameOf : zSpec := zAskM (fun β k => zNm β (β 3 k))
def pg_X5_nameOf : List zE := [(0, .aload_n 0, 1, []), (1, .iload_n 1, 1, []), (2, .invokevirtual 75, 3, []), (5, .ifCond .eq 16, 3, [21]), (8, .aload_n 0, 1, []), (9, .aload_n 0, 1, []), (10, .getfield 19, 3, []), (13, .iload_n 1, 1, []), (14, .iaload, 1, []), (15, .invokevirtual 82, 3, []), (18, .goto 4, 3, [22]), (21, .iconst 0, 1, [0]), (22, .ireturn, 1, [])]
theorem hp_X5_nameOf : ∀ q ∈ pg_X5_nameOf, decode cX5_nameOf q.1 = .ok (q.2.1, q.2.2.1) ∧ ztg q.2.1 q.1 q.2.2.1 q.2.2.2 = true := zpg_of (by decide +kernel)
def cs_X5_nameOf : List (Nat × zCall) := [(75, 0, 2, some 6, 0, 0, false, sp_X5_isTold), (82, 0, 2, some 6, 0, 0, false, sp_X5_nameFor)]
theorem hcs_X5_nameOf {l : Launch} (hl0 : l.stackTraces = false) : ∀ q ∈ cs_X5_nameOf, zCallable l RX5 4 q := List.forall_mem_cons.mpr ⟨zcV (C := (RX5, TX5, 21)) (ps := [1156, 1158, 16, 38, 1159]) (c_X5_isTold hl0) (by decide +kernel) rfl ⟨rfl, by decide +kernel, by decide +kernel, by decide +kernel⟩ (by decide) (by decide), List.forall_mem_cons.mpr ⟨zcV (C := (RX5, TX5, 21)) (ps := [1176, 1178, 18, 38, 1179]) (c_X5_nameFor hl0) (by decide +kernel) rfl ⟨rfl, by decide +kernel, by decide +kernel, by decide +kernel⟩ (by decide) (by decide), fun _ h => absurd h List.not_mem_nil⟩⟩
def th_X5_nameOf : List (Nat × String) := []
theorem hth_X5_nameOf : ∀ q ∈ th_X5_nameOf, zThrow cX5_nameOf RX5 q := fun _ h => absurd h List.not_mem_nil
def kc_X5_nameOf : List (Nat × Int32) := []
theorem hkc_X5_nameOf : ∀ q ∈ kc_X5_nameOf, Cond.constant RX5 q.1 q.2 ∈ zTs := fun _ h => absurd h List.not_mem_nil
def nw_X5_nameOf : List (Nat × Nat × Nat × List Value) := []
theorem hnw_X5_nameOf : ∀ q ∈ nw_X5_nameOf, zNew RX5 q := fun _ h => absurd h List.not_mem_nil
set_option maxHeartbeats 4000000 in
set_option maxRecDepth 20000 in
theorem c_X5_nameOf {l : Launch} (hl0 : l.stackTraces = false) : CT l yX5_nameOf (.code yX5_nameOf cX5_nameOf 2 (some .int)) 4 0 0 false sp_X5_nameOf := by
  refine zCT_of hl0 (own := RX5) fl_RX5 cs_X5_nameOf nw_X5_nameOf th_X5_nameOf kc_X5_nameOf (fun _ => []) false pg_X5_nameOf rfl (by decide +kernel) hp_X5_nameOf ⟨_, _, rfl, rfl⟩ hfl_RX5 (fun h => nomatch h) (hcs_X5_nameOf hl0) hnw_X5_nameOf hth_X5_nameOf (fun _ _ h => absurd h List.not_mem_nil) hkc_X5_nameOf (fun args w Q X v0 hv0 h => ?_)
  obtain ⟨α, ν, β, μ, r, x, rfl, rfl, h1, h2⟩ := h
  refine ⟨Nat.le_of_ble_eq_true rfl, 60, [], ?_, fun q hq => absurd hq List.not_mem_nil⟩
  (conv => whnf)
  refine ⟨_, _, _, _, _, _, rfl, rfl, fun c => ?_, fun c => ?_⟩
  · obtain ⟨k, hk, rfl⟩ := vp_in_of c (by decide)
    have h3 := h2 k hk rfl
    (conv => whnf)
    refine And.intro (fun c => absurd c (show ¬ _ from (by decide))) (fun _ => ?_)
    (conv => whnf)
    refine ⟨vp_in_nI hk (by decide), ?_⟩
    (conv => whnf)
    rw [nI_clamp (by omega)]
    refine ⟨_, _, _, _, _, _, rfl, rfl, ?_⟩
    (conv => whnf)
    exact h3
  · (conv => whnf)
    refine And.intro (fun _ => ?_) (fun c => absurd (show _ from rfl) c)
    (conv => whnf)
    exact h1 c
