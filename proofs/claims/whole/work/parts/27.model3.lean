/-! ===== EchoRegistryModel: claims, divers, titles ===== -/
def sp_X5_thrown : zSpec := fun args w Q _ => ∃ α ν β μ r, args = [.ref 21] ∧ w = W2 α ν β μ r ∧ Q (some (.int (μ 7))) (W2 α ν β μ r)
def pg_X5_thrown : List zE := [(0, .aload_n 0, 1, []), (1, .getfield 55, 3, []), (4, .ireturn, 1, [])]
theorem hp_X5_thrown : ∀ q ∈ pg_X5_thrown, decode cX5_thrown q.1 = .ok (q.2.1, q.2.2.1) ∧ ztg q.2.1 q.1 q.2.2.1 q.2.2.2 = true := zpg_of (by decide +kernel)
def cs_X5_thrown : List (Nat × zCall) := []
theorem hcs_X5_thrown {l : Launch} (hl0 : l.stackTraces = false) : ∀ q ∈ cs_X5_thrown, zCallable l RX5 1 q := fun _ h => absurd h List.not_mem_nil
def th_X5_thrown : List (Nat × String) := []
theorem hth_X5_thrown : ∀ q ∈ th_X5_thrown, zThrow cX5_thrown RX5 q := fun _ h => absurd h List.not_mem_nil
def kc_X5_thrown : List (Nat × Int32) := []
theorem hkc_X5_thrown : ∀ q ∈ kc_X5_thrown, Cond.constant RX5 q.1 q.2 ∈ zTs := fun _ h => absurd h List.not_mem_nil
def nw_X5_thrown : List (Nat × Nat × Nat × List Value) := []
theorem hnw_X5_thrown : ∀ q ∈ nw_X5_thrown, zNew RX5 q := fun _ h => absurd h List.not_mem_nil
set_option maxHeartbeats 4000000 in
set_option maxRecDepth 20000 in
theorem c_X5_thrown {l : Launch} (hl0 : l.stackTraces = false) : CT l yX5_thrown (.code yX5_thrown cX5_thrown 1 (some .int)) 1 0 0 false sp_X5_thrown := by
  refine zCT_of hl0 (own := RX5) fl_RX5 cs_X5_thrown nw_X5_thrown th_X5_thrown kc_X5_thrown (fun _ => []) false pg_X5_thrown rfl (by decide +kernel) hp_X5_thrown ⟨_, _, rfl, rfl⟩ hfl_RX5 (fun h => nomatch h) (hcs_X5_thrown hl0) hnw_X5_thrown hth_X5_thrown (fun _ _ h => absurd h List.not_mem_nil) hkc_X5_thrown (fun args w Q X v0 hv0 h => ?_)
  obtain ⟨α, ν, β, μ, r, rfl, rfl, hQ⟩ := h
  refine ⟨Nat.le_of_ble_eq_true rfl, 20, [], ?_, fun q hq => absurd hq List.not_mem_nil⟩
  (conv => whnf)
  exact hQ
def sp_X5_isRunning : zSpec := fun args w Q _ => ∃ α ν β μ r j, j < 40 ∧ args = [.ref 21, .int (nI j)] ∧ w = W2 α ν β μ r ∧ zB Q (μ 0 - β 10 j < nI 28800) (W2 α ν β μ r)
def pg_X5_isRunning : List zE := [(0, .aload_n 0, 1, []), (1, .getfield 98, 3, []), (4, .aload_n 0, 1, []), (5, .getfield 37, 3, []), (8, .iload_n 1, 1, []), (9, .iaload, 1, []), (10, .isub, 1, []), (11, .sipush 28800, 3, [28800]), (14, .if_icmp .ge 7, 3, [21]), (17, .iconst 1, 1, [1]), (18, .goto 4, 3, [22]), (21, .iconst 0, 1, [0]), (22, .ireturn, 1, [])]
theorem hp_X5_isRunning : ∀ q ∈ pg_X5_isRunning, decode cX5_isRunning q.1 = .ok (q.2.1, q.2.2.1) ∧ ztg q.2.1 q.1 q.2.2.1 q.2.2.2 = true := zpg_of (by decide +kernel)
def cs_X5_isRunning : List (Nat × zCall) := []
theorem hcs_X5_isRunning {l : Launch} (hl0 : l.stackTraces = false) : ∀ q ∈ cs_X5_isRunning, zCallable l RX5 1 q := fun _ h => absurd h List.not_mem_nil
def th_X5_isRunning : List (Nat × String) := []
theorem hth_X5_isRunning : ∀ q ∈ th_X5_isRunning, zThrow cX5_isRunning RX5 q := fun _ h => absurd h List.not_mem_nil
def kc_X5_isRunning : List (Nat × Int32) := []
theorem hkc_X5_isRunning : ∀ q ∈ kc_X5_isRunning, Cond.constant RX5 q.1 q.2 ∈ zTs := fun _ h => absurd h List.not_mem_nil
def nw_X5_isRunning : List (Nat × Nat × Nat × List Value) := []
theorem hnw_X5_isRunning : ∀ q ∈ nw_X5_isRunning, zNew RX5 q := fun _ h => absurd h List.not_mem_nil
set_option maxHeartbeats 4000000 in
set_option maxRecDepth 20000 in
theorem c_X5_isRunning {l : Launch} (hl0 : l.stackTraces = false) : CT l yX5_isRunning (.code yX5_isRunning cX5_isRunning 2 (some .boolean)) 1 0 0 false sp_X5_isRunning := by
  refine zCT_of hl0 (own := RX5) fl_RX5 cs_X5_isRunning nw_X5_isRunning th_X5_isRunning kc_X5_isRunning (fun _ => []) false pg_X5_isRunning rfl (by decide +kernel) hp_X5_isRunning ⟨_, _, rfl, rfl⟩ hfl_RX5 (fun h => nomatch h) (hcs_X5_isRunning hl0) hnw_X5_isRunning hth_X5_isRunning (fun _ _ h => absurd h List.not_mem_nil) hkc_X5_isRunning (fun args w Q X v0 hv0 h => ?_)
  obtain ⟨α, ν, β, μ, r, j, hj, rfl, rfl, h1, h2⟩ := h
  refine ⟨Nat.le_of_ble_eq_true rfl, 20, [], ?_, fun q hq => absurd hq List.not_mem_nil⟩
  (conv => whnf)
  refine ⟨vp_in_nI hj (by decide), ?_⟩
  (conv => whnf)
  rw [nI_clamp (by omega)]
  refine And.intro (fun c => ?_) (fun c => ?_)
  · (conv => whnf)
    exact ⟨Or.inr rfl, h1 c⟩
  · (conv => whnf)
    exact ⟨Or.inl rfl, h2 c⟩
def zQr (β : Nat → Nat → Int32) (μ : Nat → Int32) (s : Int32) (j : Nat) : Prop := μ 0 - β 10 j < nI 28800 ∧ β 3 (β 9 j).toNatClampNeg = s
def zHM (β : Nat → Nat → Int32) (μ : Nat → Int32) (c : Nat) (s x : Int32) : Prop := zHr (zBad β s) (zQr β μ s) c x
theorem zHM_one {β : Nat → Nat → Int32} {μ : Nat → Int32} {c : Nat} {s x y : Int32} (h : zHM β μ c s x) (h' : zHM β μ c s y) : x = y := zHr_one Iff.rfl (fun _ _ => Iff.rfl) h h'
def zCm (β : Nat → Nat → Int32) (μ : Nat → Int32) (c : Nat) : Prop := c ≤ 40 ∧ μ 3 = nI c ∧ ∀ j, j < c → ∃ k, k < 96 ∧ β 9 j = nI k
def sp_X5_holder : zSpec := fun args w Q _ => ∃ α ν β μ r c s, zCm β μ c ∧ args = [.ref 21, .int s] ∧ w = W2 α ν β μ r ∧ ∀ x, zHM β μ c s x → Q (some (.int x)) (W2 α ν β μ r)
def pg_X5_holder : List zE := [(0, .iload_n 1, 1, []), (1, .iconst (-1), 1, []), (2, .if_icmp .eq 12, 3, [14]), (5, .aload_n 0, 1, []), (6, .iload_n 1, 1, []), (7, .invokevirtual 82, 3, []), (10, .iconst 1, 1, [1]), (11, .if_icmp .ne 5, 3, [16]), (14, .iconst (-1), 1, []), (15, .ireturn, 1, []), (16, .iconst 0, 1, [0]), (17, .istore_n 2, 1, []), (18, .iload_n 2, 1, []), (19, .aload_n 0, 1, []), (20, .getfield 124, 3, []), (23, .if_icmp .ge 34, 3, [57]), (26, .aload_n 0, 1, []), (27, .iload_n 2, 1, []), (28, .invokevirtual 127, 3, []), (31, .ifCond .eq 20, 3, [51]), (34, .aload_n 0, 1, []), (35, .getfield 19, 3, []), (38, .aload_n 0, 1, []), (39, .getfield 34, 3, []), (42, .iload_n 2, 1, []), (43, .iaload, 1, []), (44, .iaload, 1, []), (45, .iload_n 1, 1, []), (46, .if_icmp .ne 5, 3, [51]), (49, .iload_n 2, 1, []), (50, .ireturn, 1, []), (51, .iinc 2 1, 3, [1]), (54, .goto (-36), 3, [18]), (57, .iconst (-1), 1, []), (58, .ireturn, 1, [])]
theorem hp_X5_holder : ∀ q ∈ pg_X5_holder, decode cX5_holder q.1 = .ok (q.2.1, q.2.2.1) ∧ ztg q.2.1 q.1 q.2.2.1 q.2.2.2 = true := zpg_of (by decide +kernel)
def cs_X5_holder : List (Nat × zCall) := [(82, 0, 2, some 6, 0, 0, false, sp_X5_nameFor), (127, 0, 2, some 6, 0, 0, false, sp_X5_isRunning)]
theorem hcs_X5_holder {l : Launch} (hl0 : l.stackTraces = false) : ∀ q ∈ cs_X5_holder, zCallable l RX5 2 q := List.forall_mem_cons.mpr ⟨zcV (C := (RX5, TX5, 21)) (ps := [1176, 1178, 18, 38, 1179]) (c_X5_nameFor hl0) (by decide +kernel) rfl ⟨rfl, by decide +kernel, by decide +kernel, by decide +kernel⟩ (by decide) (by decide), List.forall_mem_cons.mpr ⟨zcV (C := (RX5, TX5, 21)) (ps := [1196, 1198, 22, 38, 1199]) (c_X5_isRunning hl0) (by decide +kernel) rfl ⟨rfl, by decide +kernel, by decide +kernel, by decide +kernel⟩ (by decide) (by decide), fun _ h => absurd h List.not_mem_nil⟩⟩
def th_X5_holder : List (Nat × String) := []
theorem hth_X5_holder : ∀ q ∈ th_X5_holder, zThrow cX5_holder RX5 q := fun _ h => absurd h List.not_mem_nil
def kc_X5_holder : List (Nat × Int32) := []
theorem hkc_X5_holder : ∀ q ∈ kc_X5_holder, Cond.constant RX5 q.1 q.2 ∈ zTs := fun _ h => absurd h List.not_mem_nil
def nw_X5_holder : List (Nat × Nat × Nat × List Value) := []
theorem hnw_X5_holder : ∀ q ∈ nw_X5_holder, zNew RX5 q := fun _ h => absurd h List.not_mem_nil
set_option maxHeartbeats 4000000 in
set_option maxRecDepth 20000 in
theorem c_X5_holder {l : Launch} (hl0 : l.stackTraces = false) : CT l yX5_holder (.code yX5_holder cX5_holder 3 (some .int)) 2 0 0 false sp_X5_holder := by
  refine zCT_of hl0 (own := RX5) fl_RX5 cs_X5_holder nw_X5_holder th_X5_holder kc_X5_holder (fun _ => []) false pg_X5_holder rfl (by decide +kernel) hp_X5_holder ⟨_, _, rfl, rfl⟩ hfl_RX5 (fun h => nomatch h) (hcs_X5_holder hl0) hnw_X5_holder hth_X5_holder (fun _ _ h => absurd h List.not_mem_nil) hkc_X5_holder (fun args w Q X v0 hv0 h => ?_)
  obtain ⟨α, ν, β, μ, r, n, s, ⟨hn, hμ, hk⟩, rfl, rfl, hQ⟩ := h
  refine ⟨Nat.le_of_ble_eq_true rfl, 60, [(18, fun m L S w' cu su => ∃ i, zsub [(0, .ref 21), (1, .int s), (2, .int (nI i))] L ∧ S = [] ∧ w' = W2 α ν β μ r ∧ ¬ zBad β s ∧ i ≤ n ∧ (∀ j, j < i → ¬ zQr β μ s j) ∧ m = 40 - i ∧ cu = 0 ∧ su = 0)], ?_, zone ?_⟩
  · (conv => whnf)
    refine And.intro (fun c => ?_) (fun c => ?_) <;> dsimp only at c
    · (conv => whnf)
      exact hQ (-1) (Or.inl ⟨Or.inl c, rfl⟩)
    · (conv => whnf)
      refine ⟨α, ν, β, μ, r, s, rfl, rfl, ?_⟩
      (conv => whnf)
      refine And.intro (fun d => ?_) (fun d => ?_) <;> dsimp only at d
      · (conv => whnf)
        exact hQ (-1) (Or.inl ⟨Or.inr d, rfl⟩)
      · (conv => whnf)
        exact ⟨40, 0, ⟨rfl, rfl, rfl, trivial⟩, rfl, rfl, fun q => q.elim c d, Nat.zero_le _, fun j hj => absurd hj (Nat.not_lt_zero j), rfl, rfl, rfl⟩
  · rintro m L S w' cu su ⟨i, hL, rfl, rfl, hb, hi, hno, rfl, rfl, rfl⟩
    refine ⟨_, hL, ?_⟩
    (conv => whnf)
    rw [hμ]
    refine And.intro (fun c => ?_) (fun c => ?_)
    · have hlt : i < n := (nI_ltI (by omega) (by omega)).mp c
      obtain ⟨k, hk1, hk2⟩ := hk i hlt
      have hnext : ¬ zQr β μ s i → ∀ j, j < i + 1 → ¬ zQr β μ s j := fun h j hj => by
        by_cases e : j < i
        · exact hno j e
        · have : j = i := by omega
          rw [this]; exact h
      (conv => whnf)
      refine ⟨α, ν, β, μ, r, i, by omega, rfl, rfl, fun d => ?_, fun d => ?_⟩
      · (conv => whnf)
        refine And.intro (fun c => absurd c (show ¬ _ from (by decide))) (fun _ => ?_)
        (conv => whnf)
        refine ⟨vp_in_nI (show i < 40 by omega) (by decide), ?_⟩
        (conv => whnf)
        rw [nI_clamp (by omega), hk2]
        refine ⟨vp_in_nI hk1 (by decide), ?_⟩
        (conv => whnf)
        rw [nI_clamp (by omega)]
        have e : (β 9 i).toNatClampNeg = k := by rw [hk2, nI_clamp (by omega)]
        refine And.intro (fun f => ?_) (fun f => ?_)
        · (conv => whnf)
          exact hQ (nI i) (Or.inr ⟨hb, Or.inl ⟨i, hlt, ⟨d, by rw [e]; exact f⟩, hno, rfl⟩⟩)
        · (conv => whnf)
          exact ⟨40 - (i + 1), by omega, i + 1, ⟨rfl, rfl, zi1 rfl, trivial⟩, rfl, rfl, hb, hlt, hnext (fun q => f (by rw [← e]; exact q.2)), rfl, rfl, rfl⟩
      · (conv => whnf)
        refine And.intro (fun _ => ?_) (fun c => absurd (show _ from rfl) c)
        (conv => whnf)
        exact ⟨40 - (i + 1), by omega, i + 1, ⟨rfl, rfl, zi1 rfl, trivial⟩, rfl, rfl, hb, hlt, hnext (fun q => d q.1), rfl, rfl, rfl⟩
    · have hge : i = n := by
        have : ¬ i < n := fun h => c (nI_lt h (by omega))
        omega
      subst hge
      (conv => whnf)
      exact hQ (-1) (Or.inr ⟨hb, Or.inr ⟨hno, rfl⟩⟩)
def sp_X5_writes : zSpec := fun args w Q _ => ∃ α ν β μ r c x, c < 12 ∧ μ 6 = nI c ∧ args = [.ref 21, .int (nI x)] ∧ w = W2 α ν β μ r ∧ Q none (W2 α ν (zu β 14 (zwr (β 14) c [x])) (zu μ 6 (nI (c + 1))) r)
def pg_X5_writes : List zE := [(0, .aload_n 0, 1, []), (1, .getfield 49, 3, []), (4, .aload_n 0, 1, []), (5, .getfield 85, 3, []), (8, .iload_n 1, 1, []), (9, .iastore, 1, []), (10, .aload_n 0, 1, []), (11, .dup, 1, []), (12, .getfield 85, 3, []), (15, .iconst 1, 1, [1]), (16, .iadd, 1, []), (17, .putfield 85, 3, []), (20, .return_, 1, [])]
theorem hp_X5_writes : ∀ q ∈ pg_X5_writes, decode cX5_writes q.1 = .ok (q.2.1, q.2.2.1) ∧ ztg q.2.1 q.1 q.2.2.1 q.2.2.2 = true := zpg_of (by decide +kernel)
def cs_X5_writes : List (Nat × zCall) := []
theorem hcs_X5_writes {l : Launch} (hl0 : l.stackTraces = false) : ∀ q ∈ cs_X5_writes, zCallable l RX5 1 q := fun _ h => absurd h List.not_mem_nil
def th_X5_writes : List (Nat × String) := []
theorem hth_X5_writes : ∀ q ∈ th_X5_writes, zThrow cX5_writes RX5 q := fun _ h => absurd h List.not_mem_nil
def kc_X5_writes : List (Nat × Int32) := []
theorem hkc_X5_writes : ∀ q ∈ kc_X5_writes, Cond.constant RX5 q.1 q.2 ∈ zTs := fun _ h => absurd h List.not_mem_nil
def nw_X5_writes : List (Nat × Nat × Nat × List Value) := []
theorem hnw_X5_writes : ∀ q ∈ nw_X5_writes, zNew RX5 q := fun _ h => absurd h List.not_mem_nil
set_option maxHeartbeats 4000000 in
set_option maxRecDepth 20000 in
theorem c_X5_writes {l : Launch} (hl0 : l.stackTraces = false) : CT l yX5_writes (.code yX5_writes cX5_writes 2 none) 1 0 0 false sp_X5_writes := by
  refine zCT_of hl0 (own := RX5) fl_RX5 cs_X5_writes nw_X5_writes th_X5_writes kc_X5_writes (fun _ => []) false pg_X5_writes rfl (by decide +kernel) hp_X5_writes ⟨_, _, rfl, rfl⟩ hfl_RX5 (fun h => nomatch h) (hcs_X5_writes hl0) hnw_X5_writes hth_X5_writes (fun _ _ h => absurd h List.not_mem_nil) hkc_X5_writes (fun args w Q X v0 hv0 h => ?_)
  obtain ⟨α, ν, β, μ, r, c, x, hc, hμ, rfl, rfl, hQ⟩ := h
  refine ⟨Nat.le_of_ble_eq_true rfl, 20, [], ?_, fun q hq => absurd hq List.not_mem_nil⟩
  (conv => whnf)
  rw [hμ]
  refine ⟨vp_in_nI hc (by decide), ?_⟩
  (conv => whnf)
  rw [nI_clamp (by omega)]
  dsimp only [zkon]
  rw [hμ, nI_add]
  exact hQ
def sp_X5_writesNumber : zSpec := fun args w Q _ => ∃ α ν β μ r c n, n < 100 ∧ c + (zdg n).length ≤ 12 ∧ μ 6 = nI c ∧ args = [.ref 21, .int (nI n)] ∧ w = W2 α ν β μ r ∧ Q none (W2 α ν (zu β 14 (zwr (β 14) c (zdg n))) (zu μ 6 (nI (c + (zdg n).length))) r)
def pg_X5_writesNumber : List zE := [(0, .iload_n 1, 1, []), (1, .bipush 9, 2, [9]), (3, .if_icmp .le 14, 3, [17]), (6, .aload_n 0, 1, []), (7, .bipush 48, 2, [48]), (9, .iload_n 1, 1, []), (10, .bipush 10, 2, [10]), (12, .idiv, 1, []), (13, .iadd, 1, []), (14, .invokevirtual 88, 3, []), (17, .aload_n 0, 1, []), (18, .bipush 48, 2, [48]), (20, .iload_n 1, 1, []), (21, .bipush 10, 2, [10]), (23, .irem, 1, []), (24, .iadd, 1, []), (25, .invokevirtual 88, 3, []), (28, .return_, 1, [])]
theorem hp_X5_writesNumber : ∀ q ∈ pg_X5_writesNumber, decode cX5_writesNumber q.1 = .ok (q.2.1, q.2.2.1) ∧ ztg q.2.1 q.1 q.2.2.1 q.2.2.2 = true := zpg_of (by decide +kernel)
def cs_X5_writesNumber : List (Nat × zCall) := [(88, 0, 2, some 6, 0, 0, false, sp_X5_writes)]
theorem hcs_X5_writesNumber {l : Launch} (hl0 : l.stackTraces = false) : ∀ q ∈ cs_X5_writesNumber, zCallable l RX5 2 q := List.forall_mem_cons.mpr ⟨zcV (C := (RX5, TX5, 21)) (ps := [1184, 1186, 19, 38, 1187]) (c_X5_writes hl0) (by decide +kernel) rfl ⟨rfl, by decide +kernel, by decide +kernel, by decide +kernel⟩ (by decide) (by decide), fun _ h => absurd h List.not_mem_nil⟩
def th_X5_writesNumber : List (Nat × String) := []
theorem hth_X5_writesNumber : ∀ q ∈ th_X5_writesNumber, zThrow cX5_writesNumber RX5 q := fun _ h => absurd h List.not_mem_nil
def kc_X5_writesNumber : List (Nat × Int32) := []
theorem hkc_X5_writesNumber : ∀ q ∈ kc_X5_writesNumber, Cond.constant RX5 q.1 q.2 ∈ zTs := fun _ h => absurd h List.not_mem_nil
def nw_X5_writesNumber : List (Nat × Nat × Nat × List Value) := []
theorem hnw_X5_writesNumber : ∀ q ∈ nw_X5_writesNumber, zNew RX5 q := fun _ h => absurd h List.not_mem_nil
set_option maxHeartbeats 4000000 in
set_option maxRecDepth 20000 in
theorem c_X5_writesNumber {l : Launch} (hl0 : l.stackTraces = false) : CT l yX5_writesNumber (.code yX5_writesNumber cX5_writesNumber 2 none) 2 0 0 false sp_X5_writesNumber := by
  refine zCT_of hl0 (own := RX5) fl_RX5 cs_X5_writesNumber nw_X5_writesNumber th_X5_writesNumber kc_X5_writesNumber (fun _ => []) false pg_X5_writesNumber rfl (by decide +kernel) hp_X5_writesNumber ⟨_, _, rfl, rfl⟩ hfl_RX5 (fun h => nomatch h) (hcs_X5_writesNumber hl0) hnw_X5_writesNumber hth_X5_writesNumber (fun _ _ h => absurd h List.not_mem_nil) hkc_X5_writesNumber (fun args w Q X v0 hv0 h => ?_)
  obtain ⟨α, ν, β, μ, r, c, n, hn, hc, hμ, rfl, rfl, hQ⟩ := h
  refine ⟨Nat.le_of_ble_eq_true rfl, 60, [], ?_, fun q hq => absurd hq List.not_mem_nil⟩
  (conv => whnf)
  by_cases h1 : n < 10
  · rw [zdg_1 h1] at hc hQ
    have hc' : c + 1 ≤ 12 := hc
    refine And.intro (fun c => absurd c (show ¬ _ from (nI_nlt (show n ≤ 9 by omega) (by omega)))) (fun _ => ?_)
    (conv => whnf)
    refine ⟨by decide, ?_⟩
    (conv => whnf)
    refine ⟨α, ν, β, μ, r, c, 48 + n, by omega, hμ, ?_, rfl, ?_⟩
    · dsimp only [zkon]
      rw [pk_rem (show n < 2 ^ 31 by omega) (by decide) (by decide), nI_add, Nat.mod_eq_of_lt h1]
    · (conv => whnf)
      exact hQ
  · rw [zdg_2 h1] at hc hQ
    have hc' : c + 2 ≤ 12 := hc
    refine And.intro (fun _ => ?_) (fun c => absurd (show _ from (nI_lt (show 9 < n by omega) (by omega))) c)
    (conv => whnf)
    refine ⟨by decide, ?_⟩
    (conv => whnf)
    refine ⟨α, ν, β, μ, r, c, 48 + n / 10, by omega, hμ, ?_, rfl, ?_⟩
    · dsimp only [zkon]
      rw [pk_div (show n < 2 ^ 31 by omega) (by decide) (by decide), nI_add]
    · (conv => whnf)
      refine ⟨by decide, ?_⟩
      (conv => whnf)
      refine ⟨α, ν, zu β 14 (zwr (β 14) c [48 + n / 10]), zu μ 6 (nI (c + 1)), r, c + 1, 48 + n % 10, by omega, rfl, ?_, rfl, ?_⟩
      · dsimp only [zkon]
        rw [pk_rem (show n < 2 ^ 31 by omega) (by decide) (by decide), nI_add]
      · (conv => whnf)
        exact hQ
def zTtM (β : Nat → Nat → Int32) (s : Nat) (fd : Option Nat) : List Nat := zTtl (zNm β (nI s)) s (zcnt (β 3) (nI s) 96) fd
def zFdM (β : Nat → Nat → Int32) (μ : Nat → Int32) (c : Nat) (s : Int32) (fd : Option Nat) : Prop := ∃ x, zHM β μ c s x ∧ ((x = -1 ∧ fd = none) ∨ ∃ j f, j < c ∧ f < 6 ∧ x = nI j ∧ β 8 j = nI f ∧ fd = some f)
def sp_X5_titleAt : zSpec := fun args w Q _ => ∃ α ν β μ r c x p, zCm β μ c ∧ (∀ j, j < c → ∃ f, f < 6 ∧ β 8 j = nI f) ∧ (∀ k, k < 96 → β 3 k = -1 ∨ ∃ s, s < 96 ∧ β 3 k = nI s) ∧ args = [.ref 21, .int x, .int p] ∧ w = W2 α ν β μ r ∧ (¬ vp_in x 96 ∨ p < 0 → Q (some (.int (nI 0))) (W2 α ν β (zTh μ 1) r)) ∧
  ∀ k, k < 96 → x = nI k → ¬ p < 0 → (β 3 k = -1 → Q (some (.int (-1))) (W2 α ν β (zu (zTh μ 0) 6 (nI 0)) r)) ∧
    ∀ s fd, s < 96 → β 3 k = nI s → zFdM β μ c (nI s) fd → Q (some (.int (zTat (zTtM β s fd) p))) (W2 α ν (zu β 14 (zwr (β 14) 0 (zTtM β s fd))) (zu (zTh μ 0) 6 (nI (zTtM β s fd).length)) r)
def pg_X5_titleAt : List zE := [(0, .aload_n 0, 1, []), (1, .iload_n 1, 1, []), (2, .invokestatic 67, 3, []), (5, .ifCond .eq 11, 3, [16]), (8, .iload_n 2, 1, []), (9, .ifCond .lt 7, 3, [16]), (12, .iconst 0, 1, [0]), (13, .goto 4, 3, [17]), (16, .iconst 1, 1, [1]), (17, .putfield 55, 3, []), (20, .aload_n 0, 1, []), (21, .getfield 55, 3, []), (24, .ifCond .le 5, 3, [29]), (27, .iconst 0, 1, [0]), (28, .ireturn, 1, []), (29, .aload_n 0, 1, []), (30, .iconst 0, 1, [0]), (31, .putfield 85, 3, []), (34, .aload_n 0, 1, []), (35, .getfield 19, 3, []), (38, .iload_n 1, 1, []), (39, .iaload, 1, []), (40, .iconst (-1), 1, []), (41, .if_icmp .eq 119, 3, [160]), (44, .aload_n 0, 1, []), (45, .aload_n 0, 1, []), (46, .getfield 19, 3, []), (49, .iload_n 1, 1, []), (50, .iaload, 1, []), (51, .invokevirtual 82, 3, []), (54, .istore_n 3, 1, []), (55, .aload_n 0, 1, []), (56, .iload_n 3, 1, []), (57, .iconst 1, 1, [1]), (58, .if_icmp .ne 8, 3, [66]), (61, .bipush 82, 2, [82]), (63, .goto 25, 3, [88]), (66, .iload_n 3, 1, []), (67, .iconst 2, 1, [2]), (68, .if_icmp .ne 8, 3, [76]), (71, .bipush 87, 2, [87]), (73, .goto 15, 3, [88]), (76, .iload_n 3, 1, []), (77, .iconst 3, 1, [3]), (78, .if_icmp .ne 8, 3, [86]), (81, .bipush 84, 2, [84]), (83, .goto 5, 3, [88]), (86, .bipush 78, 2, [78]), (88, .invokevirtual 88, 3, []), (91, .aload_n 0, 1, []), (92, .aload_n 0, 1, []), (93, .getfield 19, 3, []), (96, .iload_n 1, 1, []), (97, .iaload, 1, []), (98, .invokevirtual 92, 3, []), (101, .aload_n 0, 1, []), (102, .bipush 120, 2, [120]), (104, .invokevirtual 88, 3, []), (107, .aload_n 0, 1, []), (108, .aload_n 0, 1, []), (109, .aload_n 0, 1, []), (110, .getfield 19, 3, []), (113, .iload_n 1, 1, []), (114, .iaload, 1, []), (115, .invokevirtual 78, 3, []), (118, .invokevirtual 92, 3, []), (121, .aload_n 0, 1, []), (122, .aload_n 0, 1, []), (123, .getfield 19, 3, []), (126, .iload_n 1, 1, []), (127, .iaload, 1, []), (128, .invokevirtual 95, 3, []), (131, .iconst (-1), 1, []), (132, .if_icmp .eq 28, 3, [160]), (135, .aload_n 0, 1, []), (136, .bipush 102, 2, [102]), (138, .invokevirtual 88, 3, []), (141, .aload_n 0, 1, []), (142, .aload_n 0, 1, []), (143, .getfield 31, 3, []), (146, .aload_n 0, 1, []), (147, .aload_n 0, 1, []), (148, .getfield 19, 3, []), (151, .iload_n 1, 1, []), (152, .iaload, 1, []), (153, .invokevirtual 95, 3, []), (156, .iaload, 1, []), (157, .invokevirtual 92, 3, []), (160, .iload_n 2, 1, []), (161, .aload_n 0, 1, []), (162, .getfield 85, 3, []), (165, .if_icmp .ge 12, 3, [177]), (168, .aload_n 0, 1, []), (169, .getfield 49, 3, []), (172, .iload_n 2, 1, []), (173, .iaload, 1, []), (174, .goto 4, 3, [178]), (177, .iconst (-1), 1, []), (178, .ireturn, 1, [])]
theorem hp_X5_titleAt : ∀ q ∈ pg_X5_titleAt, decode cX5_titleAt q.1 = .ok (q.2.1, q.2.2.1) ∧ ztg q.2.1 q.1 q.2.2.1 q.2.2.2 = true := zpg_of (by decide +kernel)
def cs_X5_titleAt : List (Nat × zCall) := [(67, 1, 1, none, 0, 0, false, sp_X5_isCell), (82, 0, 2, some 6, 0, 0, false, sp_X5_nameFor), (88, 0, 2, some 6, 0, 0, false, sp_X5_writes), (92, 0, 2, some 6, 0, 0, false, sp_X5_writesNumber), (78, 0, 2, some 6, 0, 0, false, sp_X5_sizeOf), (95, 0, 2, some 6, 0, 0, false, sp_X5_holder)]
theorem hcs_X5_titleAt {l : Launch} (hl0 : l.stackTraces = false) : ∀ q ∈ cs_X5_titleAt, zCallable l RX5 3 q := List.forall_mem_cons.mpr ⟨zcS (ps := [1134, 1135, 38, 1136]) (c_X5_isCell hl0) (by decide +kernel) ⟨by decide +kernel, by decide +kernel, by decide +kernel⟩ (by decide) (by decide), List.forall_mem_cons.mpr ⟨zcV (C := (RX5, TX5, 21)) (ps := [1176, 1178, 18, 38, 1179]) (c_X5_nameFor hl0) (by decide +kernel) rfl ⟨rfl, by decide +kernel, by decide +kernel, by decide +kernel⟩ (by decide) (by decide), List.forall_mem_cons.mpr ⟨zcV (C := (RX5, TX5, 21)) (ps := [1184, 1186, 19, 38, 1187]) (c_X5_writes hl0) (by decide +kernel) rfl ⟨rfl, by decide +kernel, by decide +kernel, by decide +kernel⟩ (by decide) (by decide), List.forall_mem_cons.mpr ⟨zcV (C := (RX5, TX5, 21)) (ps := [1188, 1190, 20, 38, 1191]) (c_X5_writesNumber hl0) (by decide +kernel) rfl ⟨rfl, by decide +kernel, by decide +kernel, by decide +kernel⟩ (by decide) (by decide), List.forall_mem_cons.mpr ⟨zcV (C := (RX5, TX5, 21)) (ps := [1164, 1166, 17, 38, 1167]) (c_X5_sizeOf hl0) (by decide +kernel) rfl ⟨rfl, by decide +kernel, by decide +kernel, by decide +kernel⟩ (by decide) (by decide), List.forall_mem_cons.mpr ⟨zcV (C := (RX5, TX5, 21)) (ps := [1192, 1194, 21, 38, 1195]) (c_X5_holder hl0) (by decide +kernel) rfl ⟨rfl, by decide +kernel, by decide +kernel, by decide +kernel⟩ (by decide) (by decide), fun _ h => absurd h List.not_mem_nil⟩⟩⟩⟩⟩⟩
def th_X5_titleAt : List (Nat × String) := []
theorem hth_X5_titleAt : ∀ q ∈ th_X5_titleAt, zThrow cX5_titleAt RX5 q := fun _ h => absurd h List.not_mem_nil
def kc_X5_titleAt : List (Nat × Int32) := []
theorem hkc_X5_titleAt : ∀ q ∈ kc_X5_titleAt, Cond.constant RX5 q.1 q.2 ∈ zTs := fun _ h => absurd h List.not_mem_nil
def nw_X5_titleAt : List (Nat × Nat × Nat × List Value) := []
theorem hnw_X5_titleAt : ∀ q ∈ nw_X5_titleAt, zNew RX5 q := fun _ h => absurd h List.not_mem_nil
set_option maxHeartbeats 4000000 in
set_option maxRecDepth 20000 in
theorem c_X5_titleAt {l : Launch} (hl0 : l.stackTraces = false) : CT l yX5_titleAt (.code yX5_titleAt cX5_titleAt 4 (some .int)) 3 0 0 false sp_X5_titleAt := by
  refine zCT_of hl0 (own := RX5) fl_RX5 cs_X5_titleAt nw_X5_titleAt th_X5_titleAt kc_X5_titleAt (fun _ => []) false pg_X5_titleAt rfl (by decide +kernel) hp_X5_titleAt ⟨_, _, rfl, rfl⟩ hfl_RX5 (fun h => nomatch h) (hcs_X5_titleAt hl0) hnw_X5_titleAt hth_X5_titleAt (fun _ _ h => absurd h List.not_mem_nil) hkc_X5_titleAt (fun args w Q X v0 hv0 h => ?_)
  obtain ⟨α, ν, β, μ, r, c, x, p, hc, hf, hl, rfl, rfl, h1, h2⟩ := h
  by_cases hok : vp_in x 96 ∧ ¬ p < 0
  · obtain ⟨hx, hp⟩ := hok
    obtain ⟨k, hk, rfl⟩ := vp_in_of hx (by decide)
    obtain ⟨h3, h4⟩ := h2 k hk rfl hp
    obtain ⟨j, hj, rfl⟩ := nI_of hp
    rcases hl k hk with e | ⟨s, hs, e⟩
    · refine ⟨Nat.le_of_ble_eq_true rfl, 80, [], ?_, fun q hq => absurd hq List.not_mem_nil⟩
      (conv => whnf)
      refine ⟨_, rfl, fun _ => ?_, fun q => absurd hx q⟩
      (conv => whnf)
      refine And.intro (fun c => absurd c (show ¬ _ from (by decide))) (fun _ => ?_)
      (conv => whnf)
      refine And.intro (fun c => absurd c (show ¬ _ from hp)) (fun _ => ?_)
      (conv => whnf)
      refine And.intro (fun c => absurd c (show ¬ _ from (by decide))) (fun _ => ?_)
      (conv => whnf)
      refine ⟨vp_in_nI hk (by decide), ?_⟩
      (conv => whnf)
      rw [nI_clamp (show k < 2 ^ 31 by omega), e]
      refine And.intro (fun _ => ?_) (fun c => absurd (show _ from rfl) c)
      (conv => whnf)
      refine And.intro (fun c => absurd c (show ¬ _ from (nI_nlt (Nat.zero_le j) hj))) (fun _ => ?_)
      (conv => whnf)
      exact h3 e
    · have hd1 := zdg_len (n := s)
      have hd2 := zdg_len (n := zcnt (β 3) (nI s) 96)
      have hz : zcnt (β 3) (nI s) 96 < 100 := by have := zcnt_le (β 3) (nI s) 96; omega
      refine ⟨Nat.le_of_ble_eq_true rfl, 100, [(88, fun m L S w' cu su => zsub [(0, .ref 21), (1, .int (nI k)), (2, .int (nI j))] L ∧ S = [.int (nI (zsg (zNm β (nI s)))), .ref 21] ∧ w' = W2 α ν β (zu (zTh μ 0) 6 (nI 0)) r ∧ m = 0 ∧ cu = 0 ∧ su = 0)], ?_, zone ?_⟩
      · (conv => whnf)
        refine ⟨_, rfl, fun _ => ?_, fun q => absurd hx q⟩
        (conv => whnf)
        refine And.intro (fun c => absurd c (show ¬ _ from (by decide))) (fun _ => ?_)
        (conv => whnf)
        refine And.intro (fun c => absurd c (show ¬ _ from hp)) (fun _ => ?_)
        (conv => whnf)
        refine And.intro (fun c => absurd c (show ¬ _ from (by decide))) (fun _ => ?_)
        (conv => whnf)
        refine ⟨vp_in_nI hk (by decide), ?_⟩
        (conv => whnf)
        rw [nI_clamp (show k < 2 ^ 31 by omega), e]
        refine And.intro (fun c => absurd c (show ¬ _ from (nI_ne_m1 (show s < 2 ^ 31 by omega)))) (fun _ => ?_)
        (conv => whnf)
        refine ⟨vp_in_nI hk (by decide), ?_⟩
        (conv => whnf)
        rw [nI_clamp (show k < 2 ^ 31 by omega), e]
        refine ⟨α, ν, β, zu (zTh μ 0) 6 (nI 0), r, nI s, rfl, rfl, ?_⟩
        (conv => whnf)
        refine And.intro (fun a => ?_) (fun a => ?_)
        · (conv => whnf)
          exact ⟨0, ⟨rfl, rfl, rfl, trivial⟩, by rw [show zsg (zNm β (nI s)) = 82 from if_pos a]; rfl, rfl, rfl, rfl, rfl⟩
        · have a2 : ¬ zNm β (nI s) = nI 1 := a
          (conv => whnf)
          refine And.intro (fun b => ?_) (fun b => ?_)
          · (conv => whnf)
            exact ⟨0, ⟨rfl, rfl, rfl, trivial⟩, by rw [show zsg (zNm β (nI s)) = 87 from (if_neg a2).trans (if_pos b)]; rfl, rfl, rfl, rfl, rfl⟩
          · have b2 : ¬ zNm β (nI s) = nI 2 := b
            (conv => whnf)
            refine And.intro (fun d => ?_) (fun d => ?_)
            · (conv => whnf)
              exact ⟨0, ⟨rfl, rfl, rfl, trivial⟩, by rw [show zsg (zNm β (nI s)) = 84 from (if_neg a2).trans ((if_neg b2).trans (if_pos d))]; rfl, rfl, rfl, rfl, rfl⟩
            · (conv => whnf)
              exact ⟨0, ⟨rfl, rfl, rfl, trivial⟩, by rw [show zsg (zNm β (nI s)) = 78 from (if_neg a2).trans ((if_neg b2).trans (if_neg d))]; rfl, rfl, rfl, rfl, rfl⟩
      · rintro m L S w' cu su ⟨hL, rfl, rfl, rfl, rfl, rfl⟩
        refine ⟨_, hL, ?_⟩
        have e' : ∀ F, zu β 14 F 3 k = nI s := fun _ => e
        have e2' : ∀ A B, zu (zu β 14 A) 14 B 3 k = nI s := fun _ _ => e
        (conv => whnf)
        refine ⟨α, ν, β, zu (zTh μ 0) 6 (nI 0), r, 0, _, by decide, rfl, rfl, rfl, ?_⟩
        (conv => whnf)
        refine ⟨vp_in_nI hk (by decide), ?_⟩
        (conv => whnf)
        rw [nI_clamp (show k < 2 ^ 31 by omega), e']
        refine ⟨α, ν, zu β 14 (zwr (β 14) 0 [zsg (zNm β (nI s))]), zu (zTh μ 0) 6 (nI 1), r, 1, s, by omega, by omega, rfl, rfl, rfl, ?_⟩
        (conv => whnf)
        refine ⟨α, ν, zu β 14 (zwr (zwr (β 14) 0 [zsg (zNm β (nI s))]) 1 (zdg s)), zu (zTh μ 0) 6 (nI (1 + (zdg s).length)), r, 1 + (zdg s).length, 120, by omega, rfl, rfl, rfl, ?_⟩
        (conv => whnf)
        refine ⟨vp_in_nI hk (by decide), ?_⟩
        (conv => whnf)
        rw [nI_clamp (show k < 2 ^ 31 by omega), e2']
        refine ⟨α, ν, zu β 14 (zwr (zwr (zwr (β 14) 0 [zsg (zNm β (nI s))]) 1 (zdg s)) (1 + (zdg s).length) [120]), zu (zTh μ 0) 6 (nI (1 + (zdg s).length + 1)), r, nI s, rfl, rfl, ?_⟩
        have e3 : zct (zu β 14 (zwr (zwr (zwr (β 14) 0 [zsg (zNm β (nI s))]) 1 (zdg s)) (1 + (zdg s).length) [120]) 3) (nI s) 96 = zcnt (β 3) (nI s) 96 := zct_c (nI_ne_m1 (by omega)) 96
        rw [e3]
        (conv => whnf)
        refine ⟨α, ν, zu β 14 (zwr (zwr (zwr (β 14) 0 [zsg (zNm β (nI s))]) 1 (zdg s)) (1 + (zdg s).length) [120]), zu (zTh μ 0) 6 (nI (1 + (zdg s).length + 1)), r, 1 + (zdg s).length + 1, zcnt (β 3) (nI s) 96, hz, by omega, rfl, rfl, rfl, ?_⟩
        (conv => whnf)
        refine ⟨vp_in_nI hk (by decide), ?_⟩
        (conv => whnf)
        rw [nI_clamp (show k < 2 ^ 31 by omega), e2']
        refine ⟨α, ν, zu β 14 (zwr (zwr (zwr (zwr (β 14) 0 [zsg (zNm β (nI s))]) 1 (zdg s)) (1 + (zdg s).length) [120]) (1 + (zdg s).length + 1) (zdg (zcnt (β 3) (nI s) 96))), zu (zTh μ 0) 6 (nI (1 + (zdg s).length + 1 + (zdg (zcnt (β 3) (nI s) 96)).length)), r, c, nI s, hc, rfl, rfl, fun x hx9 => ?_⟩
        have hx2 : zHM β μ c (nI s) x := hx9
        have hw4 : ∀ f : Nat → Int32, zwr (zwr (zwr (zwr f 0 [zsg (zNm β (nI s))]) 1 (zdg s)) (1 + (zdg s).length) [120]) (1 + (zdg s).length + 1) (zdg (zcnt (β 3) (nI s) 96)) = zwr f 0 ([zsg (zNm β (nI s))] ++ zdg s ++ [120] ++ zdg (zcnt (β 3) (nI s) 96)) := fun f => by
          rw [zwr_app, zwr_app, zwr_app]
          simp only [List.length_append, List.length_cons, List.length_nil, Nat.zero_add]
        have hl4 : 1 + (zdg s).length + 1 + (zdg (zcnt (β 3) (nI s) 96)).length = ([zsg (zNm β (nI s))] ++ zdg s ++ [120] ++ zdg (zcnt (β 3) (nI s) 96)).length := by
          simp only [List.length_append, List.length_cons, List.length_nil, Nat.zero_add]
        rw [hw4, hl4]
        have hl5 : ([zsg (zNm β (nI s))] ++ zdg s ++ [120] ++ zdg (zcnt (β 3) (nI s) 96)).length ≤ 6 := by rw [← hl4]; omega
        have h5 := h4 s
        unfold zTtM zTtl at h5
        have hbk := fun fd (hfd : ∀ f, fd = some f → f < 6) => zTtl_b (name := zNm β (nI s)) (s := s) (z := zcnt (β 3) (nI s) 96) (fd := fd) (by omega) hz hfd
        generalize [zsg (zNm β (nI s))] ++ zdg s ++ [120] ++ zdg (zcnt (β 3) (nI s) 96) = T4 at h5 hl5 ⊢
        -- the end: a sign of the title T
        rcases zHr_of hx2 with rfl | ⟨i, hi, rfl⟩
        · have h6 := h5 none hs e ⟨-1, hx2, Or.inl ⟨rfl, rfl⟩⟩
          rw [List.append_nil] at h6
          unfold zTat at h6
          (conv => whnf)
          refine And.intro (fun _ => ?_) (fun c => absurd (show _ from rfl) c)
          (conv => whnf)
          refine And.intro (fun g => ?_) (fun g => ?_)
          · have hjl : j < T4.length := (nI_ltI hj (by omega)).mp g
            have eg : T4.getD j 0 = T4[j] := by rw [List.getD_eq_getElem?_getD, List.getElem?_eq_getElem hjl]; rfl
            rw [if_pos (show nI j < nI T4.length from g), nI_clamp hj, eg] at h6
            (conv => whnf)
            refine ⟨vp_in_nI (show j < 12 by omega) (by decide), ?_⟩
            have e7 : zwr (β 14) 0 T4 j = nI T4[j] := by
              have := zwr_get T4 (β 14) 0 j hjl
              rw [Nat.zero_add] at this
              exact this
            (conv => whnf)
            rw [nI_clamp hj]
            have e8 : (zu β 14 (zwr (β 14) 0 T4)) 14 j = nI T4[j] := e7
            rw [e8]
            exact h6
          · rw [if_neg (show ¬ nI j < nI T4.length from g)] at h6
            (conv => whnf)
            exact h6
        · have hi2 : i < 2 ^ 31 := by have := hc.1; omega
          obtain ⟨f, f1, f2⟩ := hf i hi
          have h6 := h5 (some f) hs e ⟨nI i, hx2, Or.inr ⟨i, f, hi, f1, rfl, f2, rfl⟩⟩
          have h3' : (zdg f).length = 1 := by rw [zdg_1 (by omega)]; rfl
          (conv => whnf)
          refine And.intro (fun c => absurd c (show ¬ _ from (nI_ne_m1 hi2))) (fun _ => ?_)
          (conv => whnf)
          refine ⟨α, ν, zu β 14 (zwr (β 14) 0 T4), zu (zTh μ 0) 6 (nI T4.length), r, T4.length, 102, by omega, rfl, rfl, rfl, ?_⟩
          (conv => whnf)
          refine ⟨vp_in_nI hk (by decide), ?_⟩
          (conv => whnf)
          rw [nI_clamp (show k < 2 ^ 31 by omega), e2']
          refine ⟨α, ν, zu β 14 (zwr (zwr (β 14) 0 T4) T4.length [102]), zu (zTh μ 0) 6 (nI (T4.length + 1)), r, c, nI s, hc, rfl, rfl, fun x' hx' => ?_⟩
          have ex : x' = nI i := zHM_one (β := β) (μ := μ) (c := c) (s := nI s) hx' hx2
          rw [ex]
          (conv => whnf)
          refine ⟨vp_in_nI (show i < 40 by have := hc.1; omega) (by decide), ?_⟩
          (conv => whnf)
          have ef : (zu β 14 (zwr (zwr (β 14) 0 T4) T4.length [102])) 8 i = nI f := f2
          rw [nI_clamp hi2, ef]
          refine ⟨α, ν, zu β 14 (zwr (zwr (β 14) 0 T4) T4.length [102]), zu (zTh μ 0) 6 (nI (T4.length + 1)), r, T4.length + 1, f, by omega, by omega, rfl, rfl, rfl, ?_⟩
          have e5 : zwr (β 14) 0 (T4 ++ ([102] ++ zdg f)) = zwr (zwr (zwr (β 14) 0 T4) T4.length [102]) (T4.length + 1) (zdg f) := by
            rw [zwr_app, zwr_app, Nat.zero_add]
            rfl
          have e6 : (T4 ++ ([102] ++ zdg f)).length = T4.length + 1 + (zdg f).length := by simp; omega
          have e9 : ∀ g : Nat → Int32, zwr (zwr (zwr g 0 T4) T4.length [102]) (T4.length + 1) (zdg f) = zwr g 0 (T4 ++ ([102] ++ zdg f)) := fun g => by
            rw [zwr_app, zwr_app, Nat.zero_add]
            rfl
          have h7 : Q (some (.int (zTat (T4 ++ ([102] ++ zdg f)) (nI j)))) (W2 α ν (zu β 14 (zwr (β 14) 0 (T4 ++ ([102] ++ zdg f)))) (zu (zTh μ 0) 6 (nI (T4 ++ ([102] ++ zdg f)).length)) r) := h6
          have hw9 : zu (zu β 14 (zwr (zwr (β 14) 0 T4) T4.length [102])) 14 (zwr (zu β 14 (zwr (zwr (β 14) 0 T4) T4.length [102]) 14) (T4.length + 1) (zdg f)) = zu (zu β 14 (zwr (zwr (β 14) 0 T4) T4.length [102])) 14 (zwr (β 14) 0 (T4 ++ ([102] ++ zdg f))) := by rw [e5]; rfl
          rw [hw9, ← e6]
          have hl8 : (T4 ++ ([102] ++ zdg f)).length ≤ 8 := by rw [e6]; omega
          generalize T4 ++ ([102] ++ zdg f) = T at h7 hl8 ⊢
          unfold zTat at h7
          (conv => whnf)
          refine And.intro (fun g => ?_) (fun g => ?_)
          · have hjl : j < T.length := (nI_ltI hj (by omega)).mp g
            have eg : T.getD j 0 = T[j] := by rw [List.getD_eq_getElem?_getD, List.getElem?_eq_getElem hjl]; rfl
            rw [if_pos (show nI j < nI T.length from g), nI_clamp hj, eg] at h7
            (conv => whnf)
            refine ⟨vp_in_nI (show j < 12 by omega) (by decide), ?_⟩
            have e7 : zwr (β 14) 0 T j = nI T[j] := by
              have := zwr_get T (β 14) 0 j hjl
              rw [Nat.zero_add] at this
              exact this
            (conv => whnf)
            rw [nI_clamp hj]
            have e8 : (zu (zu β 14 (zwr (zwr (β 14) 0 T4) T4.length [102])) 14 (zwr (β 14) 0 T)) 14 j = nI T[j] := e7
            rw [e8]
            exact h7
          · rw [if_neg (show ¬ nI j < nI T.length from g)] at h7
            (conv => whnf)
            exact h7
  · have hbad : ¬ vp_in x 96 ∨ p < 0 := by
      by_cases a : vp_in x 96
      · exact Or.inr (Classical.byContradiction (fun b => hok ⟨a, b⟩))
      · exact Or.inl a
    refine ⟨Nat.le_of_ble_eq_true rfl, 80, [], ?_, fun q hq => absurd hq List.not_mem_nil⟩
    (conv => whnf)
    refine ⟨_, rfl, fun a => ?_, fun a => ?_⟩
    · (conv => whnf)
      refine And.intro (fun c => absurd c (show ¬ _ from (by decide))) (fun _ => ?_)
      (conv => whnf)
      refine And.intro (fun _ => ?_) (fun c => absurd (show _ from (hbad.resolve_left (fun q => q a))) c)
      (conv => whnf)
      refine And.intro (fun _ => ?_) (fun c => absurd (show _ from (by decide)) c)
      (conv => whnf)
      exact h1 hbad
    · (conv => whnf)
      refine And.intro (fun _ => ?_) (fun c => absurd (show _ from rfl) c)
      (conv => whnf)
      refine And.intro (fun _ => ?_) (fun c => absurd (show _ from (by decide)) c)
      (conv => whnf)
      exact h1 hbad
