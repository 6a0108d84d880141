/-! ===== EchoRegistry: what its calls share ===== -/
def zIOO : String := "java/lang/IndexOutOfBoundsException"
def zIAE : String := "java/lang/IllegalArgumentException"
def zISE : String := "java/lang/IllegalStateException"
theorem thw_RX4_93 : zthw RX4 93 "java/lang/IndexOutOfBoundsException" ["java/lang/RuntimeException", "java/lang/Exception"] = true := by decide +kernel
theorem thw_RX4_253 : zthw RX4 253 "java/lang/IllegalArgumentException" ["java/lang/RuntimeException", "java/lang/Exception"] = true := by decide +kernel
theorem thw_RX4_131 : zthw RX4 131 "java/lang/IllegalStateException" ["java/lang/RuntimeException", "java/lang/Exception"] = true := by decide +kernel
def zReq (n : Nat) : zSpec := fun args w Q X => ∃ x, args = [.int x] ∧ (vp_in x n → Q none w) ∧ (¬ vp_in x n → X zIOO w)
def sp_X4_requireCell : zSpec := zReq 96
def pg_X4_requireCell : List zE := [(0, .iload_n 0, 1, []), (1, .invokestatic 231, 3, []), (4, .ifCond .ne 13, 3, [17]), (7, .new 89, 3, []), (17, .return_, 1, [])]
theorem hp_X4_requireCell : ∀ q ∈ pg_X4_requireCell, decode cX4_requireCell q.1 = .ok (q.2.1, q.2.2.1) ∧ ztg q.2.1 q.1 q.2.2.1 q.2.2.2 = true := zpg_of (by decide +kernel)
def cs_X4_requireCell : List (Nat × zCall) := [(231, 1, 1, none, 0, 0, false, sp_X4_isCell)]
theorem hcs_X4_requireCell {l : Launch} (hl0 : l.stackTraces = false) : ∀ q ∈ cs_X4_requireCell, zCallable l RX4 2 q := List.forall_mem_cons.mpr ⟨zcS (ps := [193, 194, 14, 195]) (c_X4_isCell hl0) (by decide +kernel) ⟨by decide +kernel, by decide +kernel, by decide +kernel⟩ (by decide) (by decide), fun _ h => absurd h List.not_mem_nil⟩
def th_X4_requireCell : List (Nat × String) := [(7, "java/lang/IndexOutOfBoundsException")]
theorem hth_X4_requireCell : ∀ q ∈ th_X4_requireCell, zThrow cX4_requireCell RX4 q := List.forall_mem_cons.mpr ⟨⟨"no such cell", 89, 235, 93, [196, 27], by decide +kernel, by decide +kernel, by decide +kernel, thw_RX4_93, by decide +kernel, by decide +kernel, Or.inl ⟨by decide +kernel, by decide +kernel, by decide +kernel⟩⟩, fun _ h => absurd h List.not_mem_nil⟩
def kc_X4_requireCell : List (Nat × Int32) := []
theorem hkc_X4_requireCell : ∀ q ∈ kc_X4_requireCell, Cond.constant RX4 q.1 q.2 ∈ zTs := fun _ h => absurd h List.not_mem_nil
def nw_X4_requireCell : List (Nat × Nat × Nat × List Value) := []
theorem hnw_X4_requireCell : ∀ q ∈ nw_X4_requireCell, zNew RX4 q := fun _ h => absurd h List.not_mem_nil
set_option maxHeartbeats 4000000 in
set_option maxRecDepth 20000 in
theorem c_X4_requireCell {l : Launch} (hl0 : l.stackTraces = false) : CT l yX4_requireCell (.code yX4_requireCell cX4_requireCell 1 none) 2 1 6 false sp_X4_requireCell := by
  refine zCT_of hl0 (own := RX4) fl_RX4 cs_X4_requireCell nw_X4_requireCell th_X4_requireCell kc_X4_requireCell (fun _ => []) false pg_X4_requireCell rfl (by decide +kernel) hp_X4_requireCell ⟨_, _, rfl, rfl⟩ hfl_RX4 (fun h => nomatch h) (hcs_X4_requireCell hl0) hnw_X4_requireCell hth_X4_requireCell (fun _ _ h => absurd h List.not_mem_nil) hkc_X4_requireCell (fun args w Q X v0 hv0 h => ?_)
  obtain ⟨x, rfl, h1, h2⟩ := h
  refine ⟨Nat.le_of_ble_eq_true rfl, 20, [], ?_, fun q hq => absurd hq List.not_mem_nil⟩
  (conv => whnf)
  refine ⟨_, rfl, fun c => ?_, fun c => ?_⟩
  · (conv => whnf)
    refine And.intro (fun c => absurd c (show ¬ _ from (by decide))) (fun _ => ?_)
    (conv => whnf)
    exact h1 c
  · (conv => whnf)
    refine And.intro (fun _ => ?_) (fun c => absurd (show _ from rfl) c)
    (conv => whnf)
    exact h2 c
def sp_X4_requireDiver : zSpec := zReq 4
def pg_X4_requireDiver : List zE := [(0, .iload_n 0, 1, []), (1, .ifCond .lt 8, 3, [9]), (4, .iload_n 0, 1, []), (5, .iconst 4, 1, [4]), (6, .if_icmp .lt 13, 3, [19]), (9, .new 89, 3, []), (19, .return_, 1, [])]
theorem hp_X4_requireDiver : ∀ q ∈ pg_X4_requireDiver, decode cX4_requireDiver q.1 = .ok (q.2.1, q.2.2.1) ∧ ztg q.2.1 q.1 q.2.2.1 q.2.2.2 = true := zpg_of (by decide +kernel)
def cs_X4_requireDiver : List (Nat × zCall) := []
theorem hcs_X4_requireDiver {l : Launch} (hl0 : l.stackTraces = false) : ∀ q ∈ cs_X4_requireDiver, zCallable l RX4 2 q := fun _ h => absurd h List.not_mem_nil
def th_X4_requireDiver : List (Nat × String) := [(9, "java/lang/IndexOutOfBoundsException")]
theorem hth_X4_requireDiver : ∀ q ∈ th_X4_requireDiver, zThrow cX4_requireDiver RX4 q := List.forall_mem_cons.mpr ⟨⟨"no such diver", 89, 237, 93, [196, 27], by decide +kernel, by decide +kernel, by decide +kernel, thw_RX4_93, by decide +kernel, by decide +kernel, Or.inl ⟨by decide +kernel, by decide +kernel, by decide +kernel⟩⟩, fun _ h => absurd h List.not_mem_nil⟩
def kc_X4_requireDiver : List (Nat × Int32) := []
theorem hkc_X4_requireDiver : ∀ q ∈ kc_X4_requireDiver, Cond.constant RX4 q.1 q.2 ∈ zTs := fun _ h => absurd h List.not_mem_nil
def nw_X4_requireDiver : List (Nat × Nat × Nat × List Value) := []
theorem hnw_X4_requireDiver : ∀ q ∈ nw_X4_requireDiver, zNew RX4 q := fun _ h => absurd h List.not_mem_nil
set_option maxHeartbeats 4000000 in
set_option maxRecDepth 20000 in
theorem c_X4_requireDiver {l : Launch} (hl0 : l.stackTraces = false) : CT l yX4_requireDiver (.code yX4_requireDiver cX4_requireDiver 1 none) 2 1 6 false sp_X4_requireDiver := by
  refine zCT_of hl0 (own := RX4) fl_RX4 cs_X4_requireDiver nw_X4_requireDiver th_X4_requireDiver kc_X4_requireDiver (fun _ => []) false pg_X4_requireDiver rfl (by decide +kernel) hp_X4_requireDiver ⟨_, _, rfl, rfl⟩ hfl_RX4 (fun h => nomatch h) (hcs_X4_requireDiver hl0) hnw_X4_requireDiver hth_X4_requireDiver (fun _ _ h => absurd h List.not_mem_nil) hkc_X4_requireDiver (fun args w Q X v0 hv0 h => ?_)
  obtain ⟨x, rfl, h1, h2⟩ := h
  refine ⟨Nat.le_of_ble_eq_true rfl, 20, [], ?_, fun q hq => absurd hq List.not_mem_nil⟩
  (conv => whnf)
  refine And.intro (fun c => ?_) (fun c => ?_) <;> dsimp only at c
  · (conv => whnf)
    exact h2 (vp_in_neg c)
  · (conv => whnf)
    refine And.intro (fun d => ?_) (fun d => ?_) <;> dsimp only at d
    · (conv => whnf)
      exact h1 (vp_in_lt (by decide) c d)
    · (conv => whnf)
      exact h2 (vp_in_nlt (by decide) d)
def sp_X4_requireFinder : zSpec := zReq 6
def pg_X4_requireFinder : List zE := [(0, .iload_n 0, 1, []), (1, .ifCond .lt 9, 3, [10]), (4, .iload_n 0, 1, []), (5, .bipush 6, 2, [6]), (7, .if_icmp .lt 13, 3, [20]), (10, .new 89, 3, []), (20, .return_, 1, [])]
theorem hp_X4_requireFinder : ∀ q ∈ pg_X4_requireFinder, decode cX4_requireFinder q.1 = .ok (q.2.1, q.2.2.1) ∧ ztg q.2.1 q.1 q.2.2.1 q.2.2.2 = true := zpg_of (by decide +kernel)
def cs_X4_requireFinder : List (Nat × zCall) := []
theorem hcs_X4_requireFinder {l : Launch} (hl0 : l.stackTraces = false) : ∀ q ∈ cs_X4_requireFinder, zCallable l RX4 2 q := fun _ h => absurd h List.not_mem_nil
def th_X4_requireFinder : List (Nat × String) := [(10, "java/lang/IndexOutOfBoundsException")]
theorem hth_X4_requireFinder : ∀ q ∈ th_X4_requireFinder, zThrow cX4_requireFinder RX4 q := List.forall_mem_cons.mpr ⟨⟨"no such finder", 89, 239, 93, [196, 27], by decide +kernel, by decide +kernel, by decide +kernel, thw_RX4_93, by decide +kernel, by decide +kernel, Or.inl ⟨by decide +kernel, by decide +kernel, by decide +kernel⟩⟩, fun _ h => absurd h List.not_mem_nil⟩
def kc_X4_requireFinder : List (Nat × Int32) := []
theorem hkc_X4_requireFinder : ∀ q ∈ kc_X4_requireFinder, Cond.constant RX4 q.1 q.2 ∈ zTs := fun _ h => absurd h List.not_mem_nil
def nw_X4_requireFinder : List (Nat × Nat × Nat × List Value) := []
theorem hnw_X4_requireFinder : ∀ q ∈ nw_X4_requireFinder, zNew RX4 q := fun _ h => absurd h List.not_mem_nil
set_option maxHeartbeats 4000000 in
set_option maxRecDepth 20000 in
theorem c_X4_requireFinder {l : Launch} (hl0 : l.stackTraces = false) : CT l yX4_requireFinder (.code yX4_requireFinder cX4_requireFinder 1 none) 2 1 6 false sp_X4_requireFinder := by
  refine zCT_of hl0 (own := RX4) fl_RX4 cs_X4_requireFinder nw_X4_requireFinder th_X4_requireFinder kc_X4_requireFinder (fun _ => []) false pg_X4_requireFinder rfl (by decide +kernel) hp_X4_requireFinder ⟨_, _, rfl, rfl⟩ hfl_RX4 (fun h => nomatch h) (hcs_X4_requireFinder hl0) hnw_X4_requireFinder hth_X4_requireFinder (fun _ _ h => absurd h List.not_mem_nil) hkc_X4_requireFinder (fun args w Q X v0 hv0 h => ?_)
  obtain ⟨x, rfl, h1, h2⟩ := h
  refine ⟨Nat.le_of_ble_eq_true rfl, 20, [], ?_, fun q hq => absurd hq List.not_mem_nil⟩
  (conv => whnf)
  refine And.intro (fun c => ?_) (fun c => ?_) <;> dsimp only at c
  · (conv => whnf)
    exact h2 (vp_in_neg c)
  · (conv => whnf)
    refine And.intro (fun d => ?_) (fun d => ?_) <;> dsimp only at d
    · (conv => whnf)
      exact h1 (vp_in_lt (by decide) c d)
    · (conv => whnf)
      exact h2 (vp_in_nlt (by decide) d)
def sp_X4_requireWithin : zSpec := fun args w Q X => ∃ x lo hi, args = [.int x, .int lo, .int hi] ∧ (¬ x < lo → ¬ hi < x → Q none w) ∧ (x < lo ∨ hi < x → X zIAE w)
def pg_X4_requireWithin : List zE := [(0, .iload_n 0, 1, []), (1, .iload_n 1, 1, []), (2, .if_icmp .lt 8, 3, [10]), (5, .iload_n 0, 1, []), (6, .iload_n 2, 1, []), (7, .if_icmp .le 13, 3, [20]), (10, .new 249, 3, []), (20, .return_, 1, [])]
theorem hp_X4_requireWithin : ∀ q ∈ pg_X4_requireWithin, decode cX4_requireWithin q.1 = .ok (q.2.1, q.2.2.1) ∧ ztg q.2.1 q.1 q.2.2.1 q.2.2.2 = true := zpg_of (by decide +kernel)
def cs_X4_requireWithin : List (Nat × zCall) := []
theorem hcs_X4_requireWithin {l : Launch} (hl0 : l.stackTraces = false) : ∀ q ∈ cs_X4_requireWithin, zCallable l RX4 2 q := fun _ h => absurd h List.not_mem_nil
def th_X4_requireWithin : List (Nat × String) := [(10, "java/lang/IllegalArgumentException")]
theorem hth_X4_requireWithin : ∀ q ∈ th_X4_requireWithin, zThrow cX4_requireWithin RX4 q := List.forall_mem_cons.mpr ⟨⟨"out of range", 249, 251, 253, [269, 28], by decide +kernel, by decide +kernel, by decide +kernel, thw_RX4_253, by decide +kernel, by decide +kernel, Or.inl ⟨by decide +kernel, by decide +kernel, by decide +kernel⟩⟩, fun _ h => absurd h List.not_mem_nil⟩
def kc_X4_requireWithin : List (Nat × Int32) := []
theorem hkc_X4_requireWithin : ∀ q ∈ kc_X4_requireWithin, Cond.constant RX4 q.1 q.2 ∈ zTs := fun _ h => absurd h List.not_mem_nil
def nw_X4_requireWithin : List (Nat × Nat × Nat × List Value) := []
theorem hnw_X4_requireWithin : ∀ q ∈ nw_X4_requireWithin, zNew RX4 q := fun _ h => absurd h List.not_mem_nil
set_option maxHeartbeats 4000000 in
set_option maxRecDepth 20000 in
theorem c_X4_requireWithin {l : Launch} (hl0 : l.stackTraces = false) : CT l yX4_requireWithin (.code yX4_requireWithin cX4_requireWithin 3 none) 2 1 6 false sp_X4_requireWithin := by
  refine zCT_of hl0 (own := RX4) fl_RX4 cs_X4_requireWithin nw_X4_requireWithin th_X4_requireWithin kc_X4_requireWithin (fun _ => []) false pg_X4_requireWithin rfl (by decide +kernel) hp_X4_requireWithin ⟨_, _, rfl, rfl⟩ hfl_RX4 (fun h => nomatch h) (hcs_X4_requireWithin hl0) hnw_X4_requireWithin hth_X4_requireWithin (fun _ _ h => absurd h List.not_mem_nil) hkc_X4_requireWithin (fun args w Q X v0 hv0 h => ?_)
  obtain ⟨x, lo, hi, rfl, h1, h2⟩ := h
  refine ⟨Nat.le_of_ble_eq_true rfl, 20, [], ?_, fun q hq => absurd hq List.not_mem_nil⟩
  (conv => whnf)
  refine And.intro (fun c => ?_) (fun c => ?_) <;> dsimp only at c
  · (conv => whnf)
    exact h2 (Or.inl c)
  · (conv => whnf)
    refine And.intro (fun d => ?_) (fun d => ?_) <;> dsimp only at d
    · (conv => whnf)
      exact h2 (Or.inr d)
    · (conv => whnf)
      exact h1 c d
def sp_X4_requireHeight : zSpec := fun args w Q X => ∃ x, args = [.int x] ∧ (¬ x < nI 0 → ¬ nI 9 < x → Q none w) ∧ (x < nI 0 ∨ nI 9 < x → X zIAE w)
def pg_X4_requireHeight : List zE := [(0, .iload_n 0, 1, []), (1, .iconst 0, 1, [0]), (2, .bipush 9, 2, [9]), (4, .invokestatic 69, 3, []), (7, .return_, 1, [])]
theorem hp_X4_requireHeight : ∀ q ∈ pg_X4_requireHeight, decode cX4_requireHeight q.1 = .ok (q.2.1, q.2.2.1) ∧ ztg q.2.1 q.1 q.2.2.1 q.2.2.2 = true := zpg_of (by decide +kernel)
def cs_X4_requireHeight : List (Nat × zCall) := [(69, 1, 3, none, 1, 6, false, sp_X4_requireWithin)]
theorem hcs_X4_requireHeight {l : Launch} (hl0 : l.stackTraces = false) : ∀ q ∈ cs_X4_requireHeight, zCallable l RX4 3 q := List.forall_mem_cons.mpr ⟨zcS (ps := [266, 267, 14, 268]) (c_X4_requireWithin hl0) (by decide +kernel) ⟨by decide +kernel, by decide +kernel, by decide +kernel⟩ (by decide) (by decide), fun _ h => absurd h List.not_mem_nil⟩
def th_X4_requireHeight : List (Nat × String) := []
theorem hth_X4_requireHeight : ∀ q ∈ th_X4_requireHeight, zThrow cX4_requireHeight RX4 q := fun _ h => absurd h List.not_mem_nil
def kc_X4_requireHeight : List (Nat × Int32) := []
theorem hkc_X4_requireHeight : ∀ q ∈ kc_X4_requireHeight, Cond.constant RX4 q.1 q.2 ∈ zTs := fun _ h => absurd h List.not_mem_nil
def nw_X4_requireHeight : List (Nat × Nat × Nat × List Value) := []
theorem hnw_X4_requireHeight : ∀ q ∈ nw_X4_requireHeight, zNew RX4 q := fun _ h => absurd h List.not_mem_nil
set_option maxHeartbeats 4000000 in
set_option maxRecDepth 20000 in
theorem c_X4_requireHeight {l : Launch} (hl0 : l.stackTraces = false) : CT l yX4_requireHeight (.code yX4_requireHeight cX4_requireHeight 1 none) 3 1 6 false sp_X4_requireHeight := by
  refine zCT_of hl0 (own := RX4) fl_RX4 cs_X4_requireHeight nw_X4_requireHeight th_X4_requireHeight kc_X4_requireHeight (fun _ => []) false pg_X4_requireHeight rfl (by decide +kernel) hp_X4_requireHeight ⟨_, _, rfl, rfl⟩ hfl_RX4 (fun h => nomatch h) (hcs_X4_requireHeight hl0) hnw_X4_requireHeight hth_X4_requireHeight (fun _ _ h => absurd h List.not_mem_nil) hkc_X4_requireHeight (fun args w Q X v0 hv0 h => ?_)
  obtain ⟨x, rfl, h1, h2⟩ := h
  refine ⟨Nat.le_of_ble_eq_true rfl, 20, [], ?_, fun q hq => absurd hq List.not_mem_nil⟩
  (conv => whnf)
  refine ⟨_, _, _, rfl, fun a b => ?_, fun a => ?_⟩
  · (conv => whnf)
    exact h1 a b
  · (conv => whnf)
    exact h2 a
def sp_X4_requireClaim : zSpec := fun args w Q X => ∃ α ν r n x, n ≤ 40 ∧ ν 3 = nI n ∧ args = [.ref 0, .int x] ∧ w = WX α ν r ∧ (vp_in x n → Q none (WX α ν r)) ∧ (¬ vp_in x n → X zIOO (WX α ν r))
def pg_X4_requireClaim : List zE := [(0, .aload_n 0, 1, []), (1, .getfield 26, 3, []), (4, .iload_n 1, 1, []), (5, .invokevirtual 241, 3, []), (8, .ifCond .ne 13, 3, [21]), (11, .new 89, 3, []), (21, .return_, 1, [])]
theorem hp_X4_requireClaim : ∀ q ∈ pg_X4_requireClaim, decode cX4_requireClaim q.1 = .ok (q.2.1, q.2.2.1) ∧ ztg q.2.1 q.1 q.2.2.1 q.2.2.2 = true := zpg_of (by decide +kernel)
def cs_X4_requireClaim : List (Nat × zCall) := [(241, 0, 2, some 2, 0, 0, false, sp_X1_has)]
theorem hcs_X4_requireClaim {l : Launch} (hl0 : l.stackTraces = false) : ∀ q ∈ cs_X4_requireClaim, zCallable l RX4 2 q := List.forall_mem_cons.mpr ⟨zcV (C := (RX1, TX1, 4)) (ps := [456, 433, 434, 18, 435]) (c_X1_has hl0) (by decide +kernel) rfl ⟨rfl, by decide +kernel, by decide +kernel, by decide +kernel⟩ (by decide) (by decide), fun _ h => absurd h List.not_mem_nil⟩
def th_X4_requireClaim : List (Nat × String) := [(11, "java/lang/IndexOutOfBoundsException")]
theorem hth_X4_requireClaim : ∀ q ∈ th_X4_requireClaim, zThrow cX4_requireClaim RX4 q := List.forall_mem_cons.mpr ⟨⟨"no such claim", 89, 244, 93, [196, 27], by decide +kernel, by decide +kernel, by decide +kernel, thw_RX4_93, by decide +kernel, by decide +kernel, Or.inl ⟨by decide +kernel, by decide +kernel, by decide +kernel⟩⟩, fun _ h => absurd h List.not_mem_nil⟩
def kc_X4_requireClaim : List (Nat × Int32) := []
theorem hkc_X4_requireClaim : ∀ q ∈ kc_X4_requireClaim, Cond.constant RX4 q.1 q.2 ∈ zTs := fun _ h => absurd h List.not_mem_nil
def nw_X4_requireClaim : List (Nat × Nat × Nat × List Value) := []
theorem hnw_X4_requireClaim : ∀ q ∈ nw_X4_requireClaim, zNew RX4 q := fun _ h => absurd h List.not_mem_nil
set_option maxHeartbeats 4000000 in
set_option maxRecDepth 20000 in
theorem c_X4_requireClaim {l : Launch} (hl0 : l.stackTraces = false) : CT l yX4_requireClaim (.code yX4_requireClaim cX4_requireClaim 2 none) 2 1 6 false sp_X4_requireClaim := by
  refine zCT_of hl0 (own := RX4) fl_RX4 cs_X4_requireClaim nw_X4_requireClaim th_X4_requireClaim kc_X4_requireClaim (fun _ => []) false pg_X4_requireClaim rfl (by decide +kernel) hp_X4_requireClaim ⟨_, _, rfl, rfl⟩ hfl_RX4 (fun h => nomatch h) (hcs_X4_requireClaim hl0) hnw_X4_requireClaim hth_X4_requireClaim (fun _ _ h => absurd h List.not_mem_nil) hkc_X4_requireClaim (fun args w Q X v0 hv0 h => ?_)
  obtain ⟨α, ν, r, n, x, hn, hν, rfl, rfl, h1, h2⟩ := h
  refine ⟨Nat.le_of_ble_eq_true rfl, 20, [], ?_, fun q hq => absurd hq List.not_mem_nil⟩
  (conv => whnf)
  refine ⟨α, ν, r, n, x, hn, hν, rfl, rfl, fun c => ?_, fun c => ?_⟩
  · (conv => whnf)
    refine And.intro (fun c => absurd c (show ¬ _ from (by decide))) (fun _ => ?_)
    (conv => whnf)
    exact h1 c
  · (conv => whnf)
    refine And.intro (fun _ => ?_) (fun c => absurd (show _ from rfl) c)
    (conv => whnf)
    exact h2 c
def sp_X4_requireThing : zSpec := fun args w Q X => ∃ α ν r n x, n ≤ 60 ∧ ν 4 = nI n ∧ args = [.ref 0, .int x] ∧ w = WX α ν r ∧ (vp_in x n → Q none (WX α ν r)) ∧ (¬ vp_in x n → X zIOO (WX α ν r))
def pg_X4_requireThing : List zE := [(0, .aload_n 0, 1, []), (1, .getfield 33, 3, []), (4, .iload_n 1, 1, []), (5, .invokevirtual 246, 3, []), (8, .ifCond .ne 13, 3, [21]), (11, .new 89, 3, []), (21, .return_, 1, [])]
theorem hp_X4_requireThing : ∀ q ∈ pg_X4_requireThing, decode cX4_requireThing q.1 = .ok (q.2.1, q.2.2.1) ∧ ztg q.2.1 q.1 q.2.2.1 q.2.2.2 = true := zpg_of (by decide +kernel)
def cs_X4_requireThing : List (Nat × zCall) := [(246, 0, 2, some 4, 0, 0, false, sp_X3_has)]
theorem hcs_X4_requireThing {l : Launch} (hl0 : l.stackTraces = false) : ∀ q ∈ cs_X4_requireThing, zCallable l RX4 2 q := List.forall_mem_cons.mpr ⟨zcV (C := (RX3, TX3, 5)) (ps := [478, 479, 480, 19, 481]) (c_X3_has hl0) (by decide +kernel) rfl ⟨rfl, by decide +kernel, by decide +kernel, by decide +kernel⟩ (by decide) (by decide), fun _ h => absurd h List.not_mem_nil⟩
def th_X4_requireThing : List (Nat × String) := [(11, "java/lang/IndexOutOfBoundsException")]
theorem hth_X4_requireThing : ∀ q ∈ th_X4_requireThing, zThrow cX4_requireThing RX4 q := List.forall_mem_cons.mpr ⟨⟨"no such thing", 89, 247, 93, [196, 27], by decide +kernel, by decide +kernel, by decide +kernel, thw_RX4_93, by decide +kernel, by decide +kernel, Or.inl ⟨by decide +kernel, by decide +kernel, by decide +kernel⟩⟩, fun _ h => absurd h List.not_mem_nil⟩
def kc_X4_requireThing : List (Nat × Int32) := []
theorem hkc_X4_requireThing : ∀ q ∈ kc_X4_requireThing, Cond.constant RX4 q.1 q.2 ∈ zTs := fun _ h => absurd h List.not_mem_nil
def nw_X4_requireThing : List (Nat × Nat × Nat × List Value) := []
theorem hnw_X4_requireThing : ∀ q ∈ nw_X4_requireThing, zNew RX4 q := fun _ h => absurd h List.not_mem_nil
set_option maxHeartbeats 4000000 in
set_option maxRecDepth 20000 in
theorem c_X4_requireThing {l : Launch} (hl0 : l.stackTraces = false) : CT l yX4_requireThing (.code yX4_requireThing cX4_requireThing 2 none) 2 1 6 false sp_X4_requireThing := by
  refine zCT_of hl0 (own := RX4) fl_RX4 cs_X4_requireThing nw_X4_requireThing th_X4_requireThing kc_X4_requireThing (fun _ => []) false pg_X4_requireThing rfl (by decide +kernel) hp_X4_requireThing ⟨_, _, rfl, rfl⟩ hfl_RX4 (fun h => nomatch h) (hcs_X4_requireThing hl0) hnw_X4_requireThing hth_X4_requireThing (fun _ _ h => absurd h List.not_mem_nil) hkc_X4_requireThing (fun args w Q X v0 hv0 h => ?_)
  obtain ⟨α, ν, r, n, x, hn, hν, rfl, rfl, h1, h2⟩ := h
  refine ⟨Nat.le_of_ble_eq_true rfl, 20, [], ?_, fun q hq => absurd hq List.not_mem_nil⟩
  (conv => whnf)
  refine ⟨α, ν, r, n, x, hn, hν, rfl, rfl, fun c => ?_, fun c => ?_⟩
  · (conv => whnf)
    refine And.intro (fun c => absurd c (show ¬ _ from (by decide))) (fun _ => ?_)
    (conv => whnf)
    exact h1 c
  · (conv => whnf)
    refine And.intro (fun _ => ?_) (fun c => absurd (show _ from rfl) c)
    (conv => whnf)
    exact h2 c
def sp_X4_requireFree : zSpec := fun args w Q X => ∃ α ν r d, d < 4 ∧ args = [.ref 0, .int (nI d)] ∧ w = WX α ν r ∧ (zrst (α 7 d) (ν 0) = 0 → Q none (WX α ν r)) ∧ (¬ zrst (α 7 d) (ν 0) = 0 → X zISE (WX α ν r))
def pg_X4_requireFree : List zE := [(0, .aload_n 0, 1, []), (1, .getfield 19, 3, []), (4, .iload_n 1, 1, []), (5, .aload_n 0, 1, []), (6, .getfield 44, 3, []), (9, .invokevirtual 254, 3, []), (12, .ifCond .ne 14, 3, [26]), (15, .new 127, 3, []), (26, .return_, 1, [])]
theorem hp_X4_requireFree : ∀ q ∈ pg_X4_requireFree, decode cX4_requireFree q.1 = .ok (q.2.1, q.2.2.1) ∧ ztg q.2.1 q.1 q.2.2.1 q.2.2.2 = true := zpg_of (by decide +kernel)
def cs_X4_requireFree : List (Nat × zCall) := [(254, 0, 3, some 3, 0, 0, false, sp_X2_isFree)]
theorem hcs_X4_requireFree {l : Launch} (hl0 : l.stackTraces = false) : ∀ q ∈ cs_X4_requireFree, zCallable l RX4 4 q := List.forall_mem_cons.mpr ⟨zcV (C := (RX2, TX2, 2)) (ps := [520, 521, 522, 17, 523]) (c_X2_isFree hl0) (by decide +kernel) rfl ⟨rfl, by decide +kernel, by decide +kernel, by decide +kernel⟩ (by decide) (by decide), fun _ h => absurd h List.not_mem_nil⟩
def th_X4_requireFree : List (Nat × String) := [(15, "java/lang/IllegalStateException")]
theorem hth_X4_requireFree : ∀ q ∈ th_X4_requireFree, zThrow cX4_requireFree RX4 q := List.forall_mem_cons.mpr ⟨⟨"the diver is not free", 127, 257, 131, [392, 30], by decide +kernel, by decide +kernel, by decide +kernel, thw_RX4_131, by decide +kernel, by decide +kernel, Or.inr ⟨by decide +kernel, by decide +kernel, by decide +kernel⟩⟩, fun _ h => absurd h List.not_mem_nil⟩
def kc_X4_requireFree : List (Nat × Int32) := []
theorem hkc_X4_requireFree : ∀ q ∈ kc_X4_requireFree, Cond.constant RX4 q.1 q.2 ∈ zTs := fun _ h => absurd h List.not_mem_nil
def nw_X4_requireFree : List (Nat × Nat × Nat × List Value) := []
theorem hnw_X4_requireFree : ∀ q ∈ nw_X4_requireFree, zNew RX4 q := fun _ h => absurd h List.not_mem_nil
set_option maxHeartbeats 4000000 in
set_option maxRecDepth 20000 in
theorem c_X4_requireFree {l : Launch} (hl0 : l.stackTraces = false) : CT l yX4_requireFree (.code yX4_requireFree cX4_requireFree 2 none) 4 1 6 false sp_X4_requireFree := by
  refine zCT_of hl0 (own := RX4) fl_RX4 cs_X4_requireFree nw_X4_requireFree th_X4_requireFree kc_X4_requireFree (fun _ => []) false pg_X4_requireFree rfl (by decide +kernel) hp_X4_requireFree ⟨_, _, rfl, rfl⟩ hfl_RX4 (fun h => nomatch h) (hcs_X4_requireFree hl0) hnw_X4_requireFree hth_X4_requireFree (fun _ _ h => absurd h List.not_mem_nil) hkc_X4_requireFree (fun args w Q X v0 hv0 h => ?_)
  obtain ⟨α, ν, r, d, hd, rfl, rfl, h1, h2⟩ := h
  refine ⟨Nat.le_of_ble_eq_true rfl, 20, [], ?_, fun q hq => absurd hq List.not_mem_nil⟩
  (conv => whnf)
  refine ⟨α, ν, r, d, ν 0, hd, rfl, rfl, fun c => ?_, fun c => ?_⟩
  · (conv => whnf)
    refine And.intro (fun c => absurd c (show ¬ _ from (by decide))) (fun _ => ?_)
    (conv => whnf)
    exact h1 c
  · (conv => whnf)
    refine And.intro (fun _ => ?_) (fun c => absurd (show _ from rfl) c)
    (conv => whnf)
    exact h2 c
def zDv (α : Nat → Nat → Int32) (ν : Nat → Int32) (d k m : Nat) : Prop := zrst (α 7 d) (ν 0) = 0 ∧ ¬ α 6 d < nI (m * zau k)
def sp_X4_requireDive : zSpec := fun args w Q X => ∃ α ν r d k m, d < 4 ∧ k < 96 ∧ m ≤ 60 ∧ args = [.ref 0, .int (nI d), .int (nI k), .int (nI m)] ∧ w = WX α ν r ∧ (zDv α ν d k m → Q none (WX α ν r)) ∧ (¬ zDv α ν d k m → X zISE (WX α ν r))
def pg_X4_requireDive : List zE := [(0, .aload_n 0, 1, []), (1, .iload_n 1, 1, []), (2, .invokevirtual 139, 3, []), (5, .aload_n 0, 1, []), (6, .getfield 19, 3, []), (9, .iload_n 1, 1, []), (10, .invokevirtual 145, 3, []), (13, .iload_n 2, 1, []), (14, .iload_n 3, 1, []), (15, .invokestatic 259, 3, []), (18, .if_icmp .ge 14, 3, [32]), (21, .new 127, 3, []), (32, .return_, 1, [])]
theorem hp_X4_requireDive : ∀ q ∈ pg_X4_requireDive, decode cX4_requireDive q.1 = .ok (q.2.1, q.2.2.1) ∧ ztg q.2.1 q.1 q.2.2.1 q.2.2.2 = true := zpg_of (by decide +kernel)
def cs_X4_requireDive : List (Nat × zCall) := [(139, 0, 2, some 5, 1, 6, false, sp_X4_requireFree), (145, 0, 2, some 3, 0, 0, false, sp_X2_airOf), (259, 1, 2, none, 0, 0, false, sp_X2_airForDive)]
theorem hcs_X4_requireDive {l : Launch} (hl0 : l.stackTraces = false) : ∀ q ∈ cs_X4_requireDive, zCallable l RX4 5 q := List.forall_mem_cons.mpr ⟨zcV (C := (RX4, TX4, 6)) (ps := [516, 518, 9, 14, 519]) (c_X4_requireFree hl0) (by decide +kernel) rfl ⟨rfl, by decide +kernel, by decide +kernel, by decide +kernel⟩ (by decide) (by decide), List.forall_mem_cons.mpr ⟨zcV (C := (RX2, TX2, 2)) (ps := [354, 355, 356, 17, 357]) (c_X2_airOf hl0) (by decide +kernel) rfl ⟨rfl, by decide +kernel, by decide +kernel, by decide +kernel⟩ (by decide) (by decide), List.forall_mem_cons.mpr ⟨zcS (ps := [526, 381, 17, 382]) (c_X2_airForDive hl0) (by decide +kernel) ⟨by decide +kernel, by decide +kernel, by decide +kernel⟩ (by decide) (by decide), fun _ h => absurd h List.not_mem_nil⟩⟩⟩
def th_X4_requireDive : List (Nat × String) := [(21, "java/lang/IllegalStateException")]
theorem hth_X4_requireDive : ∀ q ∈ th_X4_requireDive, zThrow cX4_requireDive RX4 q := List.forall_mem_cons.mpr ⟨⟨"too little air", 127, 262, 131, [392, 30], by decide +kernel, by decide +kernel, by decide +kernel, thw_RX4_131, by decide +kernel, by decide +kernel, Or.inr ⟨by decide +kernel, by decide +kernel, by decide +kernel⟩⟩, fun _ h => absurd h List.not_mem_nil⟩
def kc_X4_requireDive : List (Nat × Int32) := []
theorem hkc_X4_requireDive : ∀ q ∈ kc_X4_requireDive, Cond.constant RX4 q.1 q.2 ∈ zTs := fun _ h => absurd h List.not_mem_nil
def nw_X4_requireDive : List (Nat × Nat × Nat × List Value) := []
theorem hnw_X4_requireDive : ∀ q ∈ nw_X4_requireDive, zNew RX4 q := fun _ h => absurd h List.not_mem_nil
set_option maxHeartbeats 4000000 in
set_option maxRecDepth 20000 in
theorem c_X4_requireDive {l : Launch} (hl0 : l.stackTraces = false) : CT l yX4_requireDive (.code yX4_requireDive cX4_requireDive 4 none) 5 2 12 false sp_X4_requireDive := by
  refine zCT_of hl0 (own := RX4) fl_RX4 cs_X4_requireDive nw_X4_requireDive th_X4_requireDive kc_X4_requireDive (fun _ => []) false pg_X4_requireDive rfl (by decide +kernel) hp_X4_requireDive ⟨_, _, rfl, rfl⟩ hfl_RX4 (fun h => nomatch h) (hcs_X4_requireDive hl0) hnw_X4_requireDive hth_X4_requireDive (fun _ _ h => absurd h List.not_mem_nil) hkc_X4_requireDive (fun args w Q X v0 hv0 h => ?_)
  obtain ⟨α, ν, r, d, k, m, hd, hk, hm, rfl, rfl, h1, h2⟩ := h
  refine ⟨Nat.le_of_ble_eq_true rfl, 20, [], ?_, fun q hq => absurd hq List.not_mem_nil⟩
  (conv => whnf)
  refine ⟨α, ν, r, d, hd, rfl, rfl, fun c => ?_, fun c => ?_⟩
  · (conv => whnf)
    refine ⟨α, ν, r, d, hd, rfl, rfl, ?_⟩
    (conv => whnf)
    refine ⟨k, m, hk, hm, rfl, ?_⟩
    (conv => whnf)
    refine And.intro (fun e => ?_) (fun e => ?_) <;> dsimp only at e
    · (conv => whnf)
      exact h2 (fun q => q.2 e)
    · (conv => whnf)
      exact h1 ⟨c, e⟩
  · (conv => whnf)
    exact h2 (fun q => c q.1)
/-- the name of a shape -/
def zNm (α : Nat → Nat → Int32) (s : Int32) : Int32 := (znm (α 3) (α 2) (α 1) s 96).2
def zBad (α : Nat → Nat → Int32) (s : Int32) : Prop := s = -1 ∨ zNm α s = nI 1
def sp_X4_requireOpenShape : zSpec := fun args w Q X => ∃ α ν r s, args = [.ref 0, .int s] ∧ w = WX α ν r ∧ (¬ zBad α s → Q none (WX α ν r)) ∧ (zBad α s → X zISE (WX α ν r))
def pg_X4_requireOpenShape : List zE := [(0, .iload_n 1, 1, []), (1, .iconst (-1), 1, []), (2, .if_icmp .ne 14, 3, [16]), (5, .new 127, 3, []), (16, .aload_n 0, 1, []), (17, .getfield 12, 3, []), (20, .iload_n 1, 1, []), (21, .invokevirtual 86, 3, []), (24, .iconst 1, 1, [1]), (25, .if_icmp .ne 14, 3, [39]), (28, .new 127, 3, []), (39, .return_, 1, [])]
theorem hp_X4_requireOpenShape : ∀ q ∈ pg_X4_requireOpenShape, decode cX4_requireOpenShape q.1 = .ok (q.2.1, q.2.2.1) ∧ ztg q.2.1 q.1 q.2.2.1 q.2.2.2 = true := zpg_of (by decide +kernel)
def cs_X4_requireOpenShape : List (Nat × zCall) := [(86, 0, 2, some 1, 0, 0, false, sp_X0_nameOfShape)]
theorem hcs_X4_requireOpenShape {l : Launch} (hl0 : l.stackTraces = false) : ∀ q ∈ cs_X4_requireOpenShape, zCallable l RX4 4 q := List.forall_mem_cons.mpr ⟨zcV (C := (RX0, TX0, 8)) (ps := [338, 339, 340, 15, 341]) (c_X0_nameOfShape hl0) (by decide +kernel) rfl ⟨rfl, by decide +kernel, by decide +kernel, by decide +kernel⟩ (by decide) (by decide), fun _ h => absurd h List.not_mem_nil⟩
def th_X4_requireOpenShape : List (Nat × String) := [(5, "java/lang/IllegalStateException"), (28, "java/lang/IllegalStateException")]
theorem hth_X4_requireOpenShape : ∀ q ∈ th_X4_requireOpenShape, zThrow cX4_requireOpenShape RX4 q := List.forall_mem_cons.mpr ⟨⟨"no shape there", 127, 264, 131, [392, 30], by decide +kernel, by decide +kernel, by decide +kernel, thw_RX4_131, by decide +kernel, by decide +kernel, Or.inr ⟨by decide +kernel, by decide +kernel, by decide +kernel⟩⟩, List.forall_mem_cons.mpr ⟨⟨"a rock", 127, 266, 131, [392, 30], by decide +kernel, by decide +kernel, by decide +kernel, thw_RX4_131, by decide +kernel, by decide +kernel, Or.inr ⟨by decide +kernel, by decide +kernel, by decide +kernel⟩⟩, fun _ h => absurd h List.not_mem_nil⟩⟩
def kc_X4_requireOpenShape : List (Nat × Int32) := []
theorem hkc_X4_requireOpenShape : ∀ q ∈ kc_X4_requireOpenShape, Cond.constant RX4 q.1 q.2 ∈ zTs := fun _ h => absurd h List.not_mem_nil
def nw_X4_requireOpenShape : List (Nat × Nat × Nat × List Value) := []
theorem hnw_X4_requireOpenShape : ∀ q ∈ nw_X4_requireOpenShape, zNew RX4 q := fun _ h => absurd h List.not_mem_nil
set_option maxHeartbeats 4000000 in
set_option maxRecDepth 20000 in
theorem c_X4_requireOpenShape {l : Launch} (hl0 : l.stackTraces = false) : CT l yX4_requireOpenShape (.code yX4_requireOpenShape cX4_requireOpenShape 2 none) 4 2 12 false sp_X4_requireOpenShape := by
  refine zCT_of hl0 (own := RX4) fl_RX4 cs_X4_requireOpenShape nw_X4_requireOpenShape th_X4_requireOpenShape kc_X4_requireOpenShape (fun _ => []) false pg_X4_requireOpenShape rfl (by decide +kernel) hp_X4_requireOpenShape ⟨_, _, rfl, rfl⟩ hfl_RX4 (fun h => nomatch h) (hcs_X4_requireOpenShape hl0) hnw_X4_requireOpenShape hth_X4_requireOpenShape (fun _ _ h => absurd h List.not_mem_nil) hkc_X4_requireOpenShape (fun args w Q X v0 hv0 h => ?_)
  obtain ⟨α, ν, r, s, rfl, rfl, h1, h2⟩ := h
  refine ⟨Nat.le_of_ble_eq_true rfl, 20, [], ?_, fun q hq => absurd hq List.not_mem_nil⟩
  (conv => whnf)
  refine And.intro (fun c => ?_) (fun c => ?_) <;> dsimp only at c
  · (conv => whnf)
    exact h2 (Or.inl c)
  · (conv => whnf)
    refine ⟨α, ν, r, s, rfl, rfl, ?_⟩
    (conv => whnf)
    refine And.intro (fun d => ?_) (fun d => ?_) <;> dsimp only at d
    · (conv => whnf)
      exact h2 (Or.inr d)
    · (conv => whnf)
      exact h1 (fun q => q.elim c d)
/-- the least place below c of which P holds, or -1 -/
def zHold (P : Nat → Prop) (c : Nat) (x : Int32) : Prop := (∃ j, j < c ∧ P j ∧ (∀ i, i < j → ¬ P i) ∧ x = nI j) ∨ ((∀ j, j < c → ¬ P j) ∧ x = -1)
theorem zHold_one {P P' : Nat → Prop} {c : Nat} {x y : Int32} (e : ∀ j, j < c → (P j ↔ P' j)) (h : zHold P c x) (h' : zHold P' c y) : x = y := by
  rcases h with ⟨j, hj, p, q, rfl⟩ | ⟨q, rfl⟩
  · rcases h' with ⟨j', hj', p', q', rfl⟩ | ⟨q', rfl⟩
    · have : j = j' := by
        apply Classical.byContradiction
        intro ne
        rcases Nat.lt_or_gt_of_ne ne with h | h
        · exact q' j h ((e j hj).mp p)
        · exact q j' h ((e j' hj').mpr p')
      rw [this]
    · exact absurd ((e j hj).mp p) (q' j hj)
  · rcases h' with ⟨j', hj', p', q', rfl⟩ | ⟨q', rfl⟩
    · exact absurd ((e j' hj').mpr p') (q j' hj')
    · rfl
def zHr (bad : Prop) (P : Nat → Prop) (c : Nat) (x : Int32) : Prop := (bad ∧ x = -1) ∨ (¬ bad ∧ zHold P c x)
theorem zHr_one {bad bad' : Prop} {P P' : Nat → Prop} {c : Nat} {x y : Int32} (eb : bad ↔ bad') (e : ∀ j, j < c → (P j ↔ P' j)) (h : zHr bad P c x) (h' : zHr bad' P' c y) : x = y := by
  rcases h with ⟨b, rfl⟩ | ⟨b, h⟩
  · rcases h' with ⟨b', rfl⟩ | ⟨b', h'⟩
    · rfl
    · exact absurd (eb.mp b) b'
  · rcases h' with ⟨b', rfl⟩ | ⟨b', h'⟩
    · exact absurd (eb.mpr b') b
    · exact zHold_one e h h'
theorem zHr_of {bad : Prop} {P : Nat → Prop} {c : Nat} {x : Int32} (h : zHr bad P c x) : x = -1 ∨ ∃ j, j < c ∧ x = nI j := by
  rcases h with ⟨_, rfl⟩ | ⟨_, ⟨j, hj, _, _, rfl⟩ | ⟨_, rfl⟩⟩
  · exact Or.inl rfl
  · exact Or.inr ⟨j, hj, rfl⟩
  · exact Or.inl rfl
/-- a claim that runs, on a cell of shape s -/
def zP (α : Nat → Nat → Int32) (ν : Nat → Int32) (s : Int32) (j : Nat) : Prop := ν 0 < α 10 j ∧ α 3 (α 9 j).toNatClampNeg = s
def zHR (α : Nat → Nat → Int32) (ν : Nat → Int32) (c : Nat) (s x : Int32) : Prop := zHr (zBad α s) (zP α ν s) c x
/-- the claims' cells are cells -/
def zCk (α : Nat → Nat → Int32) (ν : Nat → Int32) (c : Nat) : Prop := c ≤ 40 ∧ ν 3 = nI c ∧ ∀ j, j < c → ∃ k, k < 96 ∧ α 9 j = nI k
def sp_X4_claimOnShape : zSpec := fun args w Q _ => ∃ α ν r c s, zCk α ν c ∧ args = [.ref 0, .int s] ∧ w = WX α ν r ∧ ∀ x, zHR α ν c s x → Q (some (.int x)) (WX α ν r)
def pg_X4_claimOnShape : List zE := [(0, .iload_n 1, 1, []), (1, .iconst (-1), 1, []), (2, .if_icmp .eq 15, 3, [17]), (5, .aload_n 0, 1, []), (6, .getfield 12, 3, []), (9, .iload_n 1, 1, []), (10, .invokevirtual 86, 3, []), (13, .iconst 1, 1, [1]), (14, .if_icmp .ne 5, 3, [19]), (17, .iconst (-1), 1, []), (18, .ireturn, 1, []), (19, .iconst 0, 1, [0]), (20, .istore_n 2, 1, []), (21, .iload_n 2, 1, []), (22, .aload_n 0, 1, []), (23, .getfield 26, 3, []), (26, .invokevirtual 187, 3, []), (29, .if_icmp .ge 45, 3, [74]), (32, .aload_n 0, 1, []), (33, .getfield 26, 3, []), (36, .iload_n 2, 1, []), (37, .aload_n 0, 1, []), (38, .getfield 44, 3, []), (41, .invokevirtual 169, 3, []), (44, .ifCond .eq 24, 3, [68]), (47, .aload_n 0, 1, []), (48, .getfield 12, 3, []), (51, .aload_n 0, 1, []), (52, .getfield 26, 3, []), (55, .iload_n 2, 1, []), (56, .invokevirtual 190, 3, []), (59, .invokevirtual 77, 3, []), (62, .iload_n 1, 1, []), (63, .if_icmp .ne 5, 3, [68]), (66, .iload_n 2, 1, []), (67, .ireturn, 1, []), (68, .iinc 2 1, 3, [1]), (71, .goto (-50), 3, [21]), (74, .iconst (-1), 1, []), (75, .ireturn, 1, [])]
theorem hp_X4_claimOnShape : ∀ q ∈ pg_X4_claimOnShape, decode cX4_claimOnShape q.1 = .ok (q.2.1, q.2.2.1) ∧ ztg q.2.1 q.1 q.2.2.1 q.2.2.2 = true := zpg_of (by decide +kernel)
def cs_X4_claimOnShape : List (Nat × zCall) := [(86, 0, 2, some 1, 0, 0, false, sp_X0_nameOfShape), (187, 0, 1, some 2, 0, 0, false, sp_X1_count), (169, 0, 3, some 2, 0, 0, false, sp_X1_isRunning), (190, 0, 2, some 2, 0, 0, false, sp_X1_cellOf), (77, 0, 2, some 1, 0, 0, false, sp_X0_shapeAt)]
theorem hcs_X4_claimOnShape {l : Launch} (hl0 : l.stackTraces = false) : ∀ q ∈ cs_X4_claimOnShape, zCallable l RX4 4 q := List.forall_mem_cons.mpr ⟨zcV (C := (RX0, TX0, 8)) (ps := [338, 339, 340, 15, 341]) (c_X0_nameOfShape hl0) (by decide +kernel) rfl ⟨rfl, by decide +kernel, by decide +kernel, by decide +kernel⟩ (by decide) (by decide), List.forall_mem_cons.mpr ⟨zcV (C := (RX1, TX1, 4)) (ps := [424, 425, 426, 18, 427]) (c_X1_count hl0) (by decide +kernel) rfl ⟨rfl, by decide +kernel, by decide +kernel, by decide +kernel⟩ (by decide) (by decide), List.forall_mem_cons.mpr ⟨zcV (C := (RX1, TX1, 4)) (ps := [428, 429, 430, 18, 431]) (c_X1_isRunning hl0) (by decide +kernel) rfl ⟨rfl, by decide +kernel, by decide +kernel, by decide +kernel⟩ (by decide) (by decide), List.forall_mem_cons.mpr ⟨zcV (C := (RX1, TX1, 4)) (ps := [436, 437, 438, 18, 439]) (c_X1_cellOf hl0) (by decide +kernel) rfl ⟨rfl, by decide +kernel, by decide +kernel, by decide +kernel⟩ (by decide) (by decide), List.forall_mem_cons.mpr ⟨zcV (C := (RX0, TX0, 8)) (ps := [330, 331, 332, 15, 333]) (c_X0_shapeAt hl0) (by decide +kernel) rfl ⟨rfl, by decide +kernel, by decide +kernel, by decide +kernel⟩ (by decide) (by decide), fun _ h => absurd h List.not_mem_nil⟩⟩⟩⟩⟩
def th_X4_claimOnShape : List (Nat × String) := []
theorem hth_X4_claimOnShape : ∀ q ∈ th_X4_claimOnShape, zThrow cX4_claimOnShape RX4 q := fun _ h => absurd h List.not_mem_nil
def kc_X4_claimOnShape : List (Nat × Int32) := []
theorem hkc_X4_claimOnShape : ∀ q ∈ kc_X4_claimOnShape, Cond.constant RX4 q.1 q.2 ∈ zTs := fun _ h => absurd h List.not_mem_nil
def nw_X4_claimOnShape : List (Nat × Nat × Nat × List Value) := []
theorem hnw_X4_claimOnShape : ∀ q ∈ nw_X4_claimOnShape, zNew RX4 q := fun _ h => absurd h List.not_mem_nil
set_option maxHeartbeats 4000000 in
set_option maxRecDepth 20000 in
theorem c_X4_claimOnShape {l : Launch} (hl0 : l.stackTraces = false) : CT l yX4_claimOnShape (.code yX4_claimOnShape cX4_claimOnShape 3 (some .int)) 4 0 0 false sp_X4_claimOnShape := by
  refine zCT_of hl0 (own := RX4) fl_RX4 cs_X4_claimOnShape nw_X4_claimOnShape th_X4_claimOnShape kc_X4_claimOnShape (fun _ => []) false pg_X4_claimOnShape rfl (by decide +kernel) hp_X4_claimOnShape ⟨_, _, rfl, rfl⟩ hfl_RX4 (fun h => nomatch h) (hcs_X4_claimOnShape hl0) hnw_X4_claimOnShape hth_X4_claimOnShape (fun _ _ h => absurd h List.not_mem_nil) hkc_X4_claimOnShape (fun args w Q X v0 hv0 h => ?_)
  obtain ⟨α, ν, r, n, s, ⟨hn, hν, hk⟩, rfl, rfl, hQ⟩ := h
  refine ⟨Nat.le_of_ble_eq_true rfl, 60, [(21, fun m L S w' cu su => ∃ i, zsub [(0, .ref 0), (1, .int s), (2, .int (nI i))] L ∧ S = [] ∧ w' = WX α ν r ∧ ¬ zBad α s ∧ i ≤ n ∧ (∀ j, j < i → ¬ zP α ν s j) ∧ m = 40 - i ∧ cu = 0 ∧ su = 0)], ?_, zone ?_⟩
  · (conv => whnf)
    refine And.intro (fun c => ?_) (fun c => ?_) <;> dsimp only at c
    · (conv => whnf)
      exact hQ (-1) (Or.inl ⟨Or.inl c, rfl⟩)
    · (conv => whnf)
      refine ⟨α, ν, r, s, rfl, rfl, ?_⟩
      (conv => whnf)
      refine And.intro (fun d => ?_) (fun d => ?_) <;> dsimp only at d
      · (conv => whnf)
        exact hQ (-1) (Or.inl ⟨Or.inr d, rfl⟩)
      · (conv => whnf)
        exact ⟨40, 0, ⟨rfl, rfl, rfl, trivial⟩, rfl, rfl, fun q => q.elim c d, Nat.zero_le _, fun j hj => absurd hj (Nat.not_lt_zero j), rfl, rfl, rfl⟩
  · rintro m L S w' cu su ⟨i, hL, rfl, rfl, hb, hi, hno, rfl, rfl, rfl⟩
    refine ⟨_, hL, ?_⟩
    (conv => whnf)
    refine ⟨α, ν, r, rfl, rfl, ?_⟩
    (conv => whnf)
    rw [hν]
    refine And.intro (fun c => ?_) (fun c => ?_)
    · have hlt : i < n := (nI_ltI (by omega) (by omega)).mp c
      obtain ⟨k, hk1, hk2⟩ := hk i hlt
      have hnext : ¬ zP α ν s i → ∀ j, j < i + 1 → ¬ zP α ν s j := fun h j hj => by
        by_cases e : j < i
        · exact hno j e
        · have : j = i := by omega
          rw [this]; exact h
      (conv => whnf)
      refine ⟨α, ν, r, n, i, ν 0, hn, hν, hlt, rfl, rfl, fun d => ?_, fun d => ?_⟩
      · (conv => whnf)
        refine And.intro (fun c => absurd c (show ¬ _ from (by decide))) (fun _ => ?_)
        (conv => whnf)
        refine ⟨α, ν, r, n, i, hn, hν, hlt, rfl, rfl, ?_⟩
        (conv => whnf)
        refine ⟨α, ν, r, k, hk1, by rw [hk2], rfl, ?_⟩
        (conv => whnf)
        have e : (α 9 i).toNatClampNeg = k := by rw [hk2, nI_clamp (by omega)]
        refine And.intro (fun f => ?_) (fun f => ?_)
        · (conv => whnf)
          exact hQ (nI i) (Or.inr ⟨hb, Or.inl ⟨i, hlt, ⟨d, by rw [e]; exact f⟩, hno, rfl⟩⟩)
        · (conv => whnf)
          exact ⟨40 - (i + 1), by omega, i + 1, ⟨rfl, rfl, zi1 rfl, trivial⟩, rfl, rfl, hb, hlt, hnext (fun q => f (by rw [← e]; exact q.2)), rfl, rfl, rfl⟩
      · (conv => whnf)
        refine And.intro (fun _ => ?_) (fun c => absurd (show _ from rfl) c)
        (conv => whnf)
        exact ⟨40 - (i + 1), by omega, i + 1, ⟨rfl, rfl, zi1 rfl, trivial⟩, rfl, rfl, hb, hlt, hnext (fun q => d q.1), rfl, rfl, rfl⟩
    · have hge : i = n := by
        have : ¬ i < n := fun h => c (nI_lt h (by omega))
        omega
      subst hge
      (conv => whnf)
      exact hQ (-1) (Or.inr ⟨hb, Or.inr ⟨hno, rfl⟩⟩)
/-- the finder behind a claim -/
def zfd (f : Nat → Int32) (x : Int32) : Int32 := if x = -1 then -1 else f x.toNatClampNeg
theorem zfd_m (f : Nat → Int32) : zfd f (-1) = -1 := rfl
theorem zfd_j (f : Nat → Int32) {j : Nat} (hj : j < 2 ^ 31) : zfd f (nI j) = f j := by
  unfold zfd
  rw [if_neg (nI_ne_m1 hj), nI_clamp hj]
def sp_X4_finderOfShape : zSpec := fun args w Q _ => ∃ α ν r c s, zCk α ν c ∧ args = [.ref 0, .int s] ∧ w = WX α ν r ∧ ∀ x, zHR α ν c s x → Q (some (.int (zfd (α 8) x))) (WX α ν r)
def pg_X4_finderOfShape : List zE := [(0, .aload_n 0, 1, []), (1, .iload_n 1, 1, []), (2, .invokevirtual 199, 3, []), (5, .istore_n 2, 1, []), (6, .iload_n 2, 1, []), (7, .iconst (-1), 1, []), (8, .if_icmp .ne 7, 3, [15]), (11, .iconst (-1), 1, []), (12, .goto 11, 3, [23]), (15, .aload_n 0, 1, []), (16, .getfield 26, 3, []), (19, .iload_n 2, 1, []), (20, .invokevirtual 196, 3, []), (23, .ireturn, 1, [])]
theorem hp_X4_finderOfShape : ∀ q ∈ pg_X4_finderOfShape, decode cX4_finderOfShape q.1 = .ok (q.2.1, q.2.2.1) ∧ ztg q.2.1 q.1 q.2.2.1 q.2.2.2 = true := zpg_of (by decide +kernel)
def cs_X4_finderOfShape : List (Nat × zCall) := [(199, 0, 2, some 5, 0, 0, false, sp_X4_claimOnShape), (196, 0, 2, some 2, 0, 0, false, sp_X1_finderOf)]
theorem hcs_X4_finderOfShape {l : Launch} (hl0 : l.stackTraces = false) : ∀ q ∈ cs_X4_finderOfShape, zCallable l RX4 5 q := List.forall_mem_cons.mpr ⟨zcV (C := (RX4, TX4, 6)) (ps := [420, 422, 5, 14, 423]) (c_X4_claimOnShape hl0) (by decide +kernel) rfl ⟨rfl, by decide +kernel, by decide +kernel, by decide +kernel⟩ (by decide) (by decide), List.forall_mem_cons.mpr ⟨zcV (C := (RX1, TX1, 4)) (ps := [440, 441, 442, 18, 443]) (c_X1_finderOf hl0) (by decide +kernel) rfl ⟨rfl, by decide +kernel, by decide +kernel, by decide +kernel⟩ (by decide) (by decide), fun _ h => absurd h List.not_mem_nil⟩⟩
def th_X4_finderOfShape : List (Nat × String) := []
theorem hth_X4_finderOfShape : ∀ q ∈ th_X4_finderOfShape, zThrow cX4_finderOfShape RX4 q := fun _ h => absurd h List.not_mem_nil
def kc_X4_finderOfShape : List (Nat × Int32) := []
theorem hkc_X4_finderOfShape : ∀ q ∈ kc_X4_finderOfShape, Cond.constant RX4 q.1 q.2 ∈ zTs := fun _ h => absurd h List.not_mem_nil
def nw_X4_finderOfShape : List (Nat × Nat × Nat × List Value) := []
theorem hnw_X4_finderOfShape : ∀ q ∈ nw_X4_finderOfShape, zNew RX4 q := fun _ h => absurd h List.not_mem_nil
set_option maxHeartbeats 4000000 in
set_option maxRecDepth 20000 in
theorem c_X4_finderOfShape {l : Launch} (hl0 : l.stackTraces = false) : CT l yX4_finderOfShape (.code yX4_finderOfShape cX4_finderOfShape 3 (some .int)) 5 0 0 false sp_X4_finderOfShape := by
  refine zCT_of hl0 (own := RX4) fl_RX4 cs_X4_finderOfShape nw_X4_finderOfShape th_X4_finderOfShape kc_X4_finderOfShape (fun _ => []) false pg_X4_finderOfShape rfl (by decide +kernel) hp_X4_finderOfShape ⟨_, _, rfl, rfl⟩ hfl_RX4 (fun h => nomatch h) (hcs_X4_finderOfShape hl0) hnw_X4_finderOfShape hth_X4_finderOfShape (fun _ _ h => absurd h List.not_mem_nil) hkc_X4_finderOfShape (fun args w Q X v0 hv0 h => ?_)
  obtain ⟨α, ν, r, n, s, hc, rfl, rfl, hQ⟩ := h
  refine ⟨Nat.le_of_ble_eq_true rfl, 60, [], ?_, fun q hq => absurd hq List.not_mem_nil⟩
  (conv => whnf)
  refine ⟨α, ν, r, n, s, hc, rfl, rfl, fun x hx => ?_⟩
  have h1 := hQ x hx
  rcases zHr_of hx with rfl | ⟨j, hj, rfl⟩
  · (conv => whnf)
    refine And.intro (fun _ => ?_) (fun c => absurd (show _ from rfl) c)
    (conv => whnf)
    exact h1
  · have hj2 : j < 2 ^ 31 := by have := hc.1; omega
    (conv => whnf)
    refine And.intro (fun c => absurd c (show ¬ _ from (nI_ne_m1 hj2))) (fun _ => ?_)
    (conv => whnf)
    refine ⟨α, ν, r, n, j, hc.1, hc.2.1, hj, rfl, rfl, ?_⟩
    (conv => whnf)
    rw [zfd_j _ hj2] at h1
    exact h1
/-- the sign of a name -/
def zsg (name : Int32) : Nat := if name = nI 1 then 82 else if name = nI 2 then 87 else if name = nI 3 then 84 else 78
theorem zsg_lt (name : Int32) : zsg name < 128 := by unfold zsg; split; decide; split; decide; split <;> decide
def sp_X4_signOf : zSpec := fun args w Q _ => ∃ name, args = [.int name] ∧ Q (some (.int (nI (zsg name)))) w
def pg_X4_signOf : List zE := [(0, .iload_n 0, 1, []), (1, .tableswitch 36 1 3 #[27, 30, 33], 27, [37, 28, 31, 34]), (28, .bipush 82, 2, [82]), (30, .ireturn, 1, []), (31, .bipush 87, 2, [87]), (33, .ireturn, 1, []), (34, .bipush 84, 2, [84]), (36, .ireturn, 1, []), (37, .bipush 78, 2, [78]), (39, .ireturn, 1, [])]
theorem hp_X4_signOf : ∀ q ∈ pg_X4_signOf, decode cX4_signOf q.1 = .ok (q.2.1, q.2.2.1) ∧ ztg q.2.1 q.1 q.2.2.1 q.2.2.2 = true := zpg_of (by decide +kernel)
def cs_X4_signOf : List (Nat × zCall) := []
theorem hcs_X4_signOf {l : Launch} (hl0 : l.stackTraces = false) : ∀ q ∈ cs_X4_signOf, zCallable l RX4 1 q := fun _ h => absurd h List.not_mem_nil
def th_X4_signOf : List (Nat × String) := []
theorem hth_X4_signOf : ∀ q ∈ th_X4_signOf, zThrow cX4_signOf RX4 q := fun _ h => absurd h List.not_mem_nil
def kc_X4_signOf : List (Nat × Int32) := []
theorem hkc_X4_signOf : ∀ q ∈ kc_X4_signOf, Cond.constant RX4 q.1 q.2 ∈ zTs := fun _ h => absurd h List.not_mem_nil
def nw_X4_signOf : List (Nat × Nat × Nat × List Value) := []
theorem hnw_X4_signOf : ∀ q ∈ nw_X4_signOf, zNew RX4 q := fun _ h => absurd h List.not_mem_nil
set_option maxHeartbeats 4000000 in
set_option maxRecDepth 20000 in
theorem c_X4_signOf {l : Launch} (hl0 : l.stackTraces = false) : CT l yX4_signOf (.code yX4_signOf cX4_signOf 1 (some .char)) 1 0 0 false sp_X4_signOf := by
  refine zCT_of hl0 (own := RX4) fl_RX4 cs_X4_signOf nw_X4_signOf th_X4_signOf kc_X4_signOf (fun _ => []) false pg_X4_signOf rfl (by decide +kernel) hp_X4_signOf ⟨_, _, rfl, rfl⟩ hfl_RX4 (fun h => nomatch h) (hcs_X4_signOf hl0) hnw_X4_signOf hth_X4_signOf (fun _ _ h => absurd h List.not_mem_nil) hkc_X4_signOf (fun args w Q X v0 hv0 h => ?_)
  obtain ⟨name, rfl, hQ⟩ := h
  refine ⟨Nat.le_of_ble_eq_true rfl, 20, [], ?_, fun q hq => absurd hq List.not_mem_nil⟩
  (conv => whnf)
  unfold zsg at hQ
  refine And.intro (fun c => ?_) (fun c => ?_)
  · (conv => whnf)
    rw [if_pos (show name = nI 1 from c)] at hQ
    exact ⟨by decide, hQ⟩
  · rw [if_neg (show ¬ name = nI 1 from c)] at hQ
    refine And.intro (fun d => ?_) (fun d => ?_)
    · (conv => whnf)
      rw [if_pos (show name = nI 2 from d)] at hQ
      exact ⟨by decide, hQ⟩
    · rw [if_neg (show ¬ name = nI 2 from d)] at hQ
      refine And.intro (fun e => ?_) (fun e => ?_)
      · (conv => whnf)
        rw [if_pos (show name = nI 3 from e)] at hQ
        exact ⟨by decide, hQ⟩
      · (conv => whnf)
        rw [if_neg (show ¬ name = nI 3 from e)] at hQ
        exact ⟨by decide, hQ⟩
/-- the title of shape s: its name, its lowest cell, its size, its finder -/
def zTtl (name : Int32) (s size : Nat) (fd : Option Nat) : List Nat := [zsg name] ++ zdg s ++ [120] ++ zdg size ++ (match fd with
  | some f => [102] ++ zdg f
  | none => [])
theorem zTtl_len (name : Int32) (s size f : Nat) (hf : f < 10) : (zTtl name s size (some f)).length ≤ 8 ∧ (zTtl name s size none).length ≤ 6 := by
  have h1 := zdg_len (n := s)
  have h2 := zdg_len (n := size)
  have h3 : (zdg f).length = 1 := by rw [zdg_1 hf]; rfl
  constructor <;> simp only [zTtl, List.length_append, List.length_cons, List.length_nil] <;> omega
def sp_X4_writeTitle : zSpec := fun args w Q _ => ∃ α ν r c s q, zCk α ν c ∧ (∀ j, j < c → ∃ f, f < 6 ∧ α 8 j = nI f) ∧ q ≤ 16 ∧ ν 6 = nI q ∧ s < 96 ∧ zcnt (α 3) (nI s) 96 < 100 ∧ args = [.ref 0, .int (nI s)] ∧ w = WX α ν r ∧
  ∀ x fd y, zHR α ν c (nI s) x → ((x = -1 ∧ fd = none) ∨ ∃ j f, j < c ∧ f < 6 ∧ x = nI j ∧ α 8 j = nI f ∧ fd = some f) → Q none (WX (zu α 14 (zwr (α 14) 0 (zTtl (zNm α (nI s)) s (zcnt (α 3) (nI s) 96) fd))) (zu (zu ν 7 y) 6 (nI (zTtl (zNm α (nI s)) s (zcnt (α 3) (nI s) 96) fd).length)) r)
def pg_X4_writeTitle : List zE := [(0, .aload_n 0, 1, []), (1, .getfield 40, 3, []), (4, .iconst 0, 1, [0]), (5, .invokevirtual 218, 3, []), (8, .aload_n 0, 1, []), (9, .getfield 40, 3, []), (12, .aload_n 0, 1, []), (13, .getfield 12, 3, []), (16, .iload_n 1, 1, []), (17, .invokevirtual 86, 3, []), (20, .invokestatic 221, 3, []), (23, .invokevirtual 224, 3, []), (26, .pop, 1, []), (27, .aload_n 0, 1, []), (28, .getfield 40, 3, []), (31, .iload_n 1, 1, []), (32, .invokevirtual 228, 3, []), (35, .pop, 1, []), (36, .aload_n 0, 1, []), (37, .getfield 40, 3, []), (40, .bipush 120, 2, [120]), (42, .invokevirtual 224, 3, []), (45, .pop, 1, []), (46, .aload_n 0, 1, []), (47, .getfield 40, 3, []), (50, .aload_n 0, 1, []), (51, .getfield 12, 3, []), (54, .iload_n 1, 1, []), (55, .invokevirtual 80, 3, []), (58, .invokevirtual 228, 3, []), (61, .pop, 1, []), (62, .aload_n 0, 1, []), (63, .iload_n 1, 1, []), (64, .invokevirtual 132, 3, []), (67, .istore_n 2, 1, []), (68, .iload_n 2, 1, []), (69, .iconst (-1), 1, []), (70, .if_icmp .eq 22, 3, [92]), (73, .aload_n 0, 1, []), (74, .getfield 40, 3, []), (77, .bipush 102, 2, [102]), (79, .invokevirtual 224, 3, []), (82, .pop, 1, []), (83, .aload_n 0, 1, []), (84, .getfield 40, 3, []), (87, .iload_n 2, 1, []), (88, .invokevirtual 228, 3, []), (91, .pop, 1, []), (92, .return_, 1, [])]
theorem hp_X4_writeTitle : ∀ q ∈ pg_X4_writeTitle, decode cX4_writeTitle q.1 = .ok (q.2.1, q.2.2.1) ∧ ztg q.2.1 q.1 q.2.2.1 q.2.2.2 = true := zpg_of (by decide +kernel)
def cs_X4_writeTitle : List (Nat × zCall) := [(218, 0, 2, some 0, 0, 0, false, sp_J4_setLength_d00df), (86, 0, 2, some 1, 0, 0, false, sp_X0_nameOfShape), (221, 1, 1, none, 0, 0, false, sp_X4_signOf), (224, 0, 2, some 0, 0, 0, false, sp_J4_append_cf468), (228, 0, 2, some 0, 0, 0, false, sp_J4_append_bf812), (80, 0, 2, some 1, 0, 0, false, sp_X0_countCells), (132, 0, 2, some 5, 0, 0, false, sp_X4_finderOfShape)]
theorem hcs_X4_writeTitle {l : Launch} (hl0 : l.stackTraces = false) : ∀ q ∈ cs_X4_writeTitle, zCallable l RX4 6 q := List.forall_mem_cons.mpr ⟨zcV (C := (RJ4, TJ4, 4)) (ps := [644, 645, 646, 21, 647]) (c_J4_setLength_d00df hl0) (by decide +kernel) rfl ⟨rfl, by decide +kernel, by decide +kernel, by decide +kernel⟩ (by decide) (by decide), List.forall_mem_cons.mpr ⟨zcV (C := (RX0, TX0, 8)) (ps := [338, 339, 340, 15, 341]) (c_X0_nameOfShape hl0) (by decide +kernel) rfl ⟨rfl, by decide +kernel, by decide +kernel, by decide +kernel⟩ (by decide) (by decide), List.forall_mem_cons.mpr ⟨zcS (ps := [702, 703, 14, 704]) (c_X4_signOf hl0) (by decide +kernel) ⟨by decide +kernel, by decide +kernel, by decide +kernel⟩ (by decide) (by decide), List.forall_mem_cons.mpr ⟨zcV (C := (RJ4, TJ4, 4)) (ps := [705, 706, 707, 21, 708]) (c_J4_append_cf468 hl0) (by decide +kernel) rfl ⟨rfl, by decide +kernel, by decide +kernel, by decide +kernel⟩ (by decide) (by decide), List.forall_mem_cons.mpr ⟨zcV (C := (RJ4, TJ4, 4)) (ps := [760, 761, 762, 21, 763]) (c_J4_append_bf812 hl0) (by decide +kernel) rfl ⟨rfl, by decide +kernel, by decide +kernel, by decide +kernel⟩ (by decide) (by decide), List.forall_mem_cons.mpr ⟨zcV (C := (RX0, TX0, 8)) (ps := [622, 623, 624, 15, 625]) (c_X0_countCells hl0) (by decide +kernel) rfl ⟨rfl, by decide +kernel, by decide +kernel, by decide +kernel⟩ (by decide) (by decide), List.forall_mem_cons.mpr ⟨zcV (C := (RX4, TX4, 6)) (ps := [416, 418, 4, 14, 419]) (c_X4_finderOfShape hl0) (by decide +kernel) rfl ⟨rfl, by decide +kernel, by decide +kernel, by decide +kernel⟩ (by decide) (by decide), fun _ h => absurd h List.not_mem_nil⟩⟩⟩⟩⟩⟩⟩
def th_X4_writeTitle : List (Nat × String) := []
theorem hth_X4_writeTitle : ∀ q ∈ th_X4_writeTitle, zThrow cX4_writeTitle RX4 q := fun _ h => absurd h List.not_mem_nil
def kc_X4_writeTitle : List (Nat × Int32) := []
theorem hkc_X4_writeTitle : ∀ q ∈ kc_X4_writeTitle, Cond.constant RX4 q.1 q.2 ∈ zTs := fun _ h => absurd h List.not_mem_nil
def nw_X4_writeTitle : List (Nat × Nat × Nat × List Value) := []
theorem hnw_X4_writeTitle : ∀ q ∈ nw_X4_writeTitle, zNew RX4 q := fun _ h => absurd h List.not_mem_nil
set_option maxHeartbeats 4000000 in
set_option maxRecDepth 20000 in
theorem c_X4_writeTitle {l : Launch} (hl0 : l.stackTraces = false) : CT l yX4_writeTitle (.code yX4_writeTitle cX4_writeTitle 3 none) 6 0 0 false sp_X4_writeTitle := by
  refine zCT_of hl0 (own := RX4) fl_RX4 cs_X4_writeTitle nw_X4_writeTitle th_X4_writeTitle kc_X4_writeTitle (fun _ => []) false pg_X4_writeTitle rfl (by decide +kernel) hp_X4_writeTitle ⟨_, _, rfl, rfl⟩ hfl_RX4 (fun h => nomatch h) (hcs_X4_writeTitle hl0) hnw_X4_writeTitle hth_X4_writeTitle (fun _ _ h => absurd h List.not_mem_nil) hkc_X4_writeTitle (fun args w Q X v0 hv0 h => ?_)
  obtain ⟨α, ν, r, c, s, q, hc, hf, hq, hν, hs, hz, rfl, rfl, hQ⟩ := h
  have hd1 := zdg_len (n := s)
  have hd2 := zdg_len (n := zcnt (α 3) (nI s) 96)
  refine ⟨Nat.le_of_ble_eq_true rfl, 60, [], ?_, fun q hq => absurd hq List.not_mem_nil⟩
  (conv => whnf)
  refine ⟨α, ν, r, q, by omega, hν, rfl, rfl, fun y => ?_⟩
  (conv => whnf)
  refine ⟨α, zu (zu ν 7 y) 6 (nI 0), r, nI s, rfl, rfl, ?_⟩
  (conv => whnf)
  refine ⟨_, rfl, ?_⟩
  (conv => whnf)
  refine ⟨α, zu (zu ν 7 y) 6 (nI 0), r, 0, zsg (zNm α (nI s)), by decide, rfl, zsg_lt _, rfl, rfl, ?_⟩
  (conv => whnf)
  refine ⟨zu α 14 (zwr (α 14) 0 [zsg (zNm α (nI s))]), zu (zu ν 7 y) 6 (nI 1), r, 1, s, by omega, by omega, rfl, rfl, rfl, ?_⟩
  (conv => whnf)
  refine ⟨zu α 14 (zwr (zwr (α 14) 0 [zsg (zNm α (nI s))]) 1 (zdg s)), zu (zu ν 7 y) 6 (nI (1 + (zdg s).length)), r, 1 + (zdg s).length, 120, by omega, rfl, by decide, rfl, rfl, ?_⟩
  (conv => whnf)
  refine ⟨zu α 14 (zwr (zwr (zwr (α 14) 0 [zsg (zNm α (nI s))]) 1 (zdg s)) (1 + (zdg s).length) [120]), zu (zu ν 7 y) 6 (nI (1 + (zdg s).length + 1)), r, nI s, rfl, rfl, ?_⟩
  (conv => whnf)
  refine ⟨zu α 14 (zwr (zwr (zwr (α 14) 0 [zsg (zNm α (nI s))]) 1 (zdg s)) (1 + (zdg s).length) [120]), zu (zu ν 7 y) 6 (nI (1 + (zdg s).length + 1)), r, 1 + (zdg s).length + 1, zcnt (α 3) (nI s) 96, hz, by omega, rfl, rfl, rfl, ?_⟩
  (conv => whnf)
  refine ⟨zu α 14 (zwr (zwr (zwr (zwr (α 14) 0 [zsg (zNm α (nI s))]) 1 (zdg s)) (1 + (zdg s).length) [120]) (1 + (zdg s).length + 1) (zdg (zcnt (α 3) (nI s) 96))), zu (zu ν 7 y) 6 (nI (1 + (zdg s).length + 1 + (zdg (zcnt (α 3) (nI s) 96)).length)), r, c, nI s, hc, rfl, rfl, fun x hx => ?_⟩
  have hx2 : zHR α ν c (nI s) x := hx
  have hw4 : ∀ f : Nat → Int32, zwr (zwr (zwr (zwr f 0 [zsg (zNm α (nI s))]) 1 (zdg s)) (1 + (zdg s).length) [120]) (1 + (zdg s).length + 1) (zdg (zcnt (α 3) (nI s) 96)) = zwr f 0 ([zsg (zNm α (nI s))] ++ zdg s ++ [120] ++ zdg (zcnt (α 3) (nI s) 96)) := fun f => by
    rw [zwr_app, zwr_app, zwr_app]
    simp only [List.length_append, List.length_cons, List.length_nil, Nat.zero_add]
  have hl4 : 1 + (zdg s).length + 1 + (zdg (zcnt (α 3) (nI s) 96)).length = ([zsg (zNm α (nI s))] ++ zdg s ++ [120] ++ zdg (zcnt (α 3) (nI s) 96)).length := by
    simp only [List.length_append, List.length_cons, List.length_nil, Nat.zero_add]
  have hQ2 := hQ x
  rw [hw4, hl4]
  have hl5 : ([zsg (zNm α (nI s))] ++ zdg s ++ [120] ++ zdg (zcnt (α 3) (nI s) 96)).length ≤ 6 := by rw [← hl4]; omega
  unfold zTtl at hQ2
  generalize [zsg (zNm α (nI s))] ++ zdg s ++ [120] ++ zdg (zcnt (α 3) (nI s) 96) = T4 at hQ2 hl5 ⊢
  rcases zHr_of hx2 with rfl | ⟨j, hj, rfl⟩
  · rw [show zfd (zu α 14 (zwr (α 14) 0 T4) 8) (-1) = -1 from rfl]
    (conv => whnf)
    refine And.intro (fun _ => ?_) (fun c => absurd (show _ from rfl) c)
    (conv => whnf)
    have h9 := hQ2 none y hx2 (Or.inl ⟨rfl, rfl⟩)
    rw [List.append_nil] at h9
    exact h9
  · have hj2 : j < 2 ^ 31 := by have := hc.1; omega
    obtain ⟨f, f1, f2⟩ := hf j hj
    rw [show zfd (zu α 14 (zwr (α 14) 0 T4) 8) (nI j) = nI f from (zfd_j _ hj2).trans f2]
    (conv => whnf)
    refine And.intro (fun c => absurd c (show ¬ _ from (nI_ne_m1 (show f < 2 ^ 31 by omega)))) (fun _ => ?_)
    (conv => whnf)
    refine ⟨zu α 14 (zwr (α 14) 0 T4), zu (zu ν 7 y) 6 (nI T4.length), r, T4.length, 102, by omega, rfl, by decide, rfl, rfl, ?_⟩
    (conv => whnf)
    have h3 : (zdg f).length = 1 := by rw [zdg_1 (by omega)]; rfl
    refine ⟨zu α 14 (zwr (zwr (α 14) 0 T4) T4.length [102]), zu (zu ν 7 y) 6 (nI (T4.length + 1)), r, T4.length + 1, f, by omega, by omega, rfl, rfl, rfl, ?_⟩
    (conv => whnf)
    have h9 := hQ2 (some f) y hx2 (Or.inr ⟨j, f, hj, f1, rfl, f2, rfl⟩)
    have e5 : zwr (α 14) 0 (T4 ++ ([102] ++ zdg f)) = zwr (zwr (zwr (α 14) 0 T4) T4.length [102]) (T4.length + 1) (zdg f) := by
      rw [zwr_app, zwr_app, Nat.zero_add]
      rfl
    have e6 : (T4 ++ ([102] ++ zdg f)).length = T4.length + 1 + (zdg f).length := by simp; omega
    have h9' : Q none (WX (zu α 14 (zwr (α 14) 0 (T4 ++ ([102] ++ zdg f)))) (zu (zu ν 7 y) 6 (nI (T4 ++ ([102] ++ zdg f)).length)) r) := h9
    rw [e5, e6] at h9'
    exact h9'
