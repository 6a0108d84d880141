/-! ===== EchoRegistry$Chart ===== -/
def zcnt (f : Nat → Int32) (s : Int32) : Nat → Nat
  | 0 => 0
  | n + 1 => zcnt f s n + (if s ≠ -1 ∧ f n = s then 1 else 0)
def zcs (f : Nat → Int32) : Nat → Nat
  | 0 => 0
  | n + 1 => zcs f n + (if f n = nI n then 1 else 0)
def znm (f t m : Nat → Int32) (s : Int32) : Nat → Int32 × Int32
  | 0 => (0, 0)
  | n + 1 => if (s ≠ -1 ∧ f n = s) ∧ (znm f t m s n).1 < t n then (t n, m n) else znm f t m s n
def zmx (f h : Nat → Int32) (s : Int32) : Nat → Int32
  | 0 => 0
  | n + 1 => if s ≠ -1 ∧ f n = s then (if zmx f h s n < h n then h n else zmx f h s n) else zmx f h s n
def znr (ρ : Nat → Nat) (t m : Nat → Int32) : Nat → Int32 × Int32
  | 0 => (0, 0)
  | n + 1 => if (znr ρ t m n).1 < t (ρ n) then (t (ρ n), m (ρ n)) else znr ρ t m n
theorem zcnt_t {f : Nat → Int32} {s : Int32} {n : Nat} (h : s ≠ -1 ∧ f n = s) : zcnt f s (n + 1) = zcnt f s n + 1 := by
  show zcnt f s n + (if s ≠ -1 ∧ f n = s then 1 else 0) = _
  rw [if_pos h]
theorem zcnt_f {f : Nat → Int32} {s : Int32} {n : Nat} (h : ¬ (s ≠ -1 ∧ f n = s)) : zcnt f s (n + 1) = zcnt f s n := by
  show zcnt f s n + (if s ≠ -1 ∧ f n = s then 1 else 0) = _
  rw [if_neg h]; rfl
theorem zcs_t {f : Nat → Int32} {n : Nat} (h : f n = nI n) : zcs f (n + 1) = zcs f n + 1 := by
  show zcs f n + (if f n = nI n then 1 else 0) = _
  rw [if_pos h]
theorem zcs_f {f : Nat → Int32} {n : Nat} (h : ¬ f n = nI n) : zcs f (n + 1) = zcs f n := by
  show zcs f n + (if f n = nI n then 1 else 0) = _
  rw [if_neg h]; rfl
theorem znm_t {f t m : Nat → Int32} {s : Int32} {n : Nat} (h : s ≠ -1 ∧ f n = s) (h2 : (znm f t m s n).1 < t n) : znm f t m s (n + 1) = (t n, m n) := if_pos ⟨h, h2⟩
theorem znm_f {f t m : Nat → Int32} {s : Int32} {n : Nat} (h : ¬ (s ≠ -1 ∧ f n = s) ∨ ¬ (znm f t m s n).1 < t n) : znm f t m s (n + 1) = znm f t m s n := if_neg (fun q => h.elim (fun a => a q.1) (fun a => a q.2))
theorem zmx_t {f h : Nat → Int32} {s : Int32} {n : Nat} (q : s ≠ -1 ∧ f n = s) : zmx f h s (n + 1) = if zmx f h s n < h n then h n else zmx f h s n := if_pos q
theorem zmx_f {f h : Nat → Int32} {s : Int32} {n : Nat} (q : ¬ (s ≠ -1 ∧ f n = s)) : zmx f h s (n + 1) = zmx f h s n := if_neg q
theorem znr_t {ρ : Nat → Nat} {t m : Nat → Int32} {n : Nat} (h2 : (znr ρ t m n).1 < t (ρ n)) : znr ρ t m (n + 1) = (t (ρ n), m (ρ n)) := if_pos h2
theorem znr_f {ρ : Nat → Nat} {t m : Nat → Int32} {n : Nat} (h2 : ¬ (znr ρ t m n).1 < t (ρ n)) : znr ρ t m (n + 1) = znr ρ t m n := if_neg h2
/-- one head, one way out of the list of loops -/
theorem zone {P : Nat × (Nat → zK) → Prop} {q0 : Nat × (Nat → zK)} (h : P q0) : ∀ q ∈ [q0], P q := fun q hq => by
  rw [List.mem_singleton.mp hq]; exact h
theorem zi1 {a b : Nat} (e : b = a + 1) : (some (Value.int (nI a + nI 1))) = some (Value.int (nI b)) := by
  rw [nI_add, e]
def sp_X0_shapeAt : zSpec := fun args w Q _ => ∃ α ν r k, k < 96 ∧ args = [.ref 1, .int (nI k)] ∧ w = WX α ν r ∧ Q (some (.int (α 3 k))) (WX α ν r)
def pg_X0_shapeAt : List zE := [(0, .iload_n 1, 1, []), (1, .invokestatic 43, 3, []), (4, .ifCond .eq 12, 3, [16]), (7, .aload_n 0, 1, []), (8, .getfield 21, 3, []), (11, .iload_n 1, 1, []), (12, .iaload, 1, []), (13, .goto 4, 3, [17]), (16, .iconst (-1), 1, []), (17, .ireturn, 1, [])]
theorem hp_X0_shapeAt : ∀ q ∈ pg_X0_shapeAt, decode cX0_shapeAt q.1 = .ok (q.2.1, q.2.2.1) ∧ ztg q.2.1 q.1 q.2.2.1 q.2.2.2 = true := zpg_of (by decide +kernel)
def cs_X0_shapeAt : List (Nat × zCall) := [(43, 1, 1, none, 0, 0, false, sp_X4_isCell)]
theorem hcs_X0_shapeAt {l : Launch} (hl0 : l.stackTraces = false) : ∀ q ∈ cs_X0_shapeAt, zCallable l RX0 2 q := List.forall_mem_cons.mpr ⟨zcN (ps := [194, 14, 195]) (host := RX4) (c_X4_isCell hl0) (by decide +kernel) (by decide +kernel) ⟨by decide +kernel, by decide +kernel, by decide +kernel⟩ (by decide) (by decide), fun _ h => absurd h List.not_mem_nil⟩
def th_X0_shapeAt : List (Nat × String) := []
theorem hth_X0_shapeAt : ∀ q ∈ th_X0_shapeAt, zThrow cX0_shapeAt RX0 q := fun _ h => absurd h List.not_mem_nil
def kc_X0_shapeAt : List (Nat × Int32) := []
theorem hkc_X0_shapeAt : ∀ q ∈ kc_X0_shapeAt, Cond.constant RX0 q.1 q.2 ∈ zTs := fun _ h => absurd h List.not_mem_nil
def nw_X0_shapeAt : List (Nat × Nat × Nat × List Value) := []
theorem hnw_X0_shapeAt : ∀ q ∈ nw_X0_shapeAt, zNew RX0 q := fun _ h => absurd h List.not_mem_nil
set_option maxHeartbeats 4000000 in
set_option maxRecDepth 20000 in
theorem c_X0_shapeAt {l : Launch} (hl0 : l.stackTraces = false) : CT l yX0_shapeAt (.code yX0_shapeAt cX0_shapeAt 2 (some .int)) 2 0 0 false sp_X0_shapeAt := by
  refine zCT_of hl0 (own := RX0) fl_RX0 cs_X0_shapeAt nw_X0_shapeAt th_X0_shapeAt kc_X0_shapeAt (fun _ => []) false pg_X0_shapeAt rfl (by decide +kernel) hp_X0_shapeAt ⟨_, _, rfl, rfl⟩ hfl_RX0 (fun h => nomatch h) (hcs_X0_shapeAt hl0) hnw_X0_shapeAt hth_X0_shapeAt (fun _ _ h => absurd h List.not_mem_nil) hkc_X0_shapeAt (fun args w Q X v0 hv0 h => ?_)
  obtain ⟨α, ν, r, k, hk, rfl, rfl, hQ⟩ := h
  refine ⟨Nat.le_of_ble_eq_true rfl, 20, [], ?_, fun q hq => absurd hq List.not_mem_nil⟩
  (conv => whnf)
  refine ⟨_, rfl, fun _ => ?_, fun c => absurd (vp_in_nI hk (by decide)) c⟩
  (conv => whnf)
  refine And.intro (fun c => absurd c (show ¬ _ from (by decide))) (fun _ => ?_)
  (conv => whnf)
  refine ⟨vp_in_nI hk (by decide), ?_⟩
  (conv => whnf)
  rw [nI_clamp (by omega)]
  exact hQ
def sp_X0_isIn : zSpec := fun args w Q _ => ∃ α ν r k s, k < 96 ∧ args = [.ref 1, .int (nI k), .int s] ∧ w = WX α ν r ∧ zB Q (s ≠ -1 ∧ α 3 k = s) (WX α ν r)
def pg_X0_isIn : List zE := [(0, .iload_n 2, 1, []), (1, .iconst (-1), 1, []), (2, .if_icmp .eq 24, 3, [26]), (5, .iload_n 1, 1, []), (6, .invokestatic 43, 3, []), (9, .ifCond .eq 17, 3, [26]), (12, .aload_n 0, 1, []), (13, .getfield 21, 3, []), (16, .iload_n 1, 1, []), (17, .iaload, 1, []), (18, .iload_n 2, 1, []), (19, .if_icmp .ne 7, 3, [26]), (22, .iconst 1, 1, [1]), (23, .goto 4, 3, [27]), (26, .iconst 0, 1, [0]), (27, .ireturn, 1, [])]
theorem hp_X0_isIn : ∀ q ∈ pg_X0_isIn, decode cX0_isIn q.1 = .ok (q.2.1, q.2.2.1) ∧ ztg q.2.1 q.1 q.2.2.1 q.2.2.2 = true := zpg_of (by decide +kernel)
def cs_X0_isIn : List (Nat × zCall) := [(43, 1, 1, none, 0, 0, false, sp_X4_isCell)]
theorem hcs_X0_isIn {l : Launch} (hl0 : l.stackTraces = false) : ∀ q ∈ cs_X0_isIn, zCallable l RX0 2 q := List.forall_mem_cons.mpr ⟨zcN (ps := [194, 14, 195]) (host := RX4) (c_X4_isCell hl0) (by decide +kernel) (by decide +kernel) ⟨by decide +kernel, by decide +kernel, by decide +kernel⟩ (by decide) (by decide), fun _ h => absurd h List.not_mem_nil⟩
def th_X0_isIn : List (Nat × String) := []
theorem hth_X0_isIn : ∀ q ∈ th_X0_isIn, zThrow cX0_isIn RX0 q := fun _ h => absurd h List.not_mem_nil
def kc_X0_isIn : List (Nat × Int32) := []
theorem hkc_X0_isIn : ∀ q ∈ kc_X0_isIn, Cond.constant RX0 q.1 q.2 ∈ zTs := fun _ h => absurd h List.not_mem_nil
def nw_X0_isIn : List (Nat × Nat × Nat × List Value) := []
theorem hnw_X0_isIn : ∀ q ∈ nw_X0_isIn, zNew RX0 q := fun _ h => absurd h List.not_mem_nil
set_option maxHeartbeats 4000000 in
set_option maxRecDepth 20000 in
theorem c_X0_isIn {l : Launch} (hl0 : l.stackTraces = false) : CT l yX0_isIn (.code yX0_isIn cX0_isIn 3 (some .boolean)) 2 0 0 false sp_X0_isIn := by
  refine zCT_of hl0 (own := RX0) fl_RX0 cs_X0_isIn nw_X0_isIn th_X0_isIn kc_X0_isIn (fun _ => []) false pg_X0_isIn rfl (by decide +kernel) hp_X0_isIn ⟨_, _, rfl, rfl⟩ hfl_RX0 (fun h => nomatch h) (hcs_X0_isIn hl0) hnw_X0_isIn hth_X0_isIn (fun _ _ h => absurd h List.not_mem_nil) hkc_X0_isIn (fun args w Q X v0 hv0 h => ?_)
  obtain ⟨α, ν, r, k, s, hk, rfl, rfl, h1, h2⟩ := h
  refine ⟨Nat.le_of_ble_eq_true rfl, 20, [], ?_, fun q hq => absurd hq List.not_mem_nil⟩
  (conv => whnf)
  refine And.intro (fun c => ?_) (fun c => ?_)
  · (conv => whnf)
    exact ⟨Or.inl rfl, h2 (fun q => q.1 c)⟩
  · (conv => whnf)
    refine ⟨_, rfl, fun _ => ?_, fun c => absurd (vp_in_nI hk (by decide)) c⟩
    (conv => whnf)
    refine And.intro (fun c => absurd c (show ¬ _ from (by decide))) (fun _ => ?_)
    (conv => whnf)
    refine ⟨vp_in_nI hk (by decide), ?_⟩
    (conv => whnf)
    rw [nI_clamp (by omega)]
    refine And.intro (fun d => ?_) (fun d => ?_)
    · (conv => whnf)
      exact ⟨Or.inr rfl, h1 ⟨c, d⟩⟩
    · (conv => whnf)
      exact ⟨Or.inl rfl, h2 (fun q => d q.2)⟩
def sp_X0_countShapes : zSpec := fun args w Q _ => ∃ α ν r, args = [.ref 1] ∧ w = WX α ν r ∧ Q (some (.int (nI (zcs (α 3) 96)))) (WX α ν r)
def pg_X0_countShapes : List zE := [(0, .iconst 0, 1, [0]), (1, .istore_n 1, 1, []), (2, .iconst 0, 1, [0]), (3, .istore_n 2, 1, []), (4, .iload_n 2, 1, []), (5, .bipush 96, 2, [96]), (7, .if_icmp .ge 22, 3, [29]), (10, .aload_n 0, 1, []), (11, .getfield 21, 3, []), (14, .iload_n 2, 1, []), (15, .iaload, 1, []), (16, .iload_n 2, 1, []), (17, .if_icmp .ne 6, 3, [23]), (20, .iinc 1 1, 3, [1]), (23, .iinc 2 1, 3, [1]), (26, .goto (-22), 3, [4]), (29, .iload_n 1, 1, []), (30, .ireturn, 1, [])]
theorem hp_X0_countShapes : ∀ q ∈ pg_X0_countShapes, decode cX0_countShapes q.1 = .ok (q.2.1, q.2.2.1) ∧ ztg q.2.1 q.1 q.2.2.1 q.2.2.2 = true := zpg_of (by decide +kernel)
def cs_X0_countShapes : List (Nat × zCall) := []
theorem hcs_X0_countShapes {l : Launch} (hl0 : l.stackTraces = false) : ∀ q ∈ cs_X0_countShapes, zCallable l RX0 1 q := fun _ h => absurd h List.not_mem_nil
def th_X0_countShapes : List (Nat × String) := []
theorem hth_X0_countShapes : ∀ q ∈ th_X0_countShapes, zThrow cX0_countShapes RX0 q := fun _ h => absurd h List.not_mem_nil
def kc_X0_countShapes : List (Nat × Int32) := []
theorem hkc_X0_countShapes : ∀ q ∈ kc_X0_countShapes, Cond.constant RX0 q.1 q.2 ∈ zTs := fun _ h => absurd h List.not_mem_nil
def nw_X0_countShapes : List (Nat × Nat × Nat × List Value) := []
theorem hnw_X0_countShapes : ∀ q ∈ nw_X0_countShapes, zNew RX0 q := fun _ h => absurd h List.not_mem_nil
set_option maxHeartbeats 4000000 in
set_option maxRecDepth 20000 in
theorem c_X0_countShapes {l : Launch} (hl0 : l.stackTraces = false) : CT l yX0_countShapes (.code yX0_countShapes cX0_countShapes 3 (some .int)) 1 0 0 false sp_X0_countShapes := by
  refine zCT_of hl0 (own := RX0) fl_RX0 cs_X0_countShapes nw_X0_countShapes th_X0_countShapes kc_X0_countShapes (fun _ => []) false pg_X0_countShapes rfl (by decide +kernel) hp_X0_countShapes ⟨_, _, rfl, rfl⟩ hfl_RX0 (fun h => nomatch h) (hcs_X0_countShapes hl0) hnw_X0_countShapes hth_X0_countShapes (fun _ _ h => absurd h List.not_mem_nil) hkc_X0_countShapes (fun args w Q X v0 hv0 h => ?_)
  obtain ⟨α, ν, r, rfl, rfl, hQ⟩ := h
  refine ⟨Nat.le_of_ble_eq_true rfl, 60, [(4, fun m L S w' cu su => ∃ i, zsub [(0, .ref 1), (1, .int (nI (zcs (α 3) i))), (2, .int (nI i))] L ∧ S = [] ∧ w' = WX α ν r ∧ i ≤ 96 ∧ m = 96 - i ∧ cu = 0 ∧ su = 0)], ?_, zone ?_⟩
  · (conv => whnf)
    exact ⟨96, 0, ⟨rfl, rfl, rfl, trivial⟩, rfl, rfl, by decide, rfl, rfl, rfl⟩
  · rintro m L S w' cu su ⟨i, hL, rfl, rfl, hi, rfl, rfl, rfl⟩
    refine ⟨_, hL, ?_⟩
    (conv => whnf)
    refine And.intro (fun c => ?_) (fun c => ?_)
    · have hlt : i < 96 := (nI_ltI (by omega) (by omega)).mp c
      (conv => whnf)
      refine ⟨vp_in_nI hlt (by decide), ?_⟩
      (conv => whnf)
      rw [nI_clamp (by omega)]
      refine And.intro (fun d => ?_) (fun d => ?_)
      · (conv => whnf)
        exact ⟨96 - (i + 1), by omega, i + 1, ⟨rfl, zi1 (zcs_t d), zi1 rfl, trivial⟩, rfl, rfl, by omega, rfl, rfl, rfl⟩
      · (conv => whnf)
        exact ⟨96 - (i + 1), by omega, i + 1, ⟨rfl, by rw [zcs_f d]; rfl, zi1 rfl, trivial⟩, rfl, rfl, by omega, rfl, rfl, rfl⟩
    · have hge : i = 96 := by
        have : ¬ i < 96 := fun h => c (nI_lt h (by decide))
        omega
      subst hge
      (conv => whnf)
      exact hQ
def sp_X0_countCells : zSpec := fun args w Q _ => ∃ α ν r s, args = [.ref 1, .int s] ∧ w = WX α ν r ∧ Q (some (.int (nI (zcnt (α 3) s 96)))) (WX α ν r)
def pg_X0_countCells : List zE := [(0, .iconst 0, 1, [0]), (1, .istore_n 2, 1, []), (2, .iconst 0, 1, [0]), (3, .istore_n 3, 1, []), (4, .iload_n 3, 1, []), (5, .bipush 96, 2, [96]), (7, .if_icmp .ge 21, 3, [28]), (10, .aload_n 0, 1, []), (11, .iload_n 3, 1, []), (12, .iload_n 1, 1, []), (13, .invokevirtual 62, 3, []), (16, .ifCond .eq 6, 3, [22]), (19, .iinc 2 1, 3, [1]), (22, .iinc 3 1, 3, [1]), (25, .goto (-21), 3, [4]), (28, .iload_n 2, 1, []), (29, .ireturn, 1, [])]
theorem hp_X0_countCells : ∀ q ∈ pg_X0_countCells, decode cX0_countCells q.1 = .ok (q.2.1, q.2.2.1) ∧ ztg q.2.1 q.1 q.2.2.1 q.2.2.2 = true := zpg_of (by decide +kernel)
def cs_X0_countCells : List (Nat × zCall) := [(62, 0, 3, some 1, 0, 0, false, sp_X0_isIn)]
theorem hcs_X0_countCells {l : Launch} (hl0 : l.stackTraces = false) : ∀ q ∈ cs_X0_countCells, zCallable l RX0 3 q := List.forall_mem_cons.mpr ⟨zcV (C := (RX0, TX0, 8)) (ps := [342, 344, 3, 15, 345]) (c_X0_isIn hl0) (by decide +kernel) rfl ⟨rfl, by decide +kernel, by decide +kernel, by decide +kernel⟩ (by decide) (by decide), fun _ h => absurd h List.not_mem_nil⟩
def th_X0_countCells : List (Nat × String) := []
theorem hth_X0_countCells : ∀ q ∈ th_X0_countCells, zThrow cX0_countCells RX0 q := fun _ h => absurd h List.not_mem_nil
def kc_X0_countCells : List (Nat × Int32) := []
theorem hkc_X0_countCells : ∀ q ∈ kc_X0_countCells, Cond.constant RX0 q.1 q.2 ∈ zTs := fun _ h => absurd h List.not_mem_nil
def nw_X0_countCells : List (Nat × Nat × Nat × List Value) := []
theorem hnw_X0_countCells : ∀ q ∈ nw_X0_countCells, zNew RX0 q := fun _ h => absurd h List.not_mem_nil
set_option maxHeartbeats 4000000 in
set_option maxRecDepth 20000 in
theorem c_X0_countCells {l : Launch} (hl0 : l.stackTraces = false) : CT l yX0_countCells (.code yX0_countCells cX0_countCells 4 (some .int)) 3 0 0 false sp_X0_countCells := by
  refine zCT_of hl0 (own := RX0) fl_RX0 cs_X0_countCells nw_X0_countCells th_X0_countCells kc_X0_countCells (fun _ => []) false pg_X0_countCells rfl (by decide +kernel) hp_X0_countCells ⟨_, _, rfl, rfl⟩ hfl_RX0 (fun h => nomatch h) (hcs_X0_countCells hl0) hnw_X0_countCells hth_X0_countCells (fun _ _ h => absurd h List.not_mem_nil) hkc_X0_countCells (fun args w Q X v0 hv0 h => ?_)
  obtain ⟨α, ν, r, s, rfl, rfl, hQ⟩ := h
  refine ⟨Nat.le_of_ble_eq_true rfl, 60, [(4, fun m L S w' cu su => ∃ i, zsub [(0, .ref 1), (1, .int s), (2, .int (nI (zcnt (α 3) s i))), (3, .int (nI i))] L ∧ S = [] ∧ w' = WX α ν r ∧ i ≤ 96 ∧ m = 96 - i ∧ cu = 0 ∧ su = 0)], ?_, zone ?_⟩
  · (conv => whnf)
    exact ⟨96, 0, ⟨rfl, rfl, rfl, rfl, trivial⟩, rfl, rfl, by decide, rfl, rfl, rfl⟩
  · rintro m L S w' cu su ⟨i, hL, rfl, rfl, hi, rfl, rfl, rfl⟩
    refine ⟨_, hL, ?_⟩
    (conv => whnf)
    refine And.intro (fun c => ?_) (fun c => ?_)
    · have hlt : i < 96 := (nI_ltI (by omega) (by omega)).mp c
      (conv => whnf)
      refine ⟨α, ν, r, i, s, hlt, rfl, rfl, fun d => ?_, fun d => ?_⟩
      · (conv => whnf)
        refine And.intro (fun c => absurd c (show ¬ _ from (by decide))) (fun _ => ?_)
        (conv => whnf)
        exact ⟨96 - (i + 1), by omega, i + 1, ⟨rfl, rfl, zi1 (zcnt_t d), zi1 rfl, trivial⟩, rfl, rfl, by omega, rfl, rfl, rfl⟩
      · (conv => whnf)
        refine And.intro (fun _ => ?_) (fun c => absurd (show _ from rfl) c)
        (conv => whnf)
        exact ⟨96 - (i + 1), by omega, i + 1, ⟨rfl, rfl, by rw [zcnt_f d]; rfl, zi1 rfl, trivial⟩, rfl, rfl, by omega, rfl, rfl, rfl⟩
    · have hge : i = 96 := by
        have : ¬ i < 96 := fun h => c (nI_lt h (by decide))
        omega
      subst hge
      (conv => whnf)
      exact hQ
def sp_X0_nameOfShape : zSpec := fun args w Q _ => ∃ α ν r s, args = [.ref 1, .int s] ∧ w = WX α ν r ∧ Q (some (.int (znm (α 3) (α 2) (α 1) s 96).2)) (WX α ν r)
def pg_X0_nameOfShape : List zE := [(0, .iconst 0, 1, [0]), (1, .istore_n 2, 1, []), (2, .iconst 0, 1, [0]), (3, .istore_n 3, 1, []), (4, .iconst 0, 1, [0]), (5, .istore 4, 2, []), (7, .iload 4, 2, []), (9, .bipush 96, 2, [96]), (11, .if_icmp .ge 46, 3, [57]), (14, .aload_n 0, 1, []), (15, .iload 4, 2, []), (17, .iload_n 1, 1, []), (18, .invokevirtual 62, 3, []), (21, .ifCond .eq 30, 3, [51]), (24, .aload_n 0, 1, []), (25, .getfield 18, 3, []), (28, .iload 4, 2, []), (30, .iaload, 1, []), (31, .iload_n 2, 1, []), (32, .if_icmp .le 19, 3, [51]), (35, .aload_n 0, 1, []), (36, .getfield 18, 3, []), (39, .iload 4, 2, []), (41, .iaload, 1, []), (42, .istore_n 2, 1, []), (43, .aload_n 0, 1, []), (44, .getfield 15, 3, []), (47, .iload 4, 2, []), (49, .iaload, 1, []), (50, .istore_n 3, 1, []), (51, .iinc 4 1, 3, [1]), (54, .goto (-47), 3, [7]), (57, .iload_n 3, 1, []), (58, .ireturn, 1, [])]
theorem hp_X0_nameOfShape : ∀ q ∈ pg_X0_nameOfShape, decode cX0_nameOfShape q.1 = .ok (q.2.1, q.2.2.1) ∧ ztg q.2.1 q.1 q.2.2.1 q.2.2.2 = true := zpg_of (by decide +kernel)
def cs_X0_nameOfShape : List (Nat × zCall) := [(62, 0, 3, some 1, 0, 0, false, sp_X0_isIn)]
theorem hcs_X0_nameOfShape {l : Launch} (hl0 : l.stackTraces = false) : ∀ q ∈ cs_X0_nameOfShape, zCallable l RX0 3 q := List.forall_mem_cons.mpr ⟨zcV (C := (RX0, TX0, 8)) (ps := [342, 344, 3, 15, 345]) (c_X0_isIn hl0) (by decide +kernel) rfl ⟨rfl, by decide +kernel, by decide +kernel, by decide +kernel⟩ (by decide) (by decide), fun _ h => absurd h List.not_mem_nil⟩
def th_X0_nameOfShape : List (Nat × String) := []
theorem hth_X0_nameOfShape : ∀ q ∈ th_X0_nameOfShape, zThrow cX0_nameOfShape RX0 q := fun _ h => absurd h List.not_mem_nil
def kc_X0_nameOfShape : List (Nat × Int32) := []
theorem hkc_X0_nameOfShape : ∀ q ∈ kc_X0_nameOfShape, Cond.constant RX0 q.1 q.2 ∈ zTs := fun _ h => absurd h List.not_mem_nil
def nw_X0_nameOfShape : List (Nat × Nat × Nat × List Value) := []
theorem hnw_X0_nameOfShape : ∀ q ∈ nw_X0_nameOfShape, zNew RX0 q := fun _ h => absurd h List.not_mem_nil
set_option maxHeartbeats 4000000 in
set_option maxRecDepth 20000 in
theorem c_X0_nameOfShape {l : Launch} (hl0 : l.stackTraces = false) : CT l yX0_nameOfShape (.code yX0_nameOfShape cX0_nameOfShape 5 (some .int)) 3 0 0 false sp_X0_nameOfShape := by
  refine zCT_of hl0 (own := RX0) fl_RX0 cs_X0_nameOfShape nw_X0_nameOfShape th_X0_nameOfShape kc_X0_nameOfShape (fun _ => []) false pg_X0_nameOfShape rfl (by decide +kernel) hp_X0_nameOfShape ⟨_, _, rfl, rfl⟩ hfl_RX0 (fun h => nomatch h) (hcs_X0_nameOfShape hl0) hnw_X0_nameOfShape hth_X0_nameOfShape (fun _ _ h => absurd h List.not_mem_nil) hkc_X0_nameOfShape (fun args w Q X v0 hv0 h => ?_)
  obtain ⟨α, ν, r, s, rfl, rfl, hQ⟩ := h
  refine ⟨Nat.le_of_ble_eq_true rfl, 60, [(7, fun m L S w' cu su => ∃ i, zsub [(0, .ref 1), (1, .int s), (2, .int (znm (α 3) (α 2) (α 1) s i).1), (3, .int (znm (α 3) (α 2) (α 1) s i).2), (4, .int (nI i))] L ∧ S = [] ∧ w' = WX α ν r ∧ i ≤ 96 ∧ m = 96 - i ∧ cu = 0 ∧ su = 0)], ?_, zone ?_⟩
  · (conv => whnf)
    exact ⟨96, 0, ⟨rfl, rfl, rfl, rfl, rfl, trivial⟩, rfl, rfl, by decide, rfl, rfl, rfl⟩
  · rintro m L S w' cu su ⟨i, hL, rfl, rfl, hi, rfl, rfl, rfl⟩
    refine ⟨_, hL, ?_⟩
    (conv => whnf)
    refine And.intro (fun c => ?_) (fun c => ?_)
    · have hlt : i < 96 := (nI_ltI (by omega) (by omega)).mp c
      (conv => whnf)
      refine ⟨α, ν, r, i, s, hlt, rfl, rfl, fun d => ?_, fun d => ?_⟩
      · (conv => whnf)
        refine And.intro (fun c => absurd c (show ¬ _ from (by decide))) (fun _ => ?_)
        (conv => whnf)
        refine ⟨vp_in_nI hlt (by decide), ?_⟩
        (conv => whnf)
        rw [nI_clamp (by omega)]
        refine And.intro (fun e => ?_) (fun e => ?_)
        · (conv => whnf)
          refine ⟨vp_in_nI hlt (by decide), ?_⟩
          (conv => whnf)
          refine ⟨vp_in_nI hlt (by decide), ?_⟩
          (conv => whnf)
          rw [nI_clamp (by omega)]
          exact ⟨96 - (i + 1), by omega, i + 1, ⟨rfl, rfl, by rw [znm_t d e]; rfl, by rw [znm_t d e]; rfl, zi1 rfl, trivial⟩, rfl, rfl, by omega, rfl, rfl, rfl⟩
        · (conv => whnf)
          exact ⟨96 - (i + 1), by omega, i + 1, ⟨rfl, rfl, by rw [znm_f (Or.inr e)]; rfl, by rw [znm_f (Or.inr e)]; rfl, zi1 rfl, trivial⟩, rfl, rfl, by omega, rfl, rfl, rfl⟩
      · (conv => whnf)
        refine And.intro (fun _ => ?_) (fun c => absurd (show _ from rfl) c)
        (conv => whnf)
        exact ⟨96 - (i + 1), by omega, i + 1, ⟨rfl, rfl, by rw [znm_f (Or.inl d)]; rfl, by rw [znm_f (Or.inl d)]; rfl, zi1 rfl, trivial⟩, rfl, rfl, by omega, rfl, rfl, rfl⟩
    · have hge : i = 96 := by
        have : ¬ i < 96 := fun h => c (nI_lt h (by decide))
        omega
      subst hge
      (conv => whnf)
      exact hQ
def sp_X0_greatestHeight : zSpec := fun args w Q _ => ∃ α ν r s, args = [.ref 1, .int s] ∧ w = WX α ν r ∧ Q (some (.int (zmx (α 3) (α 0) s 96))) (WX α ν r)
def pg_X0_greatestHeight : List zE := [(0, .iconst 0, 1, [0]), (1, .istore_n 2, 1, []), (2, .iconst 0, 1, [0]), (3, .istore_n 3, 1, []), (4, .iload_n 3, 1, []), (5, .bipush 96, 2, [96]), (7, .if_icmp .ge 29, 3, [36]), (10, .aload_n 0, 1, []), (11, .iload_n 3, 1, []), (12, .iload_n 1, 1, []), (13, .invokevirtual 62, 3, []), (16, .ifCond .eq 14, 3, [30]), (19, .iload_n 2, 1, []), (20, .aload_n 0, 1, []), (21, .getfield 9, 3, []), (24, .iload_n 3, 1, []), (25, .iaload, 1, []), (26, .invokestatic 66, 3, []), (29, .istore_n 2, 1, []), (30, .iinc 3 1, 3, [1]), (33, .goto (-29), 3, [4]), (36, .iload_n 2, 1, []), (37, .ireturn, 1, [])]
theorem hp_X0_greatestHeight : ∀ q ∈ pg_X0_greatestHeight, decode cX0_greatestHeight q.1 = .ok (q.2.1, q.2.2.1) ∧ ztg q.2.1 q.1 q.2.2.1 q.2.2.2 = true := zpg_of (by decide +kernel)
def cs_X0_greatestHeight : List (Nat × zCall) := [(62, 0, 3, some 1, 0, 0, false, sp_X0_isIn), (66, 1, 2, none, 0, 0, false, zspMax)]
theorem hcs_X0_greatestHeight {l : Launch} (hl0 : l.stackTraces = false) : ∀ q ∈ cs_X0_greatestHeight, zCallable l RX0 3 q := List.forall_mem_cons.mpr ⟨zcV (C := (RX0, TX0, 8)) (ps := [342, 344, 3, 15, 345]) (c_X0_isIn hl0) (by decide +kernel) rfl ⟨rfl, by decide +kernel, by decide +kernel, by decide +kernel⟩ (by decide) (by decide), List.forall_mem_cons.mpr ⟨zcMax (ps := [634, 370, 29, 371]) (by decide +kernel) (by decide), fun _ h => absurd h List.not_mem_nil⟩⟩
def th_X0_greatestHeight : List (Nat × String) := []
theorem hth_X0_greatestHeight : ∀ q ∈ th_X0_greatestHeight, zThrow cX0_greatestHeight RX0 q := fun _ h => absurd h List.not_mem_nil
def kc_X0_greatestHeight : List (Nat × Int32) := []
theorem hkc_X0_greatestHeight : ∀ q ∈ kc_X0_greatestHeight, Cond.constant RX0 q.1 q.2 ∈ zTs := fun _ h => absurd h List.not_mem_nil
def nw_X0_greatestHeight : List (Nat × Nat × Nat × List Value) := []
theorem hnw_X0_greatestHeight : ∀ q ∈ nw_X0_greatestHeight, zNew RX0 q := fun _ h => absurd h List.not_mem_nil
set_option maxHeartbeats 4000000 in
set_option maxRecDepth 20000 in
theorem c_X0_greatestHeight {l : Launch} (hl0 : l.stackTraces = false) : CT l yX0_greatestHeight (.code yX0_greatestHeight cX0_greatestHeight 4 (some .int)) 3 0 0 false sp_X0_greatestHeight := by
  refine zCT_of hl0 (own := RX0) fl_RX0 cs_X0_greatestHeight nw_X0_greatestHeight th_X0_greatestHeight kc_X0_greatestHeight (fun _ => []) false pg_X0_greatestHeight rfl (by decide +kernel) hp_X0_greatestHeight ⟨_, _, rfl, rfl⟩ hfl_RX0 (fun h => nomatch h) (hcs_X0_greatestHeight hl0) hnw_X0_greatestHeight hth_X0_greatestHeight (fun _ _ h => absurd h List.not_mem_nil) hkc_X0_greatestHeight (fun args w Q X v0 hv0 h => ?_)
  obtain ⟨α, ν, r, s, rfl, rfl, hQ⟩ := h
  refine ⟨Nat.le_of_ble_eq_true rfl, 60, [(4, fun m L S w' cu su => ∃ i, zsub [(0, .ref 1), (1, .int s), (2, .int (zmx (α 3) (α 0) s i)), (3, .int (nI i))] L ∧ S = [] ∧ w' = WX α ν r ∧ i ≤ 96 ∧ m = 96 - i ∧ cu = 0 ∧ su = 0)], ?_, zone ?_⟩
  · (conv => whnf)
    exact ⟨96, 0, ⟨rfl, rfl, rfl, rfl, trivial⟩, rfl, rfl, by decide, rfl, rfl, rfl⟩
  · rintro m L S w' cu su ⟨i, hL, rfl, rfl, hi, rfl, rfl, rfl⟩
    refine ⟨_, hL, ?_⟩
    (conv => whnf)
    refine And.intro (fun c => ?_) (fun c => ?_)
    · have hlt : i < 96 := (nI_ltI (by omega) (by omega)).mp c
      (conv => whnf)
      refine ⟨α, ν, r, i, s, hlt, rfl, rfl, fun d => ?_, fun d => ?_⟩
      · (conv => whnf)
        refine And.intro (fun c => absurd c (show ¬ _ from (by decide))) (fun _ => ?_)
        (conv => whnf)
        refine ⟨vp_in_nI hlt (by decide), ?_⟩
        (conv => whnf)
        refine ⟨_, _, rfl, ?_⟩
        (conv => whnf)
        rw [nI_clamp (by omega)]
        exact ⟨96 - (i + 1), by omega, i + 1, ⟨rfl, rfl, by rw [zmx_t d]; rfl, zi1 rfl, trivial⟩, rfl, rfl, by omega, rfl, rfl, rfl⟩
      · (conv => whnf)
        refine And.intro (fun _ => ?_) (fun c => absurd (show _ from rfl) c)
        (conv => whnf)
        exact ⟨96 - (i + 1), by omega, i + 1, ⟨rfl, rfl, by rw [zmx_f d]; rfl, zi1 rfl, trivial⟩, rfl, rfl, by omega, rfl, rfl, rfl⟩
    · have hge : i = 96 := by
        have : ¬ i < 96 := fun h => c (nI_lt h (by decide))
        omega
      subst hge
      (conv => whnf)
      exact hQ
def sp_X0_isReached : zSpec := fun args w Q _ => ∃ α ν r x n, n ≤ 96 ∧ args = [.ref 1, .int x, .int (nI n)] ∧ w = WX α ν r ∧ zB Q (∃ j, j < n ∧ α 4 j = x) (WX α ν r)
def pg_X0_isReached : List zE := [(0, .iconst 0, 1, [0]), (1, .istore_n 3, 1, []), (2, .iload_n 3, 1, []), (3, .iload_n 2, 1, []), (4, .if_icmp .ge 27, 3, [31]), (7, .iload_n 3, 1, []), (8, .bipush 96, 2, [96]), (10, .if_icmp .ge 21, 3, [31]), (13, .aload_n 0, 1, []), (14, .getfield 30, 3, []), (17, .iload_n 3, 1, []), (18, .iaload, 1, []), (19, .iload_n 1, 1, []), (20, .if_icmp .ne 5, 3, [25]), (23, .iconst 1, 1, [1]), (24, .ireturn, 1, []), (25, .iinc 3 1, 3, [1]), (28, .goto (-26), 3, [2]), (31, .iconst 0, 1, [0]), (32, .ireturn, 1, [])]
theorem hp_X0_isReached : ∀ q ∈ pg_X0_isReached, decode cX0_isReached q.1 = .ok (q.2.1, q.2.2.1) ∧ ztg q.2.1 q.1 q.2.2.1 q.2.2.2 = true := zpg_of (by decide +kernel)
def cs_X0_isReached : List (Nat × zCall) := []
theorem hcs_X0_isReached {l : Launch} (hl0 : l.stackTraces = false) : ∀ q ∈ cs_X0_isReached, zCallable l RX0 1 q := fun _ h => absurd h List.not_mem_nil
def th_X0_isReached : List (Nat × String) := []
theorem hth_X0_isReached : ∀ q ∈ th_X0_isReached, zThrow cX0_isReached RX0 q := fun _ h => absurd h List.not_mem_nil
def kc_X0_isReached : List (Nat × Int32) := []
theorem hkc_X0_isReached : ∀ q ∈ kc_X0_isReached, Cond.constant RX0 q.1 q.2 ∈ zTs := fun _ h => absurd h List.not_mem_nil
def nw_X0_isReached : List (Nat × Nat × Nat × List Value) := []
theorem hnw_X0_isReached : ∀ q ∈ nw_X0_isReached, zNew RX0 q := fun _ h => absurd h List.not_mem_nil
set_option maxHeartbeats 4000000 in
set_option maxRecDepth 20000 in
theorem c_X0_isReached {l : Launch} (hl0 : l.stackTraces = false) : CT l yX0_isReached (.code yX0_isReached cX0_isReached 4 (some .boolean)) 1 0 0 false sp_X0_isReached := by
  refine zCT_of hl0 (own := RX0) fl_RX0 cs_X0_isReached nw_X0_isReached th_X0_isReached kc_X0_isReached (fun _ => []) false pg_X0_isReached rfl (by decide +kernel) hp_X0_isReached ⟨_, _, rfl, rfl⟩ hfl_RX0 (fun h => nomatch h) (hcs_X0_isReached hl0) hnw_X0_isReached hth_X0_isReached (fun _ _ h => absurd h List.not_mem_nil) hkc_X0_isReached (fun args w Q X v0 hv0 h => ?_)
  obtain ⟨α, ν, r, x, n, hn, rfl, rfl, h1, h2⟩ := h
  refine ⟨Nat.le_of_ble_eq_true rfl, 60, [(2, fun m L S w' cu su => ∃ i, zsub [(0, .ref 1), (1, .int x), (2, .int (nI n)), (3, .int (nI i))] L ∧ S = [] ∧ w' = WX α ν r ∧ i ≤ n ∧ (∀ j, j < i → ¬ α 4 j = x) ∧ m = 96 - i ∧ cu = 0 ∧ su = 0)], ?_, zone ?_⟩
  · (conv => whnf)
    exact ⟨96, 0, ⟨rfl, rfl, rfl, rfl, trivial⟩, rfl, rfl, Nat.zero_le _, fun j hj => absurd hj (Nat.not_lt_zero j), rfl, rfl, rfl⟩
  · rintro m L S w' cu su ⟨i, hL, rfl, rfl, hi, hno, rfl, rfl, rfl⟩
    refine ⟨_, hL, ?_⟩
    (conv => whnf)
    refine And.intro (fun c => ?_) (fun c => ?_)
    · have hlt : i < n := (nI_ltI (by omega) (by omega)).mp c
      (conv => whnf)
      refine And.intro (fun _ => ?_) (fun c => absurd (show _ from (nI_lt (show i < 96 by omega) (by decide))) c)
      (conv => whnf)
      refine ⟨vp_in_nI (show i < 96 by omega) (by decide), ?_⟩
      (conv => whnf)
      rw [nI_clamp (by omega)]
      refine And.intro (fun d => ?_) (fun d => ?_)
      · (conv => whnf)
        exact ⟨Or.inr rfl, h1 ⟨i, hlt, d⟩⟩
      · (conv => whnf)
        refine ⟨96 - (i + 1), by omega, i + 1, ⟨rfl, rfl, rfl, zi1 rfl, trivial⟩, rfl, rfl, by omega, fun j hj => ?_, rfl, rfl, rfl⟩
        by_cases e : j < i
        · exact hno j e
        · have : j = i := by omega
          rw [this]; exact d
    · have hge : i = n := by
        have : ¬ i < n := fun h => c (nI_lt h (by omega))
        omega
      subst hge
      (conv => whnf)
      exact ⟨Or.inl rfl, h2 (fun ⟨j, hj, e⟩ => hno j hj e)⟩
def sp_X0_nameOfReached : zSpec := fun args w Q _ => ∃ α ν r n ρ, n ≤ 96 ∧ (∀ j, j < n → ρ j < 96 ∧ α 4 j = nI (ρ j)) ∧ args = [.ref 1, .int (nI n)] ∧ w = WX α ν r ∧ Q (some (.int (znr ρ (α 2) (α 1) n).2)) (WX α ν r)
def pg_X0_nameOfReached : List zE := [(0, .iconst 0, 1, [0]), (1, .istore_n 2, 1, []), (2, .iconst 0, 1, [0]), (3, .istore_n 3, 1, []), (4, .iconst 0, 1, [0]), (5, .istore 4, 2, []), (7, .iload 4, 2, []), (9, .iload_n 1, 1, []), (10, .if_icmp .ge 60, 3, [70]), (13, .iload 4, 2, []), (15, .bipush 96, 2, [96]), (17, .if_icmp .ge 53, 3, [70]), (20, .aload_n 0, 1, []), (21, .getfield 30, 3, []), (24, .iload 4, 2, []), (26, .iaload, 1, []), (27, .istore 5, 2, []), (29, .iload 5, 2, []), (31, .invokestatic 43, 3, []), (34, .ifCond .eq 30, 3, [64]), (37, .aload_n 0, 1, []), (38, .getfield 18, 3, []), (41, .iload 5, 2, []), (43, .iaload, 1, []), (44, .iload_n 2, 1, []), (45, .if_icmp .le 19, 3, [64]), (48, .aload_n 0, 1, []), (49, .getfield 18, 3, []), (52, .iload 5, 2, []), (54, .iaload, 1, []), (55, .istore_n 2, 1, []), (56, .aload_n 0, 1, []), (57, .getfield 15, 3, []), (60, .iload 5, 2, []), (62, .iaload, 1, []), (63, .istore_n 3, 1, []), (64, .iinc 4 1, 3, [1]), (67, .goto (-60), 3, [7]), (70, .iload_n 3, 1, []), (71, .ireturn, 1, [])]
theorem hp_X0_nameOfReached : ∀ q ∈ pg_X0_nameOfReached, decode cX0_nameOfReached q.1 = .ok (q.2.1, q.2.2.1) ∧ ztg q.2.1 q.1 q.2.2.1 q.2.2.2 = true := zpg_of (by decide +kernel)
def cs_X0_nameOfReached : List (Nat × zCall) := [(43, 1, 1, none, 0, 0, false, sp_X4_isCell)]
theorem hcs_X0_nameOfReached {l : Launch} (hl0 : l.stackTraces = false) : ∀ q ∈ cs_X0_nameOfReached, zCallable l RX0 2 q := List.forall_mem_cons.mpr ⟨zcN (ps := [194, 14, 195]) (host := RX4) (c_X4_isCell hl0) (by decide +kernel) (by decide +kernel) ⟨by decide +kernel, by decide +kernel, by decide +kernel⟩ (by decide) (by decide), fun _ h => absurd h List.not_mem_nil⟩
def th_X0_nameOfReached : List (Nat × String) := []
theorem hth_X0_nameOfReached : ∀ q ∈ th_X0_nameOfReached, zThrow cX0_nameOfReached RX0 q := fun _ h => absurd h List.not_mem_nil
def kc_X0_nameOfReached : List (Nat × Int32) := []
theorem hkc_X0_nameOfReached : ∀ q ∈ kc_X0_nameOfReached, Cond.constant RX0 q.1 q.2 ∈ zTs := fun _ h => absurd h List.not_mem_nil
def nw_X0_nameOfReached : List (Nat × Nat × Nat × List Value) := []
theorem hnw_X0_nameOfReached : ∀ q ∈ nw_X0_nameOfReached, zNew RX0 q := fun _ h => absurd h List.not_mem_nil
set_option maxHeartbeats 4000000 in
set_option maxRecDepth 20000 in
theorem c_X0_nameOfReached {l : Launch} (hl0 : l.stackTraces = false) : CT l yX0_nameOfReached (.code yX0_nameOfReached cX0_nameOfReached 6 (some .int)) 2 0 0 false sp_X0_nameOfReached := by
  refine zCT_of hl0 (own := RX0) fl_RX0 cs_X0_nameOfReached nw_X0_nameOfReached th_X0_nameOfReached kc_X0_nameOfReached (fun _ => []) false pg_X0_nameOfReached rfl (by decide +kernel) hp_X0_nameOfReached ⟨_, _, rfl, rfl⟩ hfl_RX0 (fun h => nomatch h) (hcs_X0_nameOfReached hl0) hnw_X0_nameOfReached hth_X0_nameOfReached (fun _ _ h => absurd h List.not_mem_nil) hkc_X0_nameOfReached (fun args w Q X v0 hv0 h => ?_)
  obtain ⟨α, ν, r, n, ρ, hn, hρ, rfl, rfl, hQ⟩ := h
  refine ⟨Nat.le_of_ble_eq_true rfl, 60, [(7, fun m L S w' cu su => ∃ i, zsub [(0, .ref 1), (1, .int (nI n)), (2, .int (znr ρ (α 2) (α 1) i).1), (3, .int (znr ρ (α 2) (α 1) i).2), (4, .int (nI i))] L ∧ S = [] ∧ w' = WX α ν r ∧ i ≤ n ∧ m = 96 - i ∧ cu = 0 ∧ su = 0)], ?_, zone ?_⟩
  · (conv => whnf)
    exact ⟨96, 0, ⟨rfl, rfl, rfl, rfl, rfl, trivial⟩, rfl, rfl, Nat.zero_le _, rfl, rfl, rfl⟩
  · rintro m L S w' cu su ⟨i, hL, rfl, rfl, hi, rfl, rfl, rfl⟩
    refine ⟨_, hL, ?_⟩
    (conv => whnf)
    refine And.intro (fun c => ?_) (fun c => ?_)
    · have hlt : i < n := (nI_ltI (by omega) (by omega)).mp c
      obtain ⟨r1, r2⟩ := hρ i hlt
      (conv => whnf)
      refine And.intro (fun _ => ?_) (fun c => absurd (show _ from (nI_lt (show i < 96 by omega) (by decide))) c)
      (conv => whnf)
      refine ⟨vp_in_nI (show i < 96 by omega) (by decide), ?_⟩
      (conv => whnf)
      rw [nI_clamp (by omega), r2]
      refine ⟨_, rfl, fun _ => ?_, fun c => absurd (vp_in_nI r1 (by decide)) c⟩
      (conv => whnf)
      refine And.intro (fun c => absurd c (show ¬ _ from (by decide))) (fun _ => ?_)
      (conv => whnf)
      refine ⟨vp_in_nI r1 (by decide), ?_⟩
      (conv => whnf)
      rw [nI_clamp (by omega)]
      refine And.intro (fun e => ?_) (fun e => ?_)
      · (conv => whnf)
        refine ⟨vp_in_nI r1 (by decide), ?_⟩
        (conv => whnf)
        refine ⟨vp_in_nI r1 (by decide), ?_⟩
        (conv => whnf)
        rw [nI_clamp (by omega)]
        exact ⟨96 - (i + 1), by omega, i + 1, ⟨rfl, rfl, by rw [znr_t e]; rfl, by rw [znr_t e]; rfl, zi1 rfl, trivial⟩, rfl, rfl, by omega, rfl, rfl, rfl⟩
      · (conv => whnf)
        exact ⟨96 - (i + 1), by omega, i + 1, ⟨rfl, rfl, by rw [znr_f e]; rfl, by rw [znr_f e]; rfl, zi1 rfl, trivial⟩, rfl, rfl, by omega, rfl, rfl, rfl⟩
    · have hge : i = n := by
        have : ¬ i < n := fun h => c (nI_lt h (by omega))
        omega
      subst hge
      (conv => whnf)
      exact hQ
def sp_X0_layMark : zSpec := fun args w Q _ => ∃ α ν r k x, k < 96 ∧ args = [.ref 1, .int (nI k), .int x] ∧ w = WX α ν r ∧ Q none (WX (zu (zu α 1 (upd (α 1) k x)) 2 (upd (α 2) k (ν 1 + nI 1))) (zu ν 1 (ν 1 + nI 1)) r)
def pg_X0_layMark : List zE := [(0, .iload_n 1, 1, []), (1, .invokestatic 43, 3, []), (4, .ifCond .eq 30, 3, [34]), (7, .aload_n 0, 1, []), (8, .dup, 1, []), (9, .getfield 36, 3, []), (12, .iconst 1, 1, [1]), (13, .iadd, 1, []), (14, .putfield 36, 3, []), (17, .aload_n 0, 1, []), (18, .getfield 15, 3, []), (21, .iload_n 1, 1, []), (22, .iload_n 2, 1, []), (23, .iastore, 1, []), (24, .aload_n 0, 1, []), (25, .getfield 18, 3, []), (28, .iload_n 1, 1, []), (29, .aload_n 0, 1, []), (30, .getfield 36, 3, []), (33, .iastore, 1, []), (34, .return_, 1, [])]
theorem hp_X0_layMark : ∀ q ∈ pg_X0_layMark, decode cX0_layMark q.1 = .ok (q.2.1, q.2.2.1) ∧ ztg q.2.1 q.1 q.2.2.1 q.2.2.2 = true := zpg_of (by decide +kernel)
def cs_X0_layMark : List (Nat × zCall) := [(43, 1, 1, none, 0, 0, false, sp_X4_isCell)]
theorem hcs_X0_layMark {l : Launch} (hl0 : l.stackTraces = false) : ∀ q ∈ cs_X0_layMark, zCallable l RX0 2 q := List.forall_mem_cons.mpr ⟨zcN (ps := [194, 14, 195]) (host := RX4) (c_X4_isCell hl0) (by decide +kernel) (by decide +kernel) ⟨by decide +kernel, by decide +kernel, by decide +kernel⟩ (by decide) (by decide), fun _ h => absurd h List.not_mem_nil⟩
def th_X0_layMark : List (Nat × String) := []
theorem hth_X0_layMark : ∀ q ∈ th_X0_layMark, zThrow cX0_layMark RX0 q := fun _ h => absurd h List.not_mem_nil
def kc_X0_layMark : List (Nat × Int32) := []
theorem hkc_X0_layMark : ∀ q ∈ kc_X0_layMark, Cond.constant RX0 q.1 q.2 ∈ zTs := fun _ h => absurd h List.not_mem_nil
def nw_X0_layMark : List (Nat × Nat × Nat × List Value) := []
theorem hnw_X0_layMark : ∀ q ∈ nw_X0_layMark, zNew RX0 q := fun _ h => absurd h List.not_mem_nil
set_option maxHeartbeats 4000000 in
set_option maxRecDepth 20000 in
theorem c_X0_layMark {l : Launch} (hl0 : l.stackTraces = false) : CT l yX0_layMark (.code yX0_layMark cX0_layMark 3 none) 2 0 0 false sp_X0_layMark := by
  refine zCT_of hl0 (own := RX0) fl_RX0 cs_X0_layMark nw_X0_layMark th_X0_layMark kc_X0_layMark (fun _ => []) false pg_X0_layMark rfl (by decide +kernel) hp_X0_layMark ⟨_, _, rfl, rfl⟩ hfl_RX0 (fun h => nomatch h) (hcs_X0_layMark hl0) hnw_X0_layMark hth_X0_layMark (fun _ _ h => absurd h List.not_mem_nil) hkc_X0_layMark (fun args w Q X v0 hv0 h => ?_)
  obtain ⟨α, ν, r, k, x, hk, rfl, rfl, hQ⟩ := h
  refine ⟨Nat.le_of_ble_eq_true rfl, 60, [], ?_, fun q hq => absurd hq List.not_mem_nil⟩
  (conv => whnf)
  refine ⟨_, rfl, fun _ => ?_, fun c => absurd (vp_in_nI hk (by decide)) c⟩
  (conv => whnf)
  refine And.intro (fun c => absurd c (show ¬ _ from (by decide))) (fun _ => ?_)
  (conv => whnf)
  refine ⟨vp_in_nI hk (by decide), ?_⟩
  (conv => whnf)
  refine ⟨vp_in_nI hk (by decide), ?_⟩
  (conv => whnf)
  rw [nI_clamp (by omega)]
  exact hQ
