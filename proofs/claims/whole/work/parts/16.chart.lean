/-! ===== EchoRegistry$Chart ===== -/
def zcnt (f : Nat → Int32) (s : Int32) : Nat → Nat
  | 0 => 0
  | n + 1 => zcnt f s n + (if s ≠ -1 ∧ f n = s then 1 else 0)
def zcs (f : Nat → Int32) : Nat → Nat
  | 0 => 0
  | n + 1 => zcs f n + (if f n = nI n then 1 else 0)
def znm (f t m : Nat → Int32) (s : Int32) : Nat → Int32 × Int32
  | 0 => (0, 0)
  | n + 1 => if (s ≠ -1 ∧ f n = s) ∧ (znm f t m s n).1 < t n then (t n, m n) else znm f t m s n
def zmx (f h : Nat → Int32) (s : Int32) : Nat → Int32
  | 0 => 0
  | n + 1 => if s ≠ -1 ∧ f n = s then (if zmx f h s n < h n then h n else zmx f h s n) else zmx f h s n
def znr (ρ : Nat → Nat) (t m : Nat → Int32) : Nat → Int32 × Int32
  | 0 => (0, 0)
  | n + 1 => if (znr ρ t m n).1 < t (ρ n) then (t (ρ n), m (ρ n)) else znr ρ t m n
theorem zcnt_t {f : Nat → Int32} {s : Int32} {n : Nat} (h : s ≠ -1 ∧ f n = s) : zcnt f s (n + 1) = zcnt f s n + 1 := by
  show zcnt f s n + (if s ≠ -1 ∧ f n = s then 1 else 0) = _
  rw [if_pos h]
theorem zcnt_f {f : Nat → Int32} {s : Int32} {n : Nat} (h : ¬ (s ≠ -1 ∧ f n = s)) : zcnt f s (n + 1) = zcnt f s n := by
  show zcnt f s n + (if s ≠ -1 ∧ f n = s then 1 else 0) = _
  rw [if_neg h]; rfl
theorem zcs_t {f : Nat → Int32} {n : Nat} (h : f n = nI n) : zcs f (n + 1) = zcs f n + 1 := by
  show zcs f n + (if f n = nI n then 1 else 0) = _
  rw [if_pos h]
theorem zcs_f {f : Nat → Int32} {n : Nat} (h : ¬ f n = nI n) : zcs f (n + 1) = zcs f n := by
  show zcs f n + (if f n = nI n then 1 else 0) = _
  rw [if_neg h]; rfl
theorem znm_t {f t m : Nat → Int32} {s : Int32} {n : Nat} (h : s ≠ -1 ∧ f n = s) (h2 : (znm f t m s n).1 < t n) : znm f t m s (n + 1) = (t n, m n) := if_pos ⟨h, h2⟩
theorem znm_f {f t m : Nat → Int32} {s : Int32} {n : Nat} (h : ¬ (s ≠ -1 ∧ f n = s) ∨ ¬ (znm f t m s n).1 < t n) : znm f t m s (n + 1) = znm f t m s n := if_neg (fun q => h.elim (fun a => a q.1) (fun a => a q.2))
theorem zmx_t {f h : Nat → Int32} {s : Int32} {n : Nat} (q : s ≠ -1 ∧ f n = s) : zmx f h s (n + 1) = if zmx f h s n < h n then h n else zmx f h s n := if_pos q
theorem zmx_f {f h : Nat → Int32} {s : Int32} {n : Nat} (q : ¬ (s ≠ -1 ∧ f n = s)) : zmx f h s (n + 1) = zmx f h s n := if_neg q
theorem znr_t {ρ : Nat → Nat} {t m : Nat → Int32} {n : Nat} (h2 : (znr ρ t m n).1 < t (ρ n)) : znr ρ t m (n + 1) = (t (ρ n), m (ρ n)) := if_pos h2
theorem znr_f {ρ : Nat → Nat} {t m : Nat → Int32} {n : Nat} (h2 : ¬ (znr ρ t m n).1 < t (ρ n)) : znr ρ t m (n + 1) = znr ρ t m n := if_neg h2
/-- one head, one way out of the list of loops -/
theorem zone {P : Nat × (Nat → zK) → Prop} {q0 : Nat × (Nat → zK)} (h : P q0) : ∀ q ∈ [q0], P q := fun q hq => by
  rw [List.mem_singleton.mp hq]; exact h
theorem zi1 {a b : Nat} (e : b = a + 1) : (some (Value.int (nI a + nI 1))) = some (Value.int (nI b)) := by
  rw [nI_add, e]
def sp_X0_shapeAt : zSpec := fun args w Q _ => ∃ α ν r k, k < 96 ∧ args = [.ref 1, .int (nI k)] ∧ w = WX α ν r ∧ Q (some (.int (α 3 k))) (WX α ν r)
def pg_X0_shapeAt : List zE := [(0, .iload_n 1, 1, []), (1, .invokestatic 43, 3, []), (4, .ifCond .eq 12, 3, [16]), (7, .aload_n 0, 1, []), (8, .getfield 21, 3, []), (11, .iload_n 1, 1, []), (12, .iaload, 1, []), (13, .goto 4, 3, [17]), (16, .iconst (-1), 1, []), (17, .ireturn, 1, [])]
theorem hp_X0_shapeAt : ∀ q ∈ pg_X0_shapeAt, decode cX0_shapeAt q.1 = .ok (q.2.1, q.2.2.1) ∧ ztg q.2.1 q.1 q.2.2.1 q.2.2.2 = true := zpg_of (by decide +kernel)
def cs_X0_shapeAt : List (Nat × zCall) := [(43, 1, 1, none, 0, 0, false, sp_X4_isCell)]
theorem hcs_X0_shapeAt {l : Launch} (hl0 : l.stackTraces = false) : ∀ q ∈ cs_X0_shapeAt, zCallable l RX0 2 q := List.forall_mem_cons.mpr ⟨zcN (ps := [253, 28, 254]) (host := RX4) (c_X4_isCell hl0) (by decide +kernel) (by decide +kernel) ⟨by decide +kernel, by decide +kernel, by decide +kernel⟩ (by decide) (by decide), fun _ h => absurd h List.not_mem_nil⟩
def th_X0_shapeAt : List (Nat × String) := []
theorem hth_X0_shapeAt : ∀ q ∈ th_X0_shapeAt, zThrow cX0_shapeAt RX0 q := fun _ h => absurd h List.not_mem_nil
def kc_X0_shapeAt : List (Nat × Int32) := []
theorem hkc_X0_shapeAt : ∀ q ∈ kc_X0_shapeAt, Cond.constant RX0 q.1 q.2 ∈ zTs := fun _ h => absurd h List.not_mem_nil
def nw_X0_shapeAt : List (Nat × Nat × Nat × List Value) := []
theorem hnw_X0_shapeAt : ∀ q ∈ nw_X0_shapeAt, zNew RX0 q := fun _ h => absurd h List.not_mem_nil
set_option maxHeartbeats 4000000 in
set_option maxRecDepth 20000 in
theorem c_X0_shapeAt {l : Launch} (hl0 : l.stackTraces = false) : CT l yX0_shapeAt (.code yX0_shapeAt cX0_shapeAt 2 (some .int)) 2 0 0 false sp_X0_shapeAt := by
  refine zCT_of hl0 (own := RX0) fl_RX0 cs_X0_shapeAt nw_X0_shapeAt th_X0_shapeAt kc_X0_shapeAt (fun _ => []) false pg_X0_shapeAt rfl (by decide +kernel) hp_X0_shapeAt ⟨_, _, rfl, rfl⟩ hfl_RX0 (fun h => nomatch h) (hcs_X0_shapeAt hl0) hnw_X0_shapeAt hth_X0_shapeAt (fun _ _ h => absurd h List.not_mem_nil) hkc_X0_shapeAt (fun args w Q X v0 h => ?_)
  obtain ⟨α, ν, r, k, hk, rfl, rfl, hQ⟩ := h
  refine ⟨Nat.le_of_ble_eq_true rfl, 20, [], ?_, fun q hq => absurd hq List.not_mem_nil⟩
  (conv => whnf)
  refine ⟨_, rfl, fun _ => ?_, fun c => absurd (vp_in_nI hk (by decide)) c⟩
  (conv => whnf)
  refine And.intro (fun c => absurd c (show ¬ _ from (by decide))) (fun _ => ?_)
  (conv => whnf)
  refine ⟨vp_in_nI hk (by decide), ?_⟩
  (conv => whnf)
  rw [nI_clamp (by omega)]
  exact hQ
def sp_X0_isIn : zSpec := fun args w Q _ => ∃ α ν r k s, k < 96 ∧ args = [.ref 1, .int (nI k), .int s] ∧ w = WX α ν r ∧ zB Q (s ≠ -1 ∧ α 3 k = s) (WX α ν r)
def pg_X0_isIn : List zE := [(0, .iload_n 2, 1, []), (1, .iconst (-1), 1, []), (2, .if_icmp .eq 24, 3, [26]), (5, .iload_n 1, 1, []), (6, .invokestatic 43, 3, []), (9, .ifCond .eq 17, 3, [26]), (12, .aload_n 0, 1, []), (13, .getfield 21, 3, []), (16, .iload_n 1, 1, []), (17, .iaload, 1, []), (18, .iload_n 2, 1, []), (19, .if_icmp .ne 7, 3, [26]), (22, .iconst 1, 1, [1]), (23, .goto 4, 3, [27]), (26, .iconst 0, 1, [0]), (27, .ireturn, 1, [])]
theorem hp_X0_isIn : ∀ q ∈ pg_X0_isIn, decode cX0_isIn q.1 = .ok (q.2.1, q.2.2.1) ∧ ztg q.2.1 q.1 q.2.2.1 q.2.2.2 = true := zpg_of (by decide +kernel)
def cs_X0_isIn : List (Nat × zCall) := [(43, 1, 1, none, 0, 0, false, sp_X4_isCell)]
theorem hcs_X0_isIn {l : Launch} (hl0 : l.stackTraces = false) : ∀ q ∈ cs_X0_isIn, zCallable l RX0 2 q := List.forall_mem_cons.mpr ⟨zcN (ps := [253, 28, 254]) (host := RX4) (c_X4_isCell hl0) (by decide +kernel) (by decide +kernel) ⟨by decide +kernel, by decide +kernel, by decide +kernel⟩ (by decide) (by decide), fun _ h => absurd h List.not_mem_nil⟩
def th_X0_isIn : List (Nat × String) := []
theorem hth_X0_isIn : ∀ q ∈ th_X0_isIn, zThrow cX0_isIn RX0 q := fun _ h => absurd h List.not_mem_nil
def kc_X0_isIn : List (Nat × Int32) := []
theorem hkc_X0_isIn : ∀ q ∈ kc_X0_isIn, Cond.constant RX0 q.1 q.2 ∈ zTs := fun _ h => absurd h List.not_mem_nil
def nw_X0_isIn : List (Nat × Nat × Nat × List Value) := []
theorem hnw_X0_isIn : ∀ q ∈ nw_X0_isIn, zNew RX0 q := fun _ h => absurd h List.not_mem_nil
set_option maxHeartbeats 4000000 in
set_option maxRecDepth 20000 in
theorem c_X0_isIn {l : Launch} (hl0 : l.stackTraces = false) : CT l yX0_isIn (.code yX0_isIn cX0_isIn 3 (some .boolean)) 2 0 0 false sp_X0_isIn := by
  refine zCT_of hl0 (own := RX0) fl_RX0 cs_X0_isIn nw_X0_isIn th_X0_isIn kc_X0_isIn (fun _ => []) false pg_X0_isIn rfl (by decide +kernel) hp_X0_isIn ⟨_, _, rfl, rfl⟩ hfl_RX0 (fun h => nomatch h) (hcs_X0_isIn hl0) hnw_X0_isIn hth_X0_isIn (fun _ _ h => absurd h List.not_mem_nil) hkc_X0_isIn (fun args w Q X v0 h => ?_)
  obtain ⟨α, ν, r, k, s, hk, rfl, rfl, h1, h2⟩ := h
  refine ⟨Nat.le_of_ble_eq_true rfl, 20, [], ?_, fun q hq => absurd hq List.not_mem_nil⟩
  (conv => whnf)
  refine And.intro (fun c => ?_) (fun c => ?_)
  · (conv => whnf)
    exact ⟨Or.inl rfl, h2 (fun q => q.1 c)⟩
  · (conv => whnf)
    refine ⟨_, rfl, fun _ => ?_, fun c => absurd (vp_in_nI hk (by decide)) c⟩
    (conv => whnf)
    refine And.intro (fun c => absurd c (show ¬ _ from (by decide))) (fun _ => ?_)
    (conv => whnf)
    refine ⟨vp_in_nI hk (by decide), ?_⟩
    (conv => whnf)
    rw [nI_clamp (by omega)]
    refine And.intro (fun d => ?_) (fun d => ?_)
    · (conv => whnf)
      exact ⟨Or.inr rfl, h1 ⟨c, d⟩⟩
    · (conv => whnf)
      exact ⟨Or.inl rfl, h2 (fun q => d q.2)⟩
def sp_X0_countShapes : zSpec := fun args w Q _ => ∃ α ν r, args = [.ref 1] ∧ w = WX α ν r ∧ Q (some (.int (nI (zcs (α 3) 96)))) (WX α ν r)
def pg_X0_countShapes : List zE := [(0, .iconst 0, 1, [0]), (1, .istore_n 1, 1, []), (2, .iconst 0, 1, [0]), (3, .istore_n 2, 1, []), (4, .iload_n 2, 1, []), (5, .bipush 96, 2, [96]), (7, .if_icmp .ge 22, 3, [29]), (10, .aload_n 0, 1, []), (11, .getfield 21, 3, []), (14, .iload_n 2, 1, []), (15, .iaload, 1, []), (16, .iload_n 2, 1, []), (17, .if_icmp .ne 6, 3, [23]), (20, .iinc 1 1, 3, [1]), (23, .iinc 2 1, 3, [1]), (26, .goto (-22), 3, [4]), (29, .iload_n 1, 1, []), (30, .ireturn, 1, [])]
theorem hp_X0_countShapes : ∀ q ∈ pg_X0_countShapes, decode cX0_countShapes q.1 = .ok (q.2.1, q.2.2.1) ∧ ztg q.2.1 q.1 q.2.2.1 q.2.2.2 = true := zpg_of (by decide +kernel)
def cs_X0_countShapes : List (Nat × zCall) := []
theorem hcs_X0_countShapes {l : Launch} (hl0 : l.stackTraces = false) : ∀ q ∈ cs_X0_countShapes, zCallable l RX0 1 q := fun _ h => absurd h List.not_mem_nil
def th_X0_countShapes : List (Nat × String) := []
theorem hth_X0_countShapes : ∀ q ∈ th_X0_countShapes, zThrow cX0_countShapes RX0 q := fun _ h => absurd h List.not_mem_nil
def kc_X0_countShapes : List (Nat × Int32) := []
theorem hkc_X0_countShapes : ∀ q ∈ kc_X0_countShapes, Cond.constant RX0 q.1 q.2 ∈ zTs := fun _ h => absurd h List.not_mem_nil
def nw_X0_countShapes : List (Nat × Nat × Nat × List Value) := []
theorem hnw_X0_countShapes : ∀ q ∈ nw_X0_countShapes, zNew RX0 q := fun _ h => absurd h List.not_mem_nil
set_option maxHeartbeats 4000000 in
set_option maxRecDepth 20000 in
theorem c_X0_countShapes {l : Launch} (hl0 : l.stackTraces = false) : CT l yX0_countShapes (.code yX0_countShapes cX0_countShapes 3 (some .int)) 1 0 0 false sp_X0_countShapes := by
  refine zCT_of hl0 (own := RX0) fl_RX0 cs_X0_countShapes nw_X0_countShapes th_X0_countShapes kc_X0_countShapes (fun _ => []) false pg_X0_countShapes rfl (by decide +kernel) hp_X0_countShapes ⟨_, _, rfl, rfl⟩ hfl_RX0 (fun h => nomatch h) (hcs_X0_countShapes hl0) hnw_X0_countShapes hth_X0_countShapes (fun _ _ h => absurd h List.not_mem_nil) hkc_X0_countShapes (fun args w Q X v0 h => ?_)
  obtain ⟨α, ν, r, rfl, rfl, hQ⟩ := h
  refine ⟨Nat.le_of_ble_eq_true rfl, 60, [(4, fun m L S w' cu su => ∃ i, zsub [(0, .ref 1), (1, .int (nI (zcs (α 3) i))), (2, .int (nI i))] L ∧ S = [] ∧ w' = WX α ν r ∧ i ≤ 96 ∧ m = 96 - i ∧ cu = 0 ∧ su = 0)], ?_, zone ?_⟩
  · (conv => whnf)
    exact ⟨96, 0, ⟨rfl, rfl, rfl, trivial⟩, rfl, rfl, by decide, rfl, rfl, rfl⟩
  · rintro m L S w' cu su ⟨i, hL, rfl, rfl, hi, rfl, rfl, rfl⟩
    refine ⟨_, hL, ?_⟩
    (conv => whnf)
    refine And.intro (fun c => ?_) (fun c => ?_)
    · have hlt : i < 96 := (nI_ltI (by omega) (by omega)).mp c
      (conv => whnf)
      refine ⟨vp_in_nI hlt (by decide), ?_⟩
      (conv => whnf)
      rw [nI_clamp (by omega)]
      refine And.intro (fun d => ?_) (fun d => ?_)
      · (conv => whnf)
        exact ⟨96 - (i + 1), by omega, i + 1, ⟨rfl, zi1 (zcs_t d), zi1 rfl, trivial⟩, rfl, rfl, by omega, rfl, rfl, rfl⟩
      · (conv => whnf)
        exact ⟨96 - (i + 1), by omega, i + 1, ⟨rfl, by rw [zcs_f d]; rfl, zi1 rfl, trivial⟩, rfl, rfl, by omega, rfl, rfl, rfl⟩
    · have hge : i = 96 := by
        have : ¬ i < 96 := fun h => c (nI_lt h (by decide))
        omega
      subst hge
      (conv => whnf)
      exact hQ
def sp_X0_countCells : zSpec := fun args w Q _ => ∃ α ν r s, args = [.ref 1, .int s] ∧ w = WX α ν r ∧ Q (some (.int (nI (zcnt (α 3) s 96)))) (WX α ν r)
def pg_X0_countCells : List zE := [(0, .iconst 0, 1, [0]), (1, .istore_n 2, 1, []), (2, .iconst 0, 1, [0]), (3, .istore_n 3, 1, []), (4, .iload_n 3, 1, []), (5, .bipush 96, 2, [96]), (7, .if_icmp .ge 21, 3, [28]), (10, .aload_n 0, 1, []), (11, .iload_n 3, 1, []), (12, .iload_n 1, 1, []), (13, .invokevirtual 62, 3, []), (16, .ifCond .eq 6, 3, [22]), (19, .iinc 2 1, 3, [1]), (22, .iinc 3 1, 3, [1]), (25, .goto (-21), 3, [4]), (28, .iload_n 2, 1, []), (29, .ireturn, 1, [])]
theorem hp_X0_countCells : ∀ q ∈ pg_X0_countCells, decode cX0_countCells q.1 = .ok (q.2.1, q.2.2.1) ∧ ztg q.2.1 q.1 q.2.2.1 q.2.2.2 = true := zpg_of (by decide +kernel)
def cs_X0_countCells : List (Nat × zCall) := [(62, 0, 3, some 1, 0, 0, false, sp_X0_isIn)]
theorem hcs_X0_countCells {l : Launch} (hl0 : l.stackTraces = false) : ∀ q ∈ cs_X0_countCells, zCallable l RX0 3 q := List.forall_mem_cons.mpr ⟨zcV (C := (RX0, TX0, 8)) (ps := [404, 406, 3, 29, 407]) (c_X0_isIn hl0) (by decide +kernel) rfl ⟨rfl, by decide +kernel, by decide +kernel, by decide +kernel⟩ (by decide) (by decide), fun _ h => absurd h List.not_mem_nil⟩
def th_X0_countCells : List (Nat × String) := []
theorem hth_X0_countCells : ∀ q ∈ th_X0_countCells, zThrow cX0_countCells RX0 q := fun _ h => absurd h List.not_mem_nil
def kc_X0_countCells : List (Nat × Int32) := []
theorem hkc_X0_countCells : ∀ q ∈ kc_X0_countCells, Cond.constant RX0 q.1 q.2 ∈ zTs := fun _ h => absurd h List.not_mem_nil
def nw_X0_countCells : List (Nat × Nat × Nat × List Value) := []
theorem hnw_X0_countCells : ∀ q ∈ nw_X0_countCells, zNew RX0 q := fun _ h => absurd h List.not_mem_nil
set_option maxHeartbeats 4000000 in
set_option maxRecDepth 20000 in
theorem c_X0_countCells {l : Launch} (hl0 : l.stackTraces = false) : CT l yX0_countCells (.code yX0_countCells cX0_countCells 4 (some .int)) 3 0 0 false sp_X0_countCells := by
  refine zCT_of hl0 (own := RX0) fl_RX0 cs_X0_countCells nw_X0_countCells th_X0_countCells kc_X0_countCells (fun _ => []) false pg_X0_countCells rfl (by decide +kernel) hp_X0_countCells ⟨_, _, rfl, rfl⟩ hfl_RX0 (fun h => nomatch h) (hcs_X0_countCells hl0) hnw_X0_countCells hth_X0_countCells (fun _ _ h => absurd h List.not_mem_nil) hkc_X0_countCells (fun args w Q X v0 h => ?_)
  obtain ⟨α, ν, r, s, rfl, rfl, hQ⟩ := h
  refine ⟨Nat.le_of_ble_eq_true rfl, 60, [(4, fun m L S w' cu su => ∃ i, zsub [(0, .ref 1), (1, .int s), (2, .int (nI (zcnt (α 3) s i))), (3, .int (nI i))] L ∧ S = [] ∧ w' = WX α ν r ∧ i ≤ 96 ∧ m = 96 - i ∧ cu = 0 ∧ su = 0)], ?_, zone ?_⟩
  · (conv => whnf)
    exact ⟨96, 0, ⟨rfl, rfl, rfl, rfl, trivial⟩, rfl, rfl, by decide, rfl, rfl, rfl⟩
  · rintro m L S w' cu su ⟨i, hL, rfl, rfl, hi, rfl, rfl, rfl⟩
    refine ⟨_, hL, ?_⟩
    (conv => whnf)
    refine And.intro (fun c => ?_) (fun c => ?_)
    · have hlt : i < 96 := (nI_ltI (by omega) (by omega)).mp c
      (conv => whnf)
      refine ⟨α, ν, r, i, s, hlt, rfl, rfl, fun d => ?_, fun d => ?_⟩
      · (conv => whnf)
        refine And.intro (fun c => absurd c (show ¬ _ from (by decide))) (fun _ => ?_)
        (conv => whnf)
        exact ⟨96 - (i + 1), by omega, i + 1, ⟨rfl, rfl, zi1 (zcnt_t d), zi1 rfl, trivial⟩, rfl, rfl, by omega, rfl, rfl, rfl⟩
      · (conv => whnf)
        refine And.intro (fun _ => ?_) (fun c => absurd (show _ from rfl) c)
        (conv => whnf)
        exact ⟨96 - (i + 1), by omega, i + 1, ⟨rfl, rfl, by rw [zcnt_f d]; rfl, zi1 rfl, trivial⟩, rfl, rfl, by omega, rfl, rfl, rfl⟩
    · have hge : i = 96 := by
        have : ¬ i < 96 := fun h => c (nI_lt h (by decide))
        omega
      subst hge
      (conv => whnf)
      exact hQ
