/-! ===== the constructors of EchoRegistry and its classes ===== -/
def zα0 : Nat → Nat → Int32 := fun i => match i with
  | 3 => zfl (-1) (fun _ => 0) 96
  | 6 => zfl (nI 200) (fun _ => 0) 4
  | _ => fun _ => 0
def zν0 : Nat → Int32 := fun _ => nI 0
def zar (n i : Nat) : va_E := .inl (0, n, .inl (zα0 i))
def zwX (a b c d e : Value) : va_E := .inr (5, [a, b, c, d, e, .int 0])
def zwC : zW := [.inr (1, [.ref 2, .ref 3, .ref 4, .ref 5, .ref 6, .ref 7, .int (nI 0), .int (nI 0)]), zar 96 0, zar 96 1, zar 96 2, zar 96 3, zar 96 4, zar 96 5]
def zwD : zW := [.inr (3, [.ref 9, .ref 10]), zar 4 6, zar 4 7]
def zwB : zW := [.inr (2, [.ref 12, .ref 13, .ref 14, .int (nI 0)]), zar 40 8, zar 40 9, zar 40 10]
def zwL : zW := [.inr (4, [.ref 16, .ref 17, .ref 18, .int (nI 0), .int (nI 0)]), zar 60 11, zar 60 12, zar 6 13]
def zwS : zW := [.inr (0, [.ref 20, .int (nI 0), .int (nI 0), .int (nI 0)]), .inl (2, 16, .inl (zα0 14))]
def sp_X0_init : zSpec := fun args w Q _ => args = [.ref 1] ∧ w = [zwX .null .null .null .null .null, .inr (1, [.null, .null, .null, .null, .null, .null, .int 0, .int 0])] ∧ Q none (zwX .null .null .null .null .null :: zwC)
def pg_X0_init : List zE := [(0, .aload_n 0, 1, []), (1, .invokespecial 3, 3, []), (4, .aload_n 0, 1, []), (5, .bipush 96, 2, [96]), (7, .newarray .int, 2, []), (9, .putfield 9, 3, []), (12, .aload_n 0, 1, []), (13, .bipush 96, 2, [96]), (15, .newarray .int, 2, []), (17, .putfield 15, 3, []), (20, .aload_n 0, 1, []), (21, .bipush 96, 2, [96]), (23, .newarray .int, 2, []), (25, .putfield 18, 3, []), (28, .aload_n 0, 1, []), (29, .bipush 96, 2, [96]), (31, .newarray .int, 2, []), (33, .putfield 21, 3, []), (36, .aload_n 0, 1, []), (37, .getfield 21, 3, []), (40, .iconst (-1), 1, []), (41, .invokestatic 24, 3, []), (44, .aload_n 0, 1, []), (45, .bipush 96, 2, [96]), (47, .newarray .int, 2, []), (49, .putfield 30, 3, []), (52, .aload_n 0, 1, []), (53, .bipush 96, 2, [96]), (55, .newarray .int, 2, []), (57, .putfield 33, 3, []), (60, .aload_n 0, 1, []), (61, .iconst 0, 1, [0]), (62, .putfield 36, 3, []), (65, .aload_n 0, 1, []), (66, .iconst 0, 1, [0]), (67, .putfield 40, 3, []), (70, .return_, 1, [])]
theorem hp_X0_init : ∀ q ∈ pg_X0_init, decode cX0_init q.1 = .ok (q.2.1, q.2.2.1) ∧ ztg q.2.1 q.1 q.2.2.1 q.2.2.2 = true := zpg_of (by decide +kernel)
def cs_X0_init : List (Nat × zCall) := [(3, 2, 1, some 1, 0, 0, false, zspO), (24, 1, 2, none, 0, 0, false, sp_J7_fill_53178)]
theorem hcs_X0_init {l : Launch} (hl0 : l.stackTraces = false) : ∀ q ∈ cs_X0_init, zCallable l RX0 2 q := List.forall_mem_cons.mpr ⟨zcO (ps := [50, 43, 44]) (by decide +kernel) (by decide), List.forall_mem_cons.mpr ⟨zcS (ps := [51, 52, 16, 53]) (c_J7_fill_53178 hl0) (by decide +kernel) ⟨by decide +kernel, by decide +kernel, by decide +kernel⟩ (by decide) (by decide), fun _ h => absurd h List.not_mem_nil⟩⟩
def th_X0_init : List (Nat × String) := []
theorem hth_X0_init : ∀ q ∈ th_X0_init, zThrow cX0_init RX0 q := fun _ h => absurd h List.not_mem_nil
def kc_X0_init : List (Nat × Int32) := []
theorem hkc_X0_init : ∀ q ∈ kc_X0_init, Cond.constant RX0 q.1 q.2 ∈ zTs := fun _ h => absurd h List.not_mem_nil
def nw_X0_init : List (Nat × Nat × Nat × List Value) := []
theorem hnw_X0_init : ∀ q ∈ nw_X0_init, zNew RX0 q := fun _ h => absurd h List.not_mem_nil
set_option maxHeartbeats 4000000 in
set_option maxRecDepth 20000 in
theorem c_X0_init {l : Launch} (hl0 : l.stackTraces = false) : CT l yX0_init (.code yX0_init cX0_init 1 none) 2 6 576 true sp_X0_init := by
  refine zCT_of hl0 (own := RX0) fl_RX0 cs_X0_init nw_X0_init th_X0_init kc_X0_init (fun _ => []) true pg_X0_init rfl (by decide +kernel) hp_X0_init ⟨_, _, rfl, rfl⟩ hfl_RX0 (fun _ => ⟨rfl, fun q hq C hC => zini_of (by decide +kernel) q hq C hC⟩) (hcs_X0_init hl0) hnw_X0_init hth_X0_init (fun _ _ h => absurd h List.not_mem_nil) hkc_X0_init (fun args w Q X v0 hv0 h => ?_)
  obtain ⟨rfl, rfl, hQ⟩ := h
  refine ⟨Nat.le_of_ble_eq_true rfl, 80, [], ?_, fun q hq => absurd hq List.not_mem_nil⟩
  (conv => whnf)
  refine ⟨96, rfl, by decide, Nat.le_of_ble_eq_true rfl, ?_⟩
  (conv => whnf)
  refine ⟨96, rfl, by decide, Nat.le_of_ble_eq_true rfl, ?_⟩
  (conv => whnf)
  refine ⟨96, rfl, by decide, Nat.le_of_ble_eq_true rfl, ?_⟩
  (conv => whnf)
  refine ⟨96, rfl, by decide, Nat.le_of_ble_eq_true rfl, ?_⟩
  (conv => whnf)
  refine ⟨5, -1, 96, fun _ => 0, rfl, by decide, rfl, by decide, ?_⟩
  (conv => whnf)
  refine ⟨96, rfl, by decide, Nat.le_of_ble_eq_true rfl, ?_⟩
  (conv => whnf)
  refine ⟨96, rfl, by decide, Nat.le_of_ble_eq_true rfl, ?_⟩
  (conv => whnf)
  exact hQ
def sp_X2_init : zSpec := fun args w Q _ => args = [.ref 8] ∧ w = zwX (.ref 1) .null .null .null .null :: (zwC ++ [.inr (3, [.null, .null])]) ∧ Q none (zwX (.ref 1) .null .null .null .null :: (zwC ++ zwD))
def pg_X2_init : List zE := [(0, .aload_n 0, 1, []), (1, .invokespecial 3, 3, []), (4, .aload_n 0, 1, []), (5, .iconst 4, 1, [4]), (6, .newarray .int, 2, []), (8, .putfield 9, 3, []), (11, .aload_n 0, 1, []), (12, .getfield 9, 3, []), (15, .sipush 200, 3, [200]), (18, .invokestatic 15, 3, []), (21, .aload_n 0, 1, []), (22, .iconst 4, 1, [4]), (23, .newarray .int, 2, []), (25, .putfield 21, 3, []), (28, .return_, 1, [])]
theorem hp_X2_init : ∀ q ∈ pg_X2_init, decode cX2_init q.1 = .ok (q.2.1, q.2.2.1) ∧ ztg q.2.1 q.1 q.2.2.1 q.2.2.2 = true := zpg_of (by decide +kernel)
def cs_X2_init : List (Nat × zCall) := [(3, 2, 1, some 3, 0, 0, false, zspO), (15, 1, 2, none, 0, 0, false, sp_J7_fill_53178)]
theorem hcs_X2_init {l : Launch} (hl0 : l.stackTraces = false) : ∀ q ∈ cs_X2_init, zCallable l RX2 2 q := List.forall_mem_cons.mpr ⟨zcO (ps := [85, 43, 44]) (by decide +kernel) (by decide), List.forall_mem_cons.mpr ⟨zcS (ps := [86, 52, 16, 53]) (c_J7_fill_53178 hl0) (by decide +kernel) ⟨by decide +kernel, by decide +kernel, by decide +kernel⟩ (by decide) (by decide), fun _ h => absurd h List.not_mem_nil⟩⟩
def th_X2_init : List (Nat × String) := []
theorem hth_X2_init : ∀ q ∈ th_X2_init, zThrow cX2_init RX2 q := fun _ h => absurd h List.not_mem_nil
def kc_X2_init : List (Nat × Int32) := []
theorem hkc_X2_init : ∀ q ∈ kc_X2_init, Cond.constant RX2 q.1 q.2 ∈ zTs := fun _ h => absurd h List.not_mem_nil
def nw_X2_init : List (Nat × Nat × Nat × List Value) := []
theorem hnw_X2_init : ∀ q ∈ nw_X2_init, zNew RX2 q := fun _ h => absurd h List.not_mem_nil
set_option maxHeartbeats 4000000 in
set_option maxRecDepth 20000 in
theorem c_X2_init {l : Launch} (hl0 : l.stackTraces = false) : CT l yX2_init (.code yX2_init cX2_init 1 none) 2 2 8 true sp_X2_init := by
  refine zCT_of hl0 (own := RX2) fl_RX2 cs_X2_init nw_X2_init th_X2_init kc_X2_init (fun _ => []) true pg_X2_init rfl (by decide +kernel) hp_X2_init ⟨_, _, rfl, rfl⟩ hfl_RX2 (fun _ => ⟨rfl, fun q hq C hC => zini_of (by decide +kernel) q hq C hC⟩) (hcs_X2_init hl0) hnw_X2_init hth_X2_init (fun _ _ h => absurd h List.not_mem_nil) hkc_X2_init (fun args w Q X v0 hv0 h => ?_)
  obtain ⟨rfl, rfl, hQ⟩ := h
  refine ⟨Nat.le_of_ble_eq_true rfl, 80, [], ?_, fun q hq => absurd hq List.not_mem_nil⟩
  (conv => whnf)
  refine ⟨4, rfl, by decide, Nat.le_of_ble_eq_true rfl, ?_⟩
  (conv => whnf)
  refine ⟨9, nI 200, 4, fun _ => 0, rfl, by decide, rfl, by decide, ?_⟩
  (conv => whnf)
  refine ⟨4, rfl, by decide, Nat.le_of_ble_eq_true rfl, ?_⟩
  (conv => whnf)
  exact hQ
def sp_X1_init : zSpec := fun args w Q _ => args = [.ref 11] ∧ w = zwX (.ref 1) (.ref 8) .null .null .null :: (zwC ++ zwD ++ [.inr (2, [.null, .null, .null, .int 0])]) ∧ Q none (zwX (.ref 1) (.ref 8) .null .null .null :: (zwC ++ zwD ++ zwB))
def pg_X1_init : List zE := [(0, .aload_n 0, 1, []), (1, .invokespecial 3, 3, []), (4, .aload_n 0, 1, []), (5, .bipush 40, 2, [40]), (7, .newarray .int, 2, []), (9, .putfield 9, 3, []), (12, .aload_n 0, 1, []), (13, .bipush 40, 2, [40]), (15, .newarray .int, 2, []), (17, .putfield 15, 3, []), (20, .aload_n 0, 1, []), (21, .bipush 40, 2, [40]), (23, .newarray .int, 2, []), (25, .putfield 18, 3, []), (28, .aload_n 0, 1, []), (29, .iconst 0, 1, [0]), (30, .putfield 21, 3, []), (33, .return_, 1, [])]
theorem hp_X1_init : ∀ q ∈ pg_X1_init, decode cX1_init q.1 = .ok (q.2.1, q.2.2.1) ∧ ztg q.2.1 q.1 q.2.2.1 q.2.2.2 = true := zpg_of (by decide +kernel)
def cs_X1_init : List (Nat × zCall) := [(3, 2, 1, some 2, 0, 0, false, zspO)]
theorem hcs_X1_init {l : Launch} (hl0 : l.stackTraces = false) : ∀ q ∈ cs_X1_init, zCallable l RX1 1 q := List.forall_mem_cons.mpr ⟨zcO (ps := [99, 43, 44]) (by decide +kernel) (by decide), fun _ h => absurd h List.not_mem_nil⟩
def th_X1_init : List (Nat × String) := []
theorem hth_X1_init : ∀ q ∈ th_X1_init, zThrow cX1_init RX1 q := fun _ h => absurd h List.not_mem_nil
def kc_X1_init : List (Nat × Int32) := []
theorem hkc_X1_init : ∀ q ∈ kc_X1_init, Cond.constant RX1 q.1 q.2 ∈ zTs := fun _ h => absurd h List.not_mem_nil
def nw_X1_init : List (Nat × Nat × Nat × List Value) := []
theorem hnw_X1_init : ∀ q ∈ nw_X1_init, zNew RX1 q := fun _ h => absurd h List.not_mem_nil
set_option maxHeartbeats 4000000 in
set_option maxRecDepth 20000 in
theorem c_X1_init {l : Launch} (hl0 : l.stackTraces = false) : CT l yX1_init (.code yX1_init cX1_init 1 none) 1 3 120 true sp_X1_init := by
  refine zCT_of hl0 (own := RX1) fl_RX1 cs_X1_init nw_X1_init th_X1_init kc_X1_init (fun _ => []) true pg_X1_init rfl (by decide +kernel) hp_X1_init ⟨_, _, rfl, rfl⟩ hfl_RX1 (fun _ => ⟨rfl, fun q hq C hC => zini_of (by decide +kernel) q hq C hC⟩) (hcs_X1_init hl0) hnw_X1_init hth_X1_init (fun _ _ h => absurd h List.not_mem_nil) hkc_X1_init (fun args w Q X v0 hv0 h => ?_)
  obtain ⟨rfl, rfl, hQ⟩ := h
  refine ⟨Nat.le_of_ble_eq_true rfl, 80, [], ?_, fun q hq => absurd hq List.not_mem_nil⟩
  (conv => whnf)
  refine ⟨40, rfl, by decide, Nat.le_of_ble_eq_true rfl, ?_⟩
  (conv => whnf)
  refine ⟨40, rfl, by decide, Nat.le_of_ble_eq_true rfl, ?_⟩
  (conv => whnf)
  refine ⟨40, rfl, by decide, Nat.le_of_ble_eq_true rfl, ?_⟩
  (conv => whnf)
  exact hQ
def sp_X3_init : zSpec := fun args w Q _ => args = [.ref 15] ∧ w = zwX (.ref 1) (.ref 8) (.ref 11) .null .null :: (zwC ++ zwD ++ zwB ++ [.inr (4, [.null, .null, .null, .int 0, .int 0])]) ∧ Q none (zwX (.ref 1) (.ref 8) (.ref 11) .null .null :: (zwC ++ zwD ++ zwB ++ zwL))
def pg_X3_init : List zE := [(0, .aload_n 0, 1, []), (1, .invokespecial 3, 3, []), (4, .aload_n 0, 1, []), (5, .bipush 60, 2, [60]), (7, .newarray .int, 2, []), (9, .putfield 9, 3, []), (12, .aload_n 0, 1, []), (13, .bipush 60, 2, [60]), (15, .newarray .int, 2, []), (17, .putfield 15, 3, []), (20, .aload_n 0, 1, []), (21, .bipush 6, 2, [6]), (23, .newarray .int, 2, []), (25, .putfield 18, 3, []), (28, .aload_n 0, 1, []), (29, .iconst 0, 1, [0]), (30, .putfield 21, 3, []), (33, .aload_n 0, 1, []), (34, .iconst 0, 1, [0]), (35, .putfield 25, 3, []), (38, .return_, 1, [])]
theorem hp_X3_init : ∀ q ∈ pg_X3_init, decode cX3_init q.1 = .ok (q.2.1, q.2.2.1) ∧ ztg q.2.1 q.1 q.2.2.1 q.2.2.2 = true := zpg_of (by decide +kernel)
def cs_X3_init : List (Nat × zCall) := [(3, 2, 1, some 4, 0, 0, false, zspO)]
theorem hcs_X3_init {l : Launch} (hl0 : l.stackTraces = false) : ∀ q ∈ cs_X3_init, zCallable l RX3 1 q := List.forall_mem_cons.mpr ⟨zcO (ps := [118, 43, 44]) (by decide +kernel) (by decide), fun _ h => absurd h List.not_mem_nil⟩
def th_X3_init : List (Nat × String) := []
theorem hth_X3_init : ∀ q ∈ th_X3_init, zThrow cX3_init RX3 q := fun _ h => absurd h List.not_mem_nil
def kc_X3_init : List (Nat × Int32) := []
theorem hkc_X3_init : ∀ q ∈ kc_X3_init, Cond.constant RX3 q.1 q.2 ∈ zTs := fun _ h => absurd h List.not_mem_nil
def nw_X3_init : List (Nat × Nat × Nat × List Value) := []
theorem hnw_X3_init : ∀ q ∈ nw_X3_init, zNew RX3 q := fun _ h => absurd h List.not_mem_nil
set_option maxHeartbeats 4000000 in
set_option maxRecDepth 20000 in
theorem c_X3_init {l : Launch} (hl0 : l.stackTraces = false) : CT l yX3_init (.code yX3_init cX3_init 1 none) 1 3 126 true sp_X3_init := by
  refine zCT_of hl0 (own := RX3) fl_RX3 cs_X3_init nw_X3_init th_X3_init kc_X3_init (fun _ => []) true pg_X3_init rfl (by decide +kernel) hp_X3_init ⟨_, _, rfl, rfl⟩ hfl_RX3 (fun _ => ⟨rfl, fun q hq C hC => zini_of (by decide +kernel) q hq C hC⟩) (hcs_X3_init hl0) hnw_X3_init hth_X3_init (fun _ _ h => absurd h List.not_mem_nil) hkc_X3_init (fun args w Q X v0 hv0 h => ?_)
  obtain ⟨rfl, rfl, hQ⟩ := h
  refine ⟨Nat.le_of_ble_eq_true rfl, 80, [], ?_, fun q hq => absurd hq List.not_mem_nil⟩
  (conv => whnf)
  refine ⟨60, rfl, by decide, Nat.le_of_ble_eq_true rfl, ?_⟩
  (conv => whnf)
  refine ⟨60, rfl, by decide, Nat.le_of_ble_eq_true rfl, ?_⟩
  (conv => whnf)
  refine ⟨6, rfl, by decide, Nat.le_of_ble_eq_true rfl, ?_⟩
  (conv => whnf)
  exact hQ
def zwJ : zW := zwX (.ref 1) (.ref 8) (.ref 11) (.ref 15) .null :: (zwC ++ zwD ++ zwB ++ zwL)
def sp_J5_init_d00df : zSpec := fun args w Q _ => args = [.ref 19, .int (nI 16)] ∧ w = zwJ ++ [.inr (0, [.null, .int 0, .int 0, .int 0])] ∧ Q none (zwJ ++ zwS)
def pg_J5_init_d00df : List zE := [(0, .aload_n 0, 1, []), (1, .invokespecial 3, 3, []), (4, .getstatic 18, 3, []), (7, .ifCond .eq 18, 3, [25]), (10, .aload_n 0, 1, []), (11, .iload_n 1, 1, []), (12, .newarray .byte, 2, []), (14, .putfield 15, 3, []), (17, .aload_n 0, 1, []), (18, .iconst 0, 1, [0]), (19, .putfield 22, 3, []), (22, .goto 16, 3, [38]), (25, .aload_n 0, 1, []), (26, .iload_n 1, 1, []), (27, .invokestatic 26, 3, []), (30, .putfield 15, 3, []), (33, .aload_n 0, 1, []), (34, .iconst 1, 1, [1]), (35, .putfield 22, 3, []), (38, .return_, 1, [])]
theorem hp_J5_init_d00df : ∀ q ∈ pg_J5_init_d00df, decode cJ5_init_d00df q.1 = .ok (q.2.1, q.2.2.1) ∧ ztg q.2.1 q.1 q.2.2.1 q.2.2.2 = true := zpg_of (by decide +kernel)
def cs_J5_init_d00df : List (Nat × zCall) := [(3, 2, 1, some 0, 0, 0, false, zspO)]
theorem hcs_J5_init_d00df {l : Launch} (hl0 : l.stackTraces = false) : ∀ q ∈ cs_J5_init_d00df, zCallable l RJ5 1 q := List.forall_mem_cons.mpr ⟨zcO (ps := [143, 43, 44]) (by decide +kernel) (by decide), fun _ h => absurd h List.not_mem_nil⟩
def th_J5_init_d00df : List (Nat × String) := []
theorem hth_J5_init_d00df : ∀ q ∈ th_J5_init_d00df, zThrow cJ5_init_d00df RJ5 q := fun _ h => absurd h List.not_mem_nil
def kc_J5_init_d00df : List (Nat × Int32) := []
theorem hkc_J5_init_d00df : ∀ q ∈ kc_J5_init_d00df, Cond.constant RJ5 q.1 q.2 ∈ zTs := fun _ h => absurd h List.not_mem_nil
def nw_J5_init_d00df : List (Nat × Nat × Nat × List Value) := []
theorem hnw_J5_init_d00df : ∀ q ∈ nw_J5_init_d00df, zNew RJ5 q := fun _ h => absurd h List.not_mem_nil
set_option maxHeartbeats 4000000 in
set_option maxRecDepth 20000 in
theorem c_J5_init_d00df {l : Launch} (hl0 : l.stackTraces = false) : CT l yJ5_init_d00df (.code yJ5_init_d00df cJ5_init_d00df 2 none) 1 1 16 true sp_J5_init_d00df := by
  refine zCT_of hl0 (own := RJ5) fl_RJ5 cs_J5_init_d00df nw_J5_init_d00df th_J5_init_d00df kc_J5_init_d00df (fun v0 => [(18, .int 1)]) true pg_J5_init_d00df rfl (by decide +kernel) hp_J5_init_d00df ⟨_, _, rfl, rfl⟩ hfl_RJ5 (fun _ => ⟨rfl, fun q hq C hC => zini_of (by decide +kernel) q hq C hC⟩) (hcs_J5_init_d00df hl0) hnw_J5_init_d00df hth_J5_init_d00df (fun v0 => List.forall_mem_cons.mpr ⟨Or.inl ⟨rfl, show Cond.fieldLink RJ5 18 "java/lang/String" "COMPACT_STRINGS" "Z" ∈ zTs from zmem (i := 144) (by decide +kernel) rfl⟩, fun _ h => absurd h List.not_mem_nil⟩) hkc_J5_init_d00df (fun args w Q X v0 hv0 h => ?_)
  obtain ⟨rfl, rfl, hQ⟩ := h
  refine ⟨Nat.le_of_ble_eq_true rfl, 80, [], ?_, fun q hq => absurd hq List.not_mem_nil⟩
  (conv => whnf)
  refine And.intro (fun c => absurd c (show ¬ _ from (by decide))) (fun _ => ?_)
  (conv => whnf)
  refine ⟨16, rfl, by decide, Nat.le_of_ble_eq_true rfl, ?_⟩
  (conv => whnf)
  refine ⟨by decide, by decide, ?_⟩
  (conv => whnf)
  exact hQ
def sp_J4_init_da8c8 : zSpec := fun args w Q _ => args = [.ref 19] ∧ w = zwJ ++ [.inr (0, [.null, .int 0, .int 0, .int 0])] ∧ Q none (zwJ ++ zwS)
def pg_J4_init_da8c8 : List zE := [(0, .aload_n 0, 1, []), (1, .bipush 16, 2, [16]), (3, .invokespecial 1, 3, []), (6, .return_, 1, [])]
theorem hp_J4_init_da8c8 : ∀ q ∈ pg_J4_init_da8c8, decode cJ4_init_da8c8 q.1 = .ok (q.2.1, q.2.2.1) ∧ ztg q.2.1 q.1 q.2.2.1 q.2.2.2 = true := zpg_of (by decide +kernel)
def cs_J4_init_da8c8 : List (Nat × zCall) := [(1, 2, 2, some 0, 1, 16, true, sp_J5_init_d00df)]
theorem hcs_J4_init_da8c8 {l : Launch} (hl0 : l.stackTraces = false) : ∀ q ∈ cs_J4_init_da8c8, zCallable l RJ4 2 q := List.forall_mem_cons.mpr ⟨zcI (ps := [140, 141, 20, 142]) (c_J5_init_d00df hl0) (by decide +kernel) rfl ⟨by decide +kernel, by decide +kernel, by decide +kernel⟩ (by decide) (by decide), fun _ h => absurd h List.not_mem_nil⟩
def th_J4_init_da8c8 : List (Nat × String) := []
theorem hth_J4_init_da8c8 : ∀ q ∈ th_J4_init_da8c8, zThrow cJ4_init_da8c8 RJ4 q := fun _ h => absurd h List.not_mem_nil
def kc_J4_init_da8c8 : List (Nat × Int32) := []
theorem hkc_J4_init_da8c8 : ∀ q ∈ kc_J4_init_da8c8, Cond.constant RJ4 q.1 q.2 ∈ zTs := fun _ h => absurd h List.not_mem_nil
def nw_J4_init_da8c8 : List (Nat × Nat × Nat × List Value) := []
theorem hnw_J4_init_da8c8 : ∀ q ∈ nw_J4_init_da8c8, zNew RJ4 q := fun _ h => absurd h List.not_mem_nil
set_option maxHeartbeats 4000000 in
set_option maxRecDepth 20000 in
theorem c_J4_init_da8c8 {l : Launch} (hl0 : l.stackTraces = false) : CT l yJ4_init_da8c8 (.code yJ4_init_da8c8 cJ4_init_da8c8 1 none) 2 1 16 true sp_J4_init_da8c8 := by
  refine zCT_of hl0 (own := RJ4) fl_RJ4 cs_J4_init_da8c8 nw_J4_init_da8c8 th_J4_init_da8c8 kc_J4_init_da8c8 (fun _ => []) true pg_J4_init_da8c8 rfl (by decide +kernel) hp_J4_init_da8c8 ⟨_, _, rfl, rfl⟩ hfl_RJ4 (fun _ => ⟨rfl, fun q hq C hC => zini_of (by decide +kernel) q hq C hC⟩) (hcs_J4_init_da8c8 hl0) hnw_J4_init_da8c8 hth_J4_init_da8c8 (fun _ _ h => absurd h List.not_mem_nil) hkc_J4_init_da8c8 (fun args w Q X v0 hv0 h => ?_)
  obtain ⟨rfl, rfl, hQ⟩ := h
  refine ⟨Nat.le_of_ble_eq_true rfl, 80, [], ?_, fun q hq => absurd hq List.not_mem_nil⟩
  (conv => whnf)
  refine ⟨rfl, rfl, ?_⟩
  (conv => whnf)
  exact hQ
def sp_X4_init : zSpec := fun args w Q _ => args = [.ref 0] ∧ w = [zwX .null .null .null .null .null] ∧ Q none (WX zα0 zν0 [])
def pg_X4_init : List zE := [(0, .aload_n 0, 1, []), (1, .invokespecial 3, 3, []), (4, .aload_n 0, 1, []), (5, .new 9, 3, []), (8, .dup, 1, []), (9, .invokespecial 11, 3, []), (12, .putfield 12, 3, []), (15, .aload_n 0, 1, []), (16, .new 16, 3, []), (19, .dup, 1, []), (20, .invokespecial 18, 3, []), (23, .putfield 19, 3, []), (26, .aload_n 0, 1, []), (27, .new 23, 3, []), (30, .dup, 1, []), (31, .invokespecial 25, 3, []), (34, .putfield 26, 3, []), (37, .aload_n 0, 1, []), (38, .new 30, 3, []), (41, .dup, 1, []), (42, .invokespecial 32, 3, []), (45, .putfield 33, 3, []), (48, .aload_n 0, 1, []), (49, .new 37, 3, []), (52, .dup, 1, []), (53, .invokespecial 39, 3, []), (56, .putfield 40, 3, []), (59, .aload_n 0, 1, []), (60, .iconst 0, 1, [0]), (61, .putfield 44, 3, []), (64, .return_, 1, [])]
theorem hp_X4_init : ∀ q ∈ pg_X4_init, decode cX4_init q.1 = .ok (q.2.1, q.2.2.1) ∧ ztg q.2.1 q.1 q.2.2.1 q.2.2.2 = true := zpg_of (by decide +kernel)
def cs_X4_init : List (Nat × zCall) := [(3, 2, 1, some 5, 0, 0, false, zspO), (11, 2, 1, some 1, 6, 576, true, sp_X0_init), (18, 2, 1, some 3, 2, 8, true, sp_X2_init), (25, 2, 1, some 2, 3, 120, true, sp_X1_init), (32, 2, 1, some 4, 3, 126, true, sp_X3_init), (39, 2, 1, some 0, 1, 16, true, sp_J4_init_da8c8)]
theorem hcs_X4_init {l : Launch} (hl0 : l.stackTraces = false) : ∀ q ∈ cs_X4_init, zCallable l RX4 3 q := List.forall_mem_cons.mpr ⟨zcO (ps := [42, 43, 44]) (by decide +kernel) (by decide), List.forall_mem_cons.mpr ⟨zcI (ps := [47, 48, 15, 49]) (c_X0_init hl0) (by decide +kernel) rfl ⟨by decide +kernel, by decide +kernel, by decide +kernel⟩ (by decide) (by decide), List.forall_mem_cons.mpr ⟨zcI (ps := [82, 83, 17, 84]) (c_X2_init hl0) (by decide +kernel) rfl ⟨by decide +kernel, by decide +kernel, by decide +kernel⟩ (by decide) (by decide), List.forall_mem_cons.mpr ⟨zcI (ps := [96, 97, 18, 98]) (c_X1_init hl0) (by decide +kernel) rfl ⟨by decide +kernel, by decide +kernel, by decide +kernel⟩ (by decide) (by decide), List.forall_mem_cons.mpr ⟨zcI (ps := [115, 116, 19, 117]) (c_X3_init hl0) (by decide +kernel) rfl ⟨by decide +kernel, by decide +kernel, by decide +kernel⟩ (by decide) (by decide), List.forall_mem_cons.mpr ⟨zcI (ps := [137, 138, 21, 139]) (c_J4_init_da8c8 hl0) (by decide +kernel) rfl ⟨by decide +kernel, by decide +kernel, by decide +kernel⟩ (by decide) (by decide), fun _ h => absurd h List.not_mem_nil⟩⟩⟩⟩⟩⟩
def th_X4_init : List (Nat × String) := []
theorem hth_X4_init : ∀ q ∈ th_X4_init, zThrow cX4_init RX4 q := fun _ h => absurd h List.not_mem_nil
def kc_X4_init : List (Nat × Int32) := []
theorem hkc_X4_init : ∀ q ∈ kc_X4_init, Cond.constant RX4 q.1 q.2 ∈ zTs := fun _ h => absurd h List.not_mem_nil
def nw_X4_init : List (Nat × Nat × Nat × List Value) := [(9, 1, 8, [.null, .null, .null, .null, .null, .null, .int 0, .int 0]), (16, 3, 2, [.null, .null]), (23, 2, 4, [.null, .null, .null, .int 0]), (30, 4, 5, [.null, .null, .null, .int 0, .int 0]), (37, 0, 4, [.null, .int 0, .int 0, .int 0])]
theorem hnw_X4_init : ∀ q ∈ nw_X4_init, zNew RX4 q := List.forall_mem_cons.mpr ⟨⟨(RX0, TX0, 8), rfl, rfl, by decide +kernel, rfl, rfl, zmem (i := 45) (by decide +kernel) rfl, zmem (i := 46) (by decide +kernel) rfl, zmem (i := 15) (by decide +kernel) rfl⟩, List.forall_mem_cons.mpr ⟨⟨(RX2, TX2, 2), rfl, rfl, by decide +kernel, rfl, rfl, zmem (i := 80) (by decide +kernel) rfl, zmem (i := 81) (by decide +kernel) rfl, zmem (i := 17) (by decide +kernel) rfl⟩, List.forall_mem_cons.mpr ⟨⟨(RX1, TX1, 4), rfl, rfl, by decide +kernel, rfl, rfl, zmem (i := 94) (by decide +kernel) rfl, zmem (i := 95) (by decide +kernel) rfl, zmem (i := 18) (by decide +kernel) rfl⟩, List.forall_mem_cons.mpr ⟨⟨(RX3, TX3, 5), rfl, rfl, by decide +kernel, rfl, rfl, zmem (i := 113) (by decide +kernel) rfl, zmem (i := 114) (by decide +kernel) rfl, zmem (i := 19) (by decide +kernel) rfl⟩, List.forall_mem_cons.mpr ⟨⟨(RJ4, TJ4, 4), rfl, rfl, by decide +kernel, rfl, rfl, zmem (i := 135) (by decide +kernel) rfl, zmem (i := 136) (by decide +kernel) rfl, zmem (i := 21) (by decide +kernel) rfl⟩, fun _ h => absurd h List.not_mem_nil⟩⟩⟩⟩⟩
set_option maxHeartbeats 4000000 in
set_option maxRecDepth 20000 in
theorem c_X4_init {l : Launch} (hl0 : l.stackTraces = false) : CT l yX4_init (.code yX4_init cX4_init 1 none) 3 20 869 true sp_X4_init := by
  refine zCT_of hl0 (own := RX4) fl_RX4 cs_X4_init nw_X4_init th_X4_init kc_X4_init (fun _ => []) true pg_X4_init rfl (by decide +kernel) hp_X4_init ⟨_, _, rfl, rfl⟩ hfl_RX4 (fun _ => ⟨rfl, fun q hq C hC => zini_of (by decide +kernel) q hq C hC⟩) (hcs_X4_init hl0) hnw_X4_init hth_X4_init (fun _ _ h => absurd h List.not_mem_nil) hkc_X4_init (fun args w Q X v0 hv0 h => ?_)
  obtain ⟨rfl, rfl, hQ⟩ := h
  refine ⟨Nat.le_of_ble_eq_true rfl, 80, [], ?_, fun q hq => absurd hq List.not_mem_nil⟩
  (conv => whnf)
  refine ⟨rfl, rfl, ?_⟩
  (conv => whnf)
  refine ⟨rfl, rfl, ?_⟩
  (conv => whnf)
  refine ⟨rfl, rfl, ?_⟩
  (conv => whnf)
  refine ⟨rfl, rfl, ?_⟩
  (conv => whnf)
  refine ⟨rfl, rfl, ?_⟩
  (conv => whnf)
  exact hQ
