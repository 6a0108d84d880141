/-! ===== EchoRegistryLaw: the calls of the class, with a refusal as -3 ===== -/
def zQi (Q : Option Value → zW → Prop) : Option Value → zW → Prop := fun rv w' => ∃ x, rv = some (.int x) ∧ Q (some (.int x)) w'
def zXi (Q : Option Value → zW → Prop) : String → zW → Prop := fun E w' => E = zISE ∧ Q (some (.int (-nI 3))) w'
def pg_L_name : List zE := [(0, .aload_n 0, 1, []), (1, .iload_n 1, 1, []), (2, .iload_n 2, 1, []), (3, .iload_n 3, 1, []), (4, .iload 4, 2, []), (6, .invokevirtual 9, 3, []), (9, .ireturn, 1, [])]
theorem hp_L_name : ∀ q ∈ pg_L_name, decode cL_name q.1 = .ok (q.2.1, q.2.2.1) ∧ ztg q.2.1 q.1 q.2.2.1 q.2.2.2 = true := zpg_of (by decide +kernel)
def hd_L_name : List zHd := [("java/lang/IllegalStateException", 10, 15, 5, 2)]
theorem hhd_L_name : ∀ q ∈ hd_L_name, zHdOK cL_name RL 6 q := List.forall_mem_cons.mpr ⟨⟨⟨by decide, by decide⟩, zmem (i := 507) (by decide +kernel) rfl, by decide +kernel, Or.inr ⟨rfl, by decide +kernel⟩, by decide +kernel, by decide +kernel⟩, fun _ h => absurd h List.not_mem_nil⟩
def cs_L_name : List (Nat × zCall) := [(9, 0, 5, some 5, 6, 36, false, zMc sp_X4_name)]
theorem hcs_L_name {l : Launch} (hl0 : l.stackTraces = false) : ∀ q ∈ cs_L_name, zCallable l RL 7 q := List.forall_mem_cons.mpr ⟨zcV (C := (RX4, TX4, 6)) (ps := [508, 509, 510, 14, 511]) (CT_mono (c_X4_name hl0)) (by decide +kernel) rfl ⟨rfl, by decide +kernel, by decide +kernel, by decide +kernel⟩ (by decide) (by decide), fun _ h => absurd h List.not_mem_nil⟩
def sp_L_name : zSpec := fun args w Q _ => ∃ α ν a b c d, args = [.ref 0, .int a, .int b, .int c, .int d] ∧ w = WX α ν [] ∧ sp_X4_name [.ref 0, .int a, .int b, .int c, .int d] (WX α ν []) (zQi Q) (zXi Q)
set_option maxHeartbeats 4000000 in
set_option maxRecDepth 20000 in
theorem c_L_name {l : Launch} (hl0 : l.stackTraces = false) : CT l yL_name (.codeWith yL_name cL_name 6 (some .int) (zHdS 9 hd_L_name)) 7 6 36 false sp_L_name := by
  refine zCT_ofH (own := RL) cs_L_name pg_L_name 9 hd_L_name rfl (by decide +kernel) hp_L_name ⟨_, _, rfl, rfl⟩ (hcs_L_name hl0) hhd_L_name (fun args w Q X h => ?_)
  obtain ⟨α, ν, a, b, c, d, rfl, rfl, hSp⟩ := h
  refine ⟨Nat.le_of_ble_eq_true rfl, 40, [], ?_, fun q hq => absurd hq List.not_mem_nil⟩
  (conv => whnf)
  refine ⟨_, _, hSp, fun rv w9 hq => ?_, fun E w9 hx => ?_⟩
  · obtain ⟨x, rfl, hq⟩ := hq
    (conv => whnf)
    exact hq
  · obtain ⟨rfl, hq⟩ := hx
    (conv => whnf)
    exact ⟨_, rfl, rfl, by decide +kernel, Nat.le_of_ble_eq_true rfl, Nat.le_of_ble_eq_true rfl, hq⟩
def pg_L_raise : List zE := [(0, .aload_n 0, 1, []), (1, .iload_n 1, 1, []), (2, .iload_n 2, 1, []), (3, .iload_n 3, 1, []), (4, .iload 4, 2, []), (6, .invokevirtual 17, 3, []), (9, .ireturn, 1, [])]
theorem hp_L_raise : ∀ q ∈ pg_L_raise, decode cL_raise q.1 = .ok (q.2.1, q.2.2.1) ∧ ztg q.2.1 q.1 q.2.2.1 q.2.2.2 = true := zpg_of (by decide +kernel)
def hd_L_raise : List zHd := [("java/lang/IllegalStateException", 10, 15, 5, 2)]
theorem hhd_L_raise : ∀ q ∈ hd_L_raise, zHdOK cL_raise RL 6 q := List.forall_mem_cons.mpr ⟨⟨⟨by decide, by decide⟩, zmem (i := 507) (by decide +kernel) rfl, by decide +kernel, Or.inr ⟨rfl, by decide +kernel⟩, by decide +kernel, by decide +kernel⟩, fun _ h => absurd h List.not_mem_nil⟩
def cs_L_raise : List (Nat × zCall) := [(17, 0, 5, some 5, 9, 54, false, zMc sp_X4_raise)]
theorem hcs_L_raise {l : Launch} (hl0 : l.stackTraces = false) : ∀ q ∈ cs_L_raise, zCallable l RL 7 q := List.forall_mem_cons.mpr ⟨zcV (C := (RX4, TX4, 6)) (ps := [539, 540, 541, 14, 542]) (CT_mono (c_X4_raise hl0)) (by decide +kernel) rfl ⟨rfl, by decide +kernel, by decide +kernel, by decide +kernel⟩ (by decide) (by decide), fun _ h => absurd h List.not_mem_nil⟩
def sp_L_raise : zSpec := fun args w Q _ => ∃ α ν a b c d, args = [.ref 0, .int a, .int b, .int c, .int d] ∧ w = WX α ν [] ∧ sp_X4_raise [.ref 0, .int a, .int b, .int c, .int d] (WX α ν []) (zQi Q) (zXi Q)
set_option maxHeartbeats 4000000 in
set_option maxRecDepth 20000 in
theorem c_L_raise {l : Launch} (hl0 : l.stackTraces = false) : CT l yL_raise (.codeWith yL_raise cL_raise 6 (some .int) (zHdS 9 hd_L_raise)) 7 9 54 false sp_L_raise := by
  refine zCT_ofH (own := RL) cs_L_raise pg_L_raise 9 hd_L_raise rfl (by decide +kernel) hp_L_raise ⟨_, _, rfl, rfl⟩ (hcs_L_raise hl0) hhd_L_raise (fun args w Q X h => ?_)
  obtain ⟨α, ν, a, b, c, d, rfl, rfl, hSp⟩ := h
  refine ⟨Nat.le_of_ble_eq_true rfl, 40, [], ?_, fun q hq => absurd hq List.not_mem_nil⟩
  (conv => whnf)
  refine ⟨_, _, hSp, fun rv w9 hq => ?_, fun E w9 hx => ?_⟩
  · obtain ⟨x, rfl, hq⟩ := hq
    (conv => whnf)
    exact hq
  · obtain ⟨rfl, hq⟩ := hx
    (conv => whnf)
    exact ⟨_, rfl, rfl, by decide +kernel, Nat.le_of_ble_eq_true rfl, Nat.le_of_ble_eq_true rfl, hq⟩
def pg_L_fill : List zE := [(0, .aload_n 0, 1, []), (1, .iload_n 1, 1, []), (2, .invokevirtual 20, 3, []), (5, .ireturn, 1, [])]
theorem hp_L_fill : ∀ q ∈ pg_L_fill, decode cL_fill q.1 = .ok (q.2.1, q.2.2.1) ∧ ztg q.2.1 q.1 q.2.2.1 q.2.2.2 = true := zpg_of (by decide +kernel)
def hd_L_fill : List zHd := [("java/lang/IllegalStateException", 6, 15, 2, 1)]
theorem hhd_L_fill : ∀ q ∈ hd_L_fill, zHdOK cL_fill RL 3 q := List.forall_mem_cons.mpr ⟨⟨⟨by decide, by decide⟩, zmem (i := 507) (by decide +kernel) rfl, by decide +kernel, Or.inl ⟨2, rfl, rfl, by decide +kernel⟩, by decide +kernel, by decide +kernel⟩, fun _ h => absurd h List.not_mem_nil⟩
def cs_L_fill : List (Nat × zCall) := [(20, 0, 2, some 5, 2, 12, false, zMc sp_X4_fill)]
theorem hcs_L_fill {l : Launch} (hl0 : l.stackTraces = false) : ∀ q ∈ cs_L_fill, zCallable l RL 6 q := List.forall_mem_cons.mpr ⟨zcV (C := (RX4, TX4, 6)) (ps := [573, 574, 575, 14, 576]) (CT_mono (c_X4_fill hl0)) (by decide +kernel) rfl ⟨rfl, by decide +kernel, by decide +kernel, by decide +kernel⟩ (by decide) (by decide), fun _ h => absurd h List.not_mem_nil⟩
def sp_L_fill : zSpec := fun args w Q _ => ∃ α ν a, args = [.ref 0, .int a] ∧ w = WX α ν [] ∧ sp_X4_fill [.ref 0, .int a] (WX α ν []) (zQi Q) (zXi Q)
set_option maxHeartbeats 4000000 in
set_option maxRecDepth 20000 in
theorem c_L_fill {l : Launch} (hl0 : l.stackTraces = false) : CT l yL_fill (.codeWith yL_fill cL_fill 3 (some .int) (zHdS 5 hd_L_fill)) 6 2 12 false sp_L_fill := by
  refine zCT_ofH (own := RL) cs_L_fill pg_L_fill 5 hd_L_fill rfl (by decide +kernel) hp_L_fill ⟨_, _, rfl, rfl⟩ (hcs_L_fill hl0) hhd_L_fill (fun args w Q X h => ?_)
  obtain ⟨α, ν, a, rfl, rfl, hSp⟩ := h
  refine ⟨Nat.le_of_ble_eq_true rfl, 40, [], ?_, fun q hq => absurd hq List.not_mem_nil⟩
  (conv => whnf)
  refine ⟨_, _, hSp, fun rv w9 hq => ?_, fun E w9 hx => ?_⟩
  · obtain ⟨x, rfl, hq⟩ := hq
    (conv => whnf)
    exact hq
  · obtain ⟨rfl, hq⟩ := hx
    (conv => whnf)
    exact ⟨_, rfl, rfl, by decide +kernel, Nat.le_of_ble_eq_true rfl, Nat.le_of_ble_eq_true rfl, hq⟩
def pg_L_claim : List zE := [(0, .aload_n 0, 1, []), (1, .iload_n 1, 1, []), (2, .iload_n 2, 1, []), (3, .invokevirtual 24, 3, []), (6, .ireturn, 1, [])]
theorem hp_L_claim : ∀ q ∈ pg_L_claim, decode cL_claim q.1 = .ok (q.2.1, q.2.2.1) ∧ ztg q.2.1 q.1 q.2.2.1 q.2.2.2 = true := zpg_of (by decide +kernel)
def hd_L_claim : List zHd := [("java/lang/IllegalStateException", 7, 15, 3, 1)]
theorem hhd_L_claim : ∀ q ∈ hd_L_claim, zHdOK cL_claim RL 4 q := List.forall_mem_cons.mpr ⟨⟨⟨by decide, by decide⟩, zmem (i := 507) (by decide +kernel) rfl, by decide +kernel, Or.inl ⟨3, rfl, rfl, by decide +kernel⟩, by decide +kernel, by decide +kernel⟩, fun _ h => absurd h List.not_mem_nil⟩
def cs_L_claim : List (Nat × zCall) := [(24, 0, 3, some 5, 6, 36, false, zMc sp_X4_claim)]
theorem hcs_L_claim {l : Launch} (hl0 : l.stackTraces = false) : ∀ q ∈ cs_L_claim, zCallable l RL 7 q := List.forall_mem_cons.mpr ⟨zcV (C := (RX4, TX4, 6)) (ps := [584, 585, 586, 14, 587]) (CT_mono (c_X4_claim hl0)) (by decide +kernel) rfl ⟨rfl, by decide +kernel, by decide +kernel, by decide +kernel⟩ (by decide) (by decide), fun _ h => absurd h List.not_mem_nil⟩
def sp_L_claim : zSpec := fun args w Q _ => ∃ α ν a b, args = [.ref 0, .int a, .int b] ∧ w = WX α ν [] ∧ sp_X4_claim [.ref 0, .int a, .int b] (WX α ν []) (zQi Q) (zXi Q)
set_option maxHeartbeats 4000000 in
set_option maxRecDepth 20000 in
theorem c_L_claim {l : Launch} (hl0 : l.stackTraces = false) : CT l yL_claim (.codeWith yL_claim cL_claim 4 (some .int) (zHdS 6 hd_L_claim)) 7 6 36 false sp_L_claim := by
  refine zCT_ofH (own := RL) cs_L_claim pg_L_claim 6 hd_L_claim rfl (by decide +kernel) hp_L_claim ⟨_, _, rfl, rfl⟩ (hcs_L_claim hl0) hhd_L_claim (fun args w Q X h => ?_)
  obtain ⟨α, ν, a, b, rfl, rfl, hSp⟩ := h
  refine ⟨Nat.le_of_ble_eq_true rfl, 40, [], ?_, fun q hq => absurd hq List.not_mem_nil⟩
  (conv => whnf)
  refine ⟨_, _, hSp, fun rv w9 hq => ?_, fun E w9 hx => ?_⟩
  · obtain ⟨x, rfl, hq⟩ := hq
    (conv => whnf)
    exact hq
  · obtain ⟨rfl, hq⟩ := hx
    (conv => whnf)
    exact ⟨_, rfl, rfl, by decide +kernel, Nat.le_of_ble_eq_true rfl, Nat.le_of_ble_eq_true rfl, hq⟩
def pg_L_renew : List zE := [(0, .aload_n 0, 1, []), (1, .iload_n 1, 1, []), (2, .invokevirtual 28, 3, []), (5, .ireturn, 1, [])]
theorem hp_L_renew : ∀ q ∈ pg_L_renew, decode cL_renew q.1 = .ok (q.2.1, q.2.2.1) ∧ ztg q.2.1 q.1 q.2.2.1 q.2.2.2 = true := zpg_of (by decide +kernel)
def hd_L_renew : List zHd := [("java/lang/IllegalStateException", 6, 15, 2, 1)]
theorem hhd_L_renew : ∀ q ∈ hd_L_renew, zHdOK cL_renew RL 3 q := List.forall_mem_cons.mpr ⟨⟨⟨by decide, by decide⟩, zmem (i := 507) (by decide +kernel) rfl, by decide +kernel, Or.inl ⟨2, rfl, rfl, by decide +kernel⟩, by decide +kernel, by decide +kernel⟩, fun _ h => absurd h List.not_mem_nil⟩
def cs_L_renew : List (Nat × zCall) := [(28, 0, 2, some 5, 2, 12, false, zMc sp_X4_renew)]
theorem hcs_L_renew {l : Launch} (hl0 : l.stackTraces = false) : ∀ q ∈ cs_L_renew, zCallable l RL 4 q := List.forall_mem_cons.mpr ⟨zcV (C := (RX4, TX4, 6)) (ps := [606, 607, 608, 14, 609]) (CT_mono (c_X4_renew hl0)) (by decide +kernel) rfl ⟨rfl, by decide +kernel, by decide +kernel, by decide +kernel⟩ (by decide) (by decide), fun _ h => absurd h List.not_mem_nil⟩
def sp_L_renew : zSpec := fun args w Q _ => ∃ α ν a, args = [.ref 0, .int a] ∧ w = WX α ν [] ∧ sp_X4_renew [.ref 0, .int a] (WX α ν []) (zQi Q) (zXi Q)
set_option maxHeartbeats 4000000 in
set_option maxRecDepth 20000 in
theorem c_L_renew {l : Launch} (hl0 : l.stackTraces = false) : CT l yL_renew (.codeWith yL_renew cL_renew 3 (some .int) (zHdS 5 hd_L_renew)) 4 2 12 false sp_L_renew := by
  refine zCT_ofH (own := RL) cs_L_renew pg_L_renew 5 hd_L_renew rfl (by decide +kernel) hp_L_renew ⟨_, _, rfl, rfl⟩ (hcs_L_renew hl0) hhd_L_renew (fun args w Q X h => ?_)
  obtain ⟨α, ν, a, rfl, rfl, hSp⟩ := h
  refine ⟨Nat.le_of_ble_eq_true rfl, 40, [], ?_, fun q hq => absurd hq List.not_mem_nil⟩
  (conv => whnf)
  refine ⟨_, _, hSp, fun rv w9 hq => ?_, fun E w9 hx => ?_⟩
  · obtain ⟨x, rfl, hq⟩ := hq
    (conv => whnf)
    exact hq
  · obtain ⟨rfl, hq⟩ := hx
    (conv => whnf)
    exact ⟨_, rfl, rfl, by decide +kernel, Nat.le_of_ble_eq_true rfl, Nat.le_of_ble_eq_true rfl, hq⟩
