/-! ===== EchoRegistryLaw: the calls of the class, with their exceptions as numbers ===== -/
def zW3 (α : Nat → Nat → Int32) (ν : Nat → Int32) (β : Nat → Nat → Int32) (μ : Nat → Int32) (f : Nat → Int64) : zW := W2 α ν β μ [.inl (1, 1, .inr (.inl f))]
def zQw (β : Nat → Nat → Int32) (μ : Nat → Int32) (f : Nat → Int64) (Q : Option Value → zW → Prop) : Option Value → zW → Prop := fun rv w' => ∃ x α' ν', rv = some (.int x) ∧ w' = zW3 α' ν' β μ f ∧ Q (some (.int (nI 0))) (zW3 α' ν' β μ (vp_updL f 0 x.toInt64))
def zQb (β : Nat → Nat → Int32) (μ : Nat → Int32) (f : Nat → Int64) (Q : Option Value → zW → Prop) : Option Value → zW → Prop := fun rv w' => ∃ α' ν', (rv = some (.int 1) ∧ w' = zW3 α' ν' β μ f ∧ Q (some (.int (nI 0))) (zW3 α' ν' β μ (vp_updL f 0 1))) ∨ (rv = some (.int 0) ∧ w' = zW3 α' ν' β μ f ∧ Q (some (.int (nI 0))) (zW3 α' ν' β μ (vp_updL f 0 0)))
def zXw (tb : List (String × Nat)) (Q : Option Value → zW → Prop) : String → zW → Prop := fun E w' => ∃ k, (E, k) ∈ tb ∧ Q (some (.int (nI k))) w'
def pg_L_sound : List zE := [(0, .aload_n 3, 1, []), (1, .iconst 0, 1, [0]), (2, .aload_n 0, 1, []), (3, .iload_n 1, 1, []), (4, .iload_n 2, 1, []), (5, .invokevirtual 7, 3, []), (8, .i2l, 1, []), (9, .lastore, 1, []), (10, .goto 11, 3, [21]), (21, .iconst 0, 1, [0]), (22, .ireturn, 1, [])]
theorem hp_L_sound : ∀ q ∈ pg_L_sound, decode cL_sound q.1 = .ok (q.2.1, q.2.2.1) ∧ ztg q.2.1 q.1 q.2.2.1 q.2.2.2 = true := zpg_of (by decide +kernel)
def hd_L_sound : List zHd := [("java/lang/IndexOutOfBoundsException", 13, 13, 4, 2, 1), ("java/lang/IllegalArgumentException", 17, 15, 4, 2, 2)]
theorem hhd_L_sound : ∀ q ∈ hd_L_sound, zHdOK cL_sound RL 5 q := List.forall_mem_cons.mpr ⟨⟨⟨by decide, by decide⟩, zmem (i := 243) (by decide +kernel) rfl, by decide +kernel, Or.inr ⟨rfl, by decide +kernel⟩, ⟨1, by decide, by decide +kernel⟩, by decide +kernel⟩, List.forall_mem_cons.mpr ⟨⟨⟨by decide, by decide⟩, zmem (i := 244) (by decide +kernel) rfl, by decide +kernel, Or.inr ⟨rfl, by decide +kernel⟩, ⟨2, by decide, by decide +kernel⟩, by decide +kernel⟩, fun _ h => absurd h List.not_mem_nil⟩⟩
def cs_L_sound : List (Nat × zCall) := [(7, 0, 3, some 5, 2, 12, false, zMc sp_X4_sound)]
theorem hcs_L_sound {l : Launch} (hl0 : l.stackTraces = false) : ∀ q ∈ cs_L_sound, zCallable l RL 6 q := List.forall_mem_cons.mpr ⟨zcV (C := (RX4, TX4, 6)) (ps := [245, 246, 247, 28, 248]) (CT_mono (c_X4_sound hl0)) (by decide +kernel) rfl ⟨rfl, by decide +kernel, by decide +kernel, by decide +kernel⟩ (by decide) (by decide), fun _ h => absurd h List.not_mem_nil⟩
def sp_L_sound : zSpec := fun args w Q _ => ∃ α ν β μ f a b, args = [.ref 0, .int a, .int b, .ref 36] ∧ w = zW3 α ν β μ f ∧ sp_X4_sound [.ref 0, .int a, .int b] (zW3 α ν β μ f) (zQw β μ f Q) (zXw [(zIOO, 1), (zIAE, 2)] Q)
set_option maxHeartbeats 4000000 in
set_option maxRecDepth 20000 in
theorem c_L_sound {l : Launch} (hl0 : l.stackTraces = false) : CT l yL_sound (.codeWith yL_sound cL_sound 5 (some .int) (zHdS 10 hd_L_sound)) 6 2 12 false sp_L_sound := by
  refine zCT_ofH (own := RL) cs_L_sound pg_L_sound 10 hd_L_sound rfl (by decide +kernel) hp_L_sound ⟨_, _, rfl, rfl⟩ (hcs_L_sound hl0) hhd_L_sound (fun args w Q X h => ?_)
  obtain ⟨α, ν, β, μ, f, a, b, rfl, rfl, hSp⟩ := h
  refine ⟨Nat.le_of_ble_eq_true rfl, 40, [], ?_, fun q hq => absurd hq List.not_mem_nil⟩
  (conv => whnf)
  refine ⟨_, _, hSp, fun rv w9 hq => ?_, fun E w9 hx => ?_⟩
  · obtain ⟨x, α', ν', rfl, rfl, hq⟩ := hq
    (conv => whnf)
    refine ⟨vp_in_nI (show 0 < 1 by decide) (by decide), ?_⟩
    (conv => whnf)
    show Q (some (.int (nI 0))) (zW3 α' ν' β μ (vp_updL f (nI 0).toNatClampNeg x.toInt64))
    rw [nI_clamp (by decide)]
    exact hq
  · obtain ⟨k, hk, hq⟩ := hx
    rcases List.mem_cons.mp hk with e | hk
    · cases e
      (conv => whnf)
      exact ⟨[], ("java/lang/IndexOutOfBoundsException", 13, 13, 4, 2, 1), [("java/lang/IllegalArgumentException", 17, 15, 4, 2, 2)], rfl, rfl, by decide +kernel, Nat.le_of_ble_eq_true rfl, Nat.le_of_ble_eq_true rfl, Nat.le_of_ble_eq_true rfl, hq⟩
    have e := List.mem_singleton.mp hk
    cases e
    (conv => whnf)
    exact ⟨[("java/lang/IndexOutOfBoundsException", 13, 13, 4, 2, 1)], ("java/lang/IllegalArgumentException", 17, 15, 4, 2, 2), [], rfl, rfl, by decide +kernel, Nat.le_of_ble_eq_true rfl, Nat.le_of_ble_eq_true rfl, Nat.le_of_ble_eq_true rfl, hq⟩
def pg_L_sweep : List zE := [(0, .aload 4, 2, []), (2, .iconst 0, 1, [0]), (3, .aload_n 0, 1, []), (4, .iload_n 1, 1, []), (5, .iload_n 2, 1, []), (6, .iload_n 3, 1, []), (7, .invokevirtual 17, 3, []), (10, .i2l, 1, []), (11, .lastore, 1, []), (12, .goto 11, 3, [23]), (23, .iconst 0, 1, [0]), (24, .ireturn, 1, [])]
theorem hp_L_sweep : ∀ q ∈ pg_L_sweep, decode cL_sweep q.1 = .ok (q.2.1, q.2.2.1) ∧ ztg q.2.1 q.1 q.2.2.1 q.2.2.2 = true := zpg_of (by decide +kernel)
def hd_L_sweep : List zHd := [("java/lang/IndexOutOfBoundsException", 15, 13, 5, 2, 1), ("java/lang/IllegalArgumentException", 19, 15, 5, 2, 2)]
theorem hhd_L_sweep : ∀ q ∈ hd_L_sweep, zHdOK cL_sweep RL 6 q := List.forall_mem_cons.mpr ⟨⟨⟨by decide, by decide⟩, zmem (i := 243) (by decide +kernel) rfl, by decide +kernel, Or.inr ⟨rfl, by decide +kernel⟩, ⟨1, by decide, by decide +kernel⟩, by decide +kernel⟩, List.forall_mem_cons.mpr ⟨⟨⟨by decide, by decide⟩, zmem (i := 244) (by decide +kernel) rfl, by decide +kernel, Or.inr ⟨rfl, by decide +kernel⟩, ⟨2, by decide, by decide +kernel⟩, by decide +kernel⟩, fun _ h => absurd h List.not_mem_nil⟩⟩
def cs_L_sweep : List (Nat × zCall) := [(17, 0, 4, some 5, 3, 18, false, zMc sp_X4_sweep)]
theorem hcs_L_sweep {l : Launch} (hl0 : l.stackTraces = false) : ∀ q ∈ cs_L_sweep, zCallable l RL 6 q := List.forall_mem_cons.mpr ⟨zcV (C := (RX4, TX4, 6)) (ps := [377, 378, 379, 28, 380]) (CT_mono (c_X4_sweep hl0)) (by decide +kernel) rfl ⟨rfl, by decide +kernel, by decide +kernel, by decide +kernel⟩ (by decide) (by decide), fun _ h => absurd h List.not_mem_nil⟩
def sp_L_sweep : zSpec := fun args w Q _ => ∃ α ν β μ f a b c, args = [.ref 0, .int a, .int b, .int c, .ref 36] ∧ w = zW3 α ν β μ f ∧ sp_X4_sweep [.ref 0, .int a, .int b, .int c] (zW3 α ν β μ f) (zQw β μ f Q) (zXw [(zIOO, 1), (zIAE, 2)] Q)
set_option maxHeartbeats 4000000 in
set_option maxRecDepth 20000 in
theorem c_L_sweep {l : Launch} (hl0 : l.stackTraces = false) : CT l yL_sweep (.codeWith yL_sweep cL_sweep 6 (some .int) (zHdS 12 hd_L_sweep)) 6 3 18 false sp_L_sweep := by
  refine zCT_ofH (own := RL) cs_L_sweep pg_L_sweep 12 hd_L_sweep rfl (by decide +kernel) hp_L_sweep ⟨_, _, rfl, rfl⟩ (hcs_L_sweep hl0) hhd_L_sweep (fun args w Q X h => ?_)
  obtain ⟨α, ν, β, μ, f, a, b, c, rfl, rfl, hSp⟩ := h
  refine ⟨Nat.le_of_ble_eq_true rfl, 40, [], ?_, fun q hq => absurd hq List.not_mem_nil⟩
  (conv => whnf)
  refine ⟨_, _, hSp, fun rv w9 hq => ?_, fun E w9 hx => ?_⟩
  · obtain ⟨x, α', ν', rfl, rfl, hq⟩ := hq
    (conv => whnf)
    refine ⟨vp_in_nI (show 0 < 1 by decide) (by decide), ?_⟩
    (conv => whnf)
    show Q (some (.int (nI 0))) (zW3 α' ν' β μ (vp_updL f (nI 0).toNatClampNeg x.toInt64))
    rw [nI_clamp (by decide)]
    exact hq
  · obtain ⟨k, hk, hq⟩ := hx
    rcases List.mem_cons.mp hk with e | hk
    · cases e
      (conv => whnf)
      exact ⟨[], ("java/lang/IndexOutOfBoundsException", 15, 13, 5, 2, 1), [("java/lang/IllegalArgumentException", 19, 15, 5, 2, 2)], rfl, rfl, by decide +kernel, Nat.le_of_ble_eq_true rfl, Nat.le_of_ble_eq_true rfl, Nat.le_of_ble_eq_true rfl, hq⟩
    have e := List.mem_singleton.mp hk
    cases e
    (conv => whnf)
    exact ⟨[("java/lang/IndexOutOfBoundsException", 15, 13, 5, 2, 1)], ("java/lang/IllegalArgumentException", 19, 15, 5, 2, 2), [], rfl, rfl, by decide +kernel, Nat.le_of_ble_eq_true rfl, Nat.le_of_ble_eq_true rfl, Nat.le_of_ble_eq_true rfl, hq⟩
def pg_L_shapeOf : List zE := [(0, .aload_n 2, 1, []), (1, .iconst 0, 1, [0]), (2, .aload_n 0, 1, []), (3, .iload_n 1, 1, []), (4, .invokevirtual 21, 3, []), (7, .i2l, 1, []), (8, .lastore, 1, []), (9, .goto 6, 3, [15]), (15, .iconst 0, 1, [0]), (16, .ireturn, 1, [])]
theorem hp_L_shapeOf : ∀ q ∈ pg_L_shapeOf, decode cL_shapeOf q.1 = .ok (q.2.1, q.2.2.1) ∧ ztg q.2.1 q.1 q.2.2.1 q.2.2.2 = true := zpg_of (by decide +kernel)
def hd_L_shapeOf : List zHd := [("java/lang/IndexOutOfBoundsException", 12, 13, 3, 1, 1)]
theorem hhd_L_shapeOf : ∀ q ∈ hd_L_shapeOf, zHdOK cL_shapeOf RL 4 q := List.forall_mem_cons.mpr ⟨⟨⟨by decide, by decide⟩, zmem (i := 243) (by decide +kernel) rfl, by decide +kernel, Or.inl ⟨3, rfl, rfl, by decide +kernel⟩, ⟨1, by decide, by decide +kernel⟩, by decide +kernel⟩, fun _ h => absurd h List.not_mem_nil⟩
def cs_L_shapeOf : List (Nat × zCall) := [(21, 0, 2, some 5, 1, 6, false, zMc sp_X4_shapeOf)]
theorem hcs_L_shapeOf {l : Launch} (hl0 : l.stackTraces = false) : ∀ q ∈ cs_L_shapeOf, zCallable l RL 4 q := List.forall_mem_cons.mpr ⟨zcV (C := (RX4, TX4, 6)) (ps := [385, 386, 387, 28, 388]) (CT_mono (c_X4_shapeOf hl0)) (by decide +kernel) rfl ⟨rfl, by decide +kernel, by decide +kernel, by decide +kernel⟩ (by decide) (by decide), fun _ h => absurd h List.not_mem_nil⟩
def sp_L_shapeOf : zSpec := fun args w Q _ => ∃ α ν β μ f a, args = [.ref 0, .int a, .ref 36] ∧ w = zW3 α ν β μ f ∧ sp_X4_shapeOf [.ref 0, .int a] (zW3 α ν β μ f) (zQw β μ f Q) (zXw [(zIOO, 1)] Q)
set_option maxHeartbeats 4000000 in
set_option maxRecDepth 20000 in
theorem c_L_shapeOf {l : Launch} (hl0 : l.stackTraces = false) : CT l yL_shapeOf (.codeWith yL_shapeOf cL_shapeOf 4 (some .int) (zHdS 9 hd_L_shapeOf)) 4 1 6 false sp_L_shapeOf := by
  refine zCT_ofH (own := RL) cs_L_shapeOf pg_L_shapeOf 9 hd_L_shapeOf rfl (by decide +kernel) hp_L_shapeOf ⟨_, _, rfl, rfl⟩ (hcs_L_shapeOf hl0) hhd_L_shapeOf (fun args w Q X h => ?_)
  obtain ⟨α, ν, β, μ, f, a, rfl, rfl, hSp⟩ := h
  refine ⟨Nat.le_of_ble_eq_true rfl, 40, [], ?_, fun q hq => absurd hq List.not_mem_nil⟩
  (conv => whnf)
  refine ⟨_, _, hSp, fun rv w9 hq => ?_, fun E w9 hx => ?_⟩
  · obtain ⟨x, α', ν', rfl, rfl, hq⟩ := hq
    (conv => whnf)
    refine ⟨vp_in_nI (show 0 < 1 by decide) (by decide), ?_⟩
    (conv => whnf)
    show Q (some (.int (nI 0))) (zW3 α' ν' β μ (vp_updL f (nI 0).toNatClampNeg x.toInt64))
    rw [nI_clamp (by decide)]
    exact hq
  · obtain ⟨k, hk, hq⟩ := hx
    have e := List.mem_singleton.mp hk
    cases e
    (conv => whnf)
    exact ⟨[], ("java/lang/IndexOutOfBoundsException", 12, 13, 3, 1, 1), [], rfl, rfl, by decide +kernel, Nat.le_of_ble_eq_true rfl, Nat.le_of_ble_eq_true rfl, Nat.le_of_ble_eq_true rfl, hq⟩
def pg_L_size : List zE := [(0, .aload_n 2, 1, []), (1, .iconst 0, 1, [0]), (2, .aload_n 0, 1, []), (3, .iload_n 1, 1, []), (4, .invokevirtual 25, 3, []), (7, .i2l, 1, []), (8, .lastore, 1, []), (9, .goto 6, 3, [15]), (15, .iconst 0, 1, [0]), (16, .ireturn, 1, [])]
theorem hp_L_size : ∀ q ∈ pg_L_size, decode cL_size q.1 = .ok (q.2.1, q.2.2.1) ∧ ztg q.2.1 q.1 q.2.2.1 q.2.2.2 = true := zpg_of (by decide +kernel)
def hd_L_size : List zHd := [("java/lang/IndexOutOfBoundsException", 12, 13, 3, 1, 1)]
theorem hhd_L_size : ∀ q ∈ hd_L_size, zHdOK cL_size RL 4 q := List.forall_mem_cons.mpr ⟨⟨⟨by decide, by decide⟩, zmem (i := 243) (by decide +kernel) rfl, by decide +kernel, Or.inl ⟨3, rfl, rfl, by decide +kernel⟩, ⟨1, by decide, by decide +kernel⟩, by decide +kernel⟩, fun _ h => absurd h List.not_mem_nil⟩
def cs_L_size : List (Nat × zCall) := [(25, 0, 2, some 5, 1, 6, false, zMc sp_X4_size)]
theorem hcs_L_size {l : Launch} (hl0 : l.stackTraces = false) : ∀ q ∈ cs_L_size, zCallable l RL 5 q := List.forall_mem_cons.mpr ⟨zcV (C := (RX4, TX4, 6)) (ps := [396, 397, 398, 28, 399]) (CT_mono (c_X4_size hl0)) (by decide +kernel) rfl ⟨rfl, by decide +kernel, by decide +kernel, by decide +kernel⟩ (by decide) (by decide), fun _ h => absurd h List.not_mem_nil⟩
def sp_L_size : zSpec := fun args w Q _ => ∃ α ν β μ f a, args = [.ref 0, .int a, .ref 36] ∧ w = zW3 α ν β μ f ∧ sp_X4_size [.ref 0, .int a] (zW3 α ν β μ f) (zQw β μ f Q) (zXw [(zIOO, 1)] Q)
set_option maxHeartbeats 4000000 in
set_option maxRecDepth 20000 in
theorem c_L_size {l : Launch} (hl0 : l.stackTraces = false) : CT l yL_size (.codeWith yL_size cL_size 4 (some .int) (zHdS 9 hd_L_size)) 5 1 6 false sp_L_size := by
  refine zCT_ofH (own := RL) cs_L_size pg_L_size 9 hd_L_size rfl (by decide +kernel) hp_L_size ⟨_, _, rfl, rfl⟩ (hcs_L_size hl0) hhd_L_size (fun args w Q X h => ?_)
  obtain ⟨α, ν, β, μ, f, a, rfl, rfl, hSp⟩ := h
  refine ⟨Nat.le_of_ble_eq_true rfl, 40, [], ?_, fun q hq => absurd hq List.not_mem_nil⟩
  (conv => whnf)
  refine ⟨_, _, hSp, fun rv w9 hq => ?_, fun E w9 hx => ?_⟩
  · obtain ⟨x, α', ν', rfl, rfl, hq⟩ := hq
    (conv => whnf)
    refine ⟨vp_in_nI (show 0 < 1 by decide) (by decide), ?_⟩
    (conv => whnf)
    show Q (some (.int (nI 0))) (zW3 α' ν' β μ (vp_updL f (nI 0).toNatClampNeg x.toInt64))
    rw [nI_clamp (by decide)]
    exact hq
  · obtain ⟨k, hk, hq⟩ := hx
    have e := List.mem_singleton.mp hk
    cases e
    (conv => whnf)
    exact ⟨[], ("java/lang/IndexOutOfBoundsException", 12, 13, 3, 1, 1), [], rfl, rfl, by decide +kernel, Nat.le_of_ble_eq_true rfl, Nat.le_of_ble_eq_true rfl, Nat.le_of_ble_eq_true rfl, hq⟩
def pg_L_top : List zE := [(0, .aload_n 2, 1, []), (1, .iconst 0, 1, [0]), (2, .aload_n 0, 1, []), (3, .iload_n 1, 1, []), (4, .invokevirtual 28, 3, []), (7, .i2l, 1, []), (8, .lastore, 1, []), (9, .goto 6, 3, [15]), (15, .iconst 0, 1, [0]), (16, .ireturn, 1, [])]
theorem hp_L_top : ∀ q ∈ pg_L_top, decode cL_top q.1 = .ok (q.2.1, q.2.2.1) ∧ ztg q.2.1 q.1 q.2.2.1 q.2.2.2 = true := zpg_of (by decide +kernel)
def hd_L_top : List zHd := [("java/lang/IndexOutOfBoundsException", 12, 13, 3, 1, 1)]
theorem hhd_L_top : ∀ q ∈ hd_L_top, zHdOK cL_top RL 4 q := List.forall_mem_cons.mpr ⟨⟨⟨by decide, by decide⟩, zmem (i := 243) (by decide +kernel) rfl, by decide +kernel, Or.inl ⟨3, rfl, rfl, by decide +kernel⟩, ⟨1, by decide, by decide +kernel⟩, by decide +kernel⟩, fun _ h => absurd h List.not_mem_nil⟩
def cs_L_top : List (Nat × zCall) := [(28, 0, 2, some 5, 1, 6, false, zMc sp_X4_top)]
theorem hcs_L_top {l : Launch} (hl0 : l.stackTraces = false) : ∀ q ∈ cs_L_top, zCallable l RL 5 q := List.forall_mem_cons.mpr ⟨zcV (C := (RX4, TX4, 6)) (ps := [411, 412, 413, 28, 414]) (CT_mono (c_X4_top hl0)) (by decide +kernel) rfl ⟨rfl, by decide +kernel, by decide +kernel, by decide +kernel⟩ (by decide) (by decide), fun _ h => absurd h List.not_mem_nil⟩
def sp_L_top : zSpec := fun args w Q _ => ∃ α ν β μ f a, args = [.ref 0, .int a, .ref 36] ∧ w = zW3 α ν β μ f ∧ sp_X4_top [.ref 0, .int a] (zW3 α ν β μ f) (zQw β μ f Q) (zXw [(zIOO, 1)] Q)
set_option maxHeartbeats 4000000 in
set_option maxRecDepth 20000 in
theorem c_L_top {l : Launch} (hl0 : l.stackTraces = false) : CT l yL_top (.codeWith yL_top cL_top 4 (some .int) (zHdS 9 hd_L_top)) 5 1 6 false sp_L_top := by
  refine zCT_ofH (own := RL) cs_L_top pg_L_top 9 hd_L_top rfl (by decide +kernel) hp_L_top ⟨_, _, rfl, rfl⟩ (hcs_L_top hl0) hhd_L_top (fun args w Q X h => ?_)
  obtain ⟨α, ν, β, μ, f, a, rfl, rfl, hSp⟩ := h
  refine ⟨Nat.le_of_ble_eq_true rfl, 40, [], ?_, fun q hq => absurd hq List.not_mem_nil⟩
  (conv => whnf)
  refine ⟨_, _, hSp, fun rv w9 hq => ?_, fun E w9 hx => ?_⟩
  · obtain ⟨x, α', ν', rfl, rfl, hq⟩ := hq
    (conv => whnf)
    refine ⟨vp_in_nI (show 0 < 1 by decide) (by decide), ?_⟩
    (conv => whnf)
    show Q (some (.int (nI 0))) (zW3 α' ν' β μ (vp_updL f (nI 0).toNatClampNeg x.toInt64))
    rw [nI_clamp (by decide)]
    exact hq
  · obtain ⟨k, hk, hq⟩ := hx
    have e := List.mem_singleton.mp hk
    cases e
    (conv => whnf)
    exact ⟨[], ("java/lang/IndexOutOfBoundsException", 12, 13, 3, 1, 1), [], rfl, rfl, by decide +kernel, Nat.le_of_ble_eq_true rfl, Nat.le_of_ble_eq_true rfl, Nat.le_of_ble_eq_true rfl, hq⟩
def pg_L_nameOf : List zE := [(0, .aload_n 2, 1, []), (1, .iconst 0, 1, [0]), (2, .aload_n 0, 1, []), (3, .iload_n 1, 1, []), (4, .invokevirtual 31, 3, []), (7, .i2l, 1, []), (8, .lastore, 1, []), (9, .goto 6, 3, [15]), (15, .iconst 0, 1, [0]), (16, .ireturn, 1, [])]
theorem hp_L_nameOf : ∀ q ∈ pg_L_nameOf, decode cL_nameOf q.1 = .ok (q.2.1, q.2.2.1) ∧ ztg q.2.1 q.1 q.2.2.1 q.2.2.2 = true := zpg_of (by decide +kernel)
def hd_L_nameOf : List zHd := [("java/lang/IndexOutOfBoundsException", 12, 13, 3, 1, 1)]
theorem hhd_L_nameOf : ∀ q ∈ hd_L_nameOf, zHdOK cL_nameOf RL 4 q := List.forall_mem_cons.mpr ⟨⟨⟨by decide, by decide⟩, zmem (i := 243) (by decide +kernel) rfl, by decide +kernel, Or.inl ⟨3, rfl, rfl, by decide +kernel⟩, ⟨1, by decide, by decide +kernel⟩, by decide +kernel⟩, fun _ h => absurd h List.not_mem_nil⟩
def cs_L_nameOf : List (Nat × zCall) := [(31, 0, 2, some 5, 1, 6, false, zMc sp_X4_nameOf)]
theorem hcs_L_nameOf {l : Launch} (hl0 : l.stackTraces = false) : ∀ q ∈ cs_L_nameOf, zCallable l RL 5 q := List.forall_mem_cons.mpr ⟨zcV (C := (RX4, TX4, 6)) (ps := [425, 426, 427, 28, 428]) (CT_mono (c_X4_nameOf hl0)) (by decide +kernel) rfl ⟨rfl, by decide +kernel, by decide +kernel, by decide +kernel⟩ (by decide) (by decide), fun _ h => absurd h List.not_mem_nil⟩
def sp_L_nameOf : zSpec := fun args w Q _ => ∃ α ν β μ f a, args = [.ref 0, .int a, .ref 36] ∧ w = zW3 α ν β μ f ∧ sp_X4_nameOf [.ref 0, .int a] (zW3 α ν β μ f) (zQw β μ f Q) (zXw [(zIOO, 1)] Q)
set_option maxHeartbeats 4000000 in
set_option maxRecDepth 20000 in
theorem c_L_nameOf {l : Launch} (hl0 : l.stackTraces = false) : CT l yL_nameOf (.codeWith yL_nameOf cL_nameOf 4 (some .int) (zHdS 9 hd_L_nameOf)) 5 1 6 false sp_L_nameOf := by
  refine zCT_ofH (own := RL) cs_L_nameOf pg_L_nameOf 9 hd_L_nameOf rfl (by decide +kernel) hp_L_nameOf ⟨_, _, rfl, rfl⟩ (hcs_L_nameOf hl0) hhd_L_nameOf (fun args w Q X h => ?_)
  obtain ⟨α, ν, β, μ, f, a, rfl, rfl, hSp⟩ := h
  refine ⟨Nat.le_of_ble_eq_true rfl, 40, [], ?_, fun q hq => absurd hq List.not_mem_nil⟩
  (conv => whnf)
  refine ⟨_, _, hSp, fun rv w9 hq => ?_, fun E w9 hx => ?_⟩
  · obtain ⟨x, α', ν', rfl, rfl, hq⟩ := hq
    (conv => whnf)
    refine ⟨vp_in_nI (show 0 < 1 by decide) (by decide), ?_⟩
    (conv => whnf)
    show Q (some (.int (nI 0))) (zW3 α' ν' β μ (vp_updL f (nI 0).toNatClampNeg x.toInt64))
    rw [nI_clamp (by decide)]
    exact hq
  · obtain ⟨k, hk, hq⟩ := hx
    have e := List.mem_singleton.mp hk
    cases e
    (conv => whnf)
    exact ⟨[], ("java/lang/IndexOutOfBoundsException", 12, 13, 3, 1, 1), [], rfl, rfl, by decide +kernel, Nat.le_of_ble_eq_true rfl, Nat.le_of_ble_eq_true rfl, Nat.le_of_ble_eq_true rfl, hq⟩
def pg_L_titleAt : List zE := [(0, .aload_n 3, 1, []), (1, .iconst 0, 1, [0]), (2, .aload_n 0, 1, []), (3, .iload_n 1, 1, []), (4, .iload_n 2, 1, []), (5, .invokevirtual 34, 3, []), (8, .i2l, 1, []), (9, .lastore, 1, []), (10, .goto 7, 3, [17]), (17, .iconst 0, 1, [0]), (18, .ireturn, 1, [])]
theorem hp_L_titleAt : ∀ q ∈ pg_L_titleAt, decode cL_titleAt q.1 = .ok (q.2.1, q.2.2.1) ∧ ztg q.2.1 q.1 q.2.2.1 q.2.2.2 = true := zpg_of (by decide +kernel)
def hd_L_titleAt : List zHd := [("java/lang/IndexOutOfBoundsException", 13, 13, 4, 2, 1)]
theorem hhd_L_titleAt : ∀ q ∈ hd_L_titleAt, zHdOK cL_titleAt RL 5 q := List.forall_mem_cons.mpr ⟨⟨⟨by decide, by decide⟩, zmem (i := 243) (by decide +kernel) rfl, by decide +kernel, Or.inr ⟨rfl, by decide +kernel⟩, ⟨1, by decide, by decide +kernel⟩, by decide +kernel⟩, fun _ h => absurd h List.not_mem_nil⟩
def cs_L_titleAt : List (Nat × zCall) := [(34, 0, 3, some 5, 2, 12, false, zMc sp_X4_titleAt)]
theorem hcs_L_titleAt {l : Launch} (hl0 : l.stackTraces = false) : ∀ q ∈ cs_L_titleAt, zCallable l RL 8 q := List.forall_mem_cons.mpr ⟨zcV (C := (RX4, TX4, 6)) (ps := [436, 437, 438, 28, 439]) (CT_mono (c_X4_titleAt hl0)) (by decide +kernel) rfl ⟨rfl, by decide +kernel, by decide +kernel, by decide +kernel⟩ (by decide) (by decide), fun _ h => absurd h List.not_mem_nil⟩
def sp_L_titleAt : zSpec := fun args w Q _ => ∃ α ν β μ f a b, args = [.ref 0, .int a, .int b, .ref 36] ∧ w = zW3 α ν β μ f ∧ sp_X4_titleAt [.ref 0, .int a, .int b] (zW3 α ν β μ f) (zQw β μ f Q) (zXw [(zIOO, 1)] Q)
set_option maxHeartbeats 4000000 in
set_option maxRecDepth 20000 in
theorem c_L_titleAt {l : Launch} (hl0 : l.stackTraces = false) : CT l yL_titleAt (.codeWith yL_titleAt cL_titleAt 5 (some .int) (zHdS 10 hd_L_titleAt)) 8 2 12 false sp_L_titleAt := by
  refine zCT_ofH (own := RL) cs_L_titleAt pg_L_titleAt 10 hd_L_titleAt rfl (by decide +kernel) hp_L_titleAt ⟨_, _, rfl, rfl⟩ (hcs_L_titleAt hl0) hhd_L_titleAt (fun args w Q X h => ?_)
  obtain ⟨α, ν, β, μ, f, a, b, rfl, rfl, hSp⟩ := h
  refine ⟨Nat.le_of_ble_eq_true rfl, 40, [], ?_, fun q hq => absurd hq List.not_mem_nil⟩
  (conv => whnf)
  refine ⟨_, _, hSp, fun rv w9 hq => ?_, fun E w9 hx => ?_⟩
  · obtain ⟨x, α', ν', rfl, rfl, hq⟩ := hq
    (conv => whnf)
    refine ⟨vp_in_nI (show 0 < 1 by decide) (by decide), ?_⟩
    (conv => whnf)
    show Q (some (.int (nI 0))) (zW3 α' ν' β μ (vp_updL f (nI 0).toNatClampNeg x.toInt64))
    rw [nI_clamp (by decide)]
    exact hq
  · obtain ⟨k, hk, hq⟩ := hx
    have e := List.mem_singleton.mp hk
    cases e
    (conv => whnf)
    exact ⟨[], ("java/lang/IndexOutOfBoundsException", 13, 13, 4, 2, 1), [], rfl, rfl, by decide +kernel, Nat.le_of_ble_eq_true rfl, Nat.le_of_ble_eq_true rfl, Nat.le_of_ble_eq_true rfl, hq⟩
def pg_L_name : List zE := [(0, .aload 5, 2, []), (2, .iconst 0, 1, [0]), (3, .aload_n 0, 1, []), (4, .iload_n 1, 1, []), (5, .iload_n 2, 1, []), (6, .iload_n 3, 1, []), (7, .iload 4, 2, []), (9, .invokevirtual 37, 3, []), (12, .i2l, 1, []), (13, .lastore, 1, []), (14, .goto 15, 3, [29]), (29, .iconst 0, 1, [0]), (30, .ireturn, 1, [])]
theorem hp_L_name : ∀ q ∈ pg_L_name, decode cL_name q.1 = .ok (q.2.1, q.2.2.1) ∧ ztg q.2.1 q.1 q.2.2.1 q.2.2.2 = true := zpg_of (by decide +kernel)
def hd_L_name : List zHd := [("java/lang/IndexOutOfBoundsException", 17, 13, 6, 2, 1), ("java/lang/IllegalArgumentException", 21, 15, 6, 2, 2), ("java/lang/IllegalStateException", 25, 41, 6, 2, 3)]
theorem hhd_L_name : ∀ q ∈ hd_L_name, zHdOK cL_name RL 7 q := List.forall_mem_cons.mpr ⟨⟨⟨by decide, by decide⟩, zmem (i := 243) (by decide +kernel) rfl, by decide +kernel, Or.inr ⟨rfl, by decide +kernel⟩, ⟨1, by decide, by decide +kernel⟩, by decide +kernel⟩, List.forall_mem_cons.mpr ⟨⟨⟨by decide, by decide⟩, zmem (i := 244) (by decide +kernel) rfl, by decide +kernel, Or.inr ⟨rfl, by decide +kernel⟩, ⟨2, by decide, by decide +kernel⟩, by decide +kernel⟩, List.forall_mem_cons.mpr ⟨⟨⟨by decide, by decide⟩, zmem (i := 782) (by decide +kernel) rfl, by decide +kernel, Or.inr ⟨rfl, by decide +kernel⟩, ⟨3, by decide, by decide +kernel⟩, by decide +kernel⟩, fun _ h => absurd h List.not_mem_nil⟩⟩⟩
def cs_L_name : List (Nat × zCall) := [(37, 0, 5, some 5, 6, 36, false, zMc sp_X4_name)]
theorem hcs_L_name {l : Launch} (hl0 : l.stackTraces = false) : ∀ q ∈ cs_L_name, zCallable l RL 7 q := List.forall_mem_cons.mpr ⟨zcV (C := (RX4, TX4, 6)) (ps := [783, 784, 785, 28, 786]) (CT_mono (c_X4_name hl0)) (by decide +kernel) rfl ⟨rfl, by decide +kernel, by decide +kernel, by decide +kernel⟩ (by decide) (by decide), fun _ h => absurd h List.not_mem_nil⟩
def sp_L_name : zSpec := fun args w Q _ => ∃ α ν β μ f a b c d, args = [.ref 0, .int a, .int b, .int c, .int d, .ref 36] ∧ w = zW3 α ν β μ f ∧ sp_X4_name [.ref 0, .int a, .int b, .int c, .int d] (zW3 α ν β μ f) (zQw β μ f Q) (zXw [(zIOO, 1), (zIAE, 2), (zISE, 3)] Q)
set_option maxHeartbeats 4000000 in
set_option maxRecDepth 20000 in
theorem c_L_name {l : Launch} (hl0 : l.stackTraces = false) : CT l yL_name (.codeWith yL_name cL_name 7 (some .int) (zHdS 14 hd_L_name)) 7 6 36 false sp_L_name := by
  refine zCT_ofH (own := RL) cs_L_name pg_L_name 14 hd_L_name rfl (by decide +kernel) hp_L_name ⟨_, _, rfl, rfl⟩ (hcs_L_name hl0) hhd_L_name (fun args w Q X h => ?_)
  obtain ⟨α, ν, β, μ, f, a, b, c, d, rfl, rfl, hSp⟩ := h
  refine ⟨Nat.le_of_ble_eq_true rfl, 40, [], ?_, fun q hq => absurd hq List.not_mem_nil⟩
  (conv => whnf)
  refine ⟨_, _, hSp, fun rv w9 hq => ?_, fun E w9 hx => ?_⟩
  · obtain ⟨x, α', ν', rfl, rfl, hq⟩ := hq
    (conv => whnf)
    refine ⟨vp_in_nI (show 0 < 1 by decide) (by decide), ?_⟩
    (conv => whnf)
    show Q (some (.int (nI 0))) (zW3 α' ν' β μ (vp_updL f (nI 0).toNatClampNeg x.toInt64))
    rw [nI_clamp (by decide)]
    exact hq
  · obtain ⟨k, hk, hq⟩ := hx
    rcases List.mem_cons.mp hk with e | hk
    · cases e
      (conv => whnf)
      exact ⟨[], ("java/lang/IndexOutOfBoundsException", 17, 13, 6, 2, 1), [("java/lang/IllegalArgumentException", 21, 15, 6, 2, 2), ("java/lang/IllegalStateException", 25, 41, 6, 2, 3)], rfl, rfl, by decide +kernel, Nat.le_of_ble_eq_true rfl, Nat.le_of_ble_eq_true rfl, Nat.le_of_ble_eq_true rfl, hq⟩
    rcases List.mem_cons.mp hk with e | hk
    · cases e
      (conv => whnf)
      exact ⟨[("java/lang/IndexOutOfBoundsException", 17, 13, 6, 2, 1)], ("java/lang/IllegalArgumentException", 21, 15, 6, 2, 2), [("java/lang/IllegalStateException", 25, 41, 6, 2, 3)], rfl, rfl, by decide +kernel, Nat.le_of_ble_eq_true rfl, Nat.le_of_ble_eq_true rfl, Nat.le_of_ble_eq_true rfl, hq⟩
    have e := List.mem_singleton.mp hk
    cases e
    (conv => whnf)
    exact ⟨[("java/lang/IndexOutOfBoundsException", 17, 13, 6, 2, 1), ("java/lang/IllegalArgumentException", 21, 15, 6, 2, 2)], ("java/lang/IllegalStateException", 25, 41, 6, 2, 3), [], rfl, rfl, by decide +kernel, Nat.le_of_ble_eq_true rfl, Nat.le_of_ble_eq_true rfl, Nat.le_of_ble_eq_true rfl, hq⟩
def pg_L_raise : List zE := [(0, .aload 5, 2, []), (2, .iconst 0, 1, [0]), (3, .aload_n 0, 1, []), (4, .iload_n 1, 1, []), (5, .iload_n 2, 1, []), (6, .iload_n 3, 1, []), (7, .iload 4, 2, []), (9, .invokevirtual 43, 3, []), (12, .i2l, 1, []), (13, .lastore, 1, []), (14, .goto 15, 3, [29]), (29, .iconst 0, 1, [0]), (30, .ireturn, 1, [])]
theorem hp_L_raise : ∀ q ∈ pg_L_raise, decode cL_raise q.1 = .ok (q.2.1, q.2.2.1) ∧ ztg q.2.1 q.1 q.2.2.1 q.2.2.2 = true := zpg_of (by decide +kernel)
def hd_L_raise : List zHd := [("java/lang/IndexOutOfBoundsException", 17, 13, 6, 2, 1), ("java/lang/IllegalArgumentException", 21, 15, 6, 2, 2), ("java/lang/IllegalStateException", 25, 41, 6, 2, 3)]
theorem hhd_L_raise : ∀ q ∈ hd_L_raise, zHdOK cL_raise RL 7 q := List.forall_mem_cons.mpr ⟨⟨⟨by decide, by decide⟩, zmem (i := 243) (by decide +kernel) rfl, by decide +kernel, Or.inr ⟨rfl, by decide +kernel⟩, ⟨1, by decide, by decide +kernel⟩, by decide +kernel⟩, List.forall_mem_cons.mpr ⟨⟨⟨by decide, by decide⟩, zmem (i := 244) (by decide +kernel) rfl, by decide +kernel, Or.inr ⟨rfl, by decide +kernel⟩, ⟨2, by decide, by decide +kernel⟩, by decide +kernel⟩, List.forall_mem_cons.mpr ⟨⟨⟨by decide, by decide⟩, zmem (i := 782) (by decide +kernel) rfl, by decide +kernel, Or.inr ⟨rfl, by decide +kernel⟩, ⟨3, by decide, by decide +kernel⟩, by decide +kernel⟩, fun _ h => absurd h List.not_mem_nil⟩⟩⟩
def cs_L_raise : List (Nat × zCall) := [(43, 0, 5, some 5, 9, 54, false, zMc sp_X4_raise)]
theorem hcs_L_raise {l : Launch} (hl0 : l.stackTraces = false) : ∀ q ∈ cs_L_raise, zCallable l RL 7 q := List.forall_mem_cons.mpr ⟨zcV (C := (RX4, TX4, 6)) (ps := [850, 851, 852, 28, 853]) (CT_mono (c_X4_raise hl0)) (by decide +kernel) rfl ⟨rfl, by decide +kernel, by decide +kernel, by decide +kernel⟩ (by decide) (by decide), fun _ h => absurd h List.not_mem_nil⟩
def sp_L_raise : zSpec := fun args w Q _ => ∃ α ν β μ f a b c d, args = [.ref 0, .int a, .int b, .int c, .int d, .ref 36] ∧ w = zW3 α ν β μ f ∧ sp_X4_raise [.ref 0, .int a, .int b, .int c, .int d] (zW3 α ν β μ f) (zQw β μ f Q) (zXw [(zIOO, 1), (zIAE, 2), (zISE, 3)] Q)
set_option maxHeartbeats 4000000 in
set_option maxRecDepth 20000 in
theorem c_L_raise {l : Launch} (hl0 : l.stackTraces = false) : CT l yL_raise (.codeWith yL_raise cL_raise 7 (some .int) (zHdS 14 hd_L_raise)) 7 9 54 false sp_L_raise := by
  refine zCT_ofH (own := RL) cs_L_raise pg_L_raise 14 hd_L_raise rfl (by decide +kernel) hp_L_raise ⟨_, _, rfl, rfl⟩ (hcs_L_raise hl0) hhd_L_raise (fun args w Q X h => ?_)
  obtain ⟨α, ν, β, μ, f, a, b, c, d, rfl, rfl, hSp⟩ := h
  refine ⟨Nat.le_of_ble_eq_true rfl, 40, [], ?_, fun q hq => absurd hq List.not_mem_nil⟩
  (conv => whnf)
  refine ⟨_, _, hSp, fun rv w9 hq => ?_, fun E w9 hx => ?_⟩
  · obtain ⟨x, α', ν', rfl, rfl, hq⟩ := hq
    (conv => whnf)
    refine ⟨vp_in_nI (show 0 < 1 by decide) (by decide), ?_⟩
    (conv => whnf)
    show Q (some (.int (nI 0))) (zW3 α' ν' β μ (vp_updL f (nI 0).toNatClampNeg x.toInt64))
    rw [nI_clamp (by decide)]
    exact hq
  · obtain ⟨k, hk, hq⟩ := hx
    rcases List.mem_cons.mp hk with e | hk
    · cases e
      (conv => whnf)
      exact ⟨[], ("java/lang/IndexOutOfBoundsException", 17, 13, 6, 2, 1), [("java/lang/IllegalArgumentException", 21, 15, 6, 2, 2), ("java/lang/IllegalStateException", 25, 41, 6, 2, 3)], rfl, rfl, by decide +kernel, Nat.le_of_ble_eq_true rfl, Nat.le_of_ble_eq_true rfl, Nat.le_of_ble_eq_true rfl, hq⟩
    rcases List.mem_cons.mp hk with e | hk
    · cases e
      (conv => whnf)
      exact ⟨[("java/lang/IndexOutOfBoundsException", 17, 13, 6, 2, 1)], ("java/lang/IllegalArgumentException", 21, 15, 6, 2, 2), [("java/lang/IllegalStateException", 25, 41, 6, 2, 3)], rfl, rfl, by decide +kernel, Nat.le_of_ble_eq_true rfl, Nat.le_of_ble_eq_true rfl, Nat.le_of_ble_eq_true rfl, hq⟩
    have e := List.mem_singleton.mp hk
    cases e
    (conv => whnf)
    exact ⟨[("java/lang/IndexOutOfBoundsException", 17, 13, 6, 2, 1), ("java/lang/IllegalArgumentException", 21, 15, 6, 2, 2)], ("java/lang/IllegalStateException", 25, 41, 6, 2, 3), [], rfl, rfl, by decide +kernel, Nat.le_of_ble_eq_true rfl, Nat.le_of_ble_eq_true rfl, Nat.le_of_ble_eq_true rfl, hq⟩
def pg_L_fill : List zE := [(0, .aload_n 2, 1, []), (1, .iconst 0, 1, [0]), (2, .aload_n 0, 1, []), (3, .iload_n 1, 1, []), (4, .invokevirtual 46, 3, []), (7, .i2l, 1, []), (8, .lastore, 1, []), (9, .goto 9, 3, [18]), (18, .iconst 0, 1, [0]), (19, .ireturn, 1, [])]
theorem hp_L_fill : ∀ q ∈ pg_L_fill, decode cL_fill q.1 = .ok (q.2.1, q.2.2.1) ∧ ztg q.2.1 q.1 q.2.2.1 q.2.2.2 = true := zpg_of (by decide +kernel)
def hd_L_fill : List zHd := [("java/lang/IndexOutOfBoundsException", 12, 13, 3, 1, 1), ("java/lang/IllegalStateException", 15, 41, 3, 1, 2)]
theorem hhd_L_fill : ∀ q ∈ hd_L_fill, zHdOK cL_fill RL 4 q := List.forall_mem_cons.mpr ⟨⟨⟨by decide, by decide⟩, zmem (i := 243) (by decide +kernel) rfl, by decide +kernel, Or.inl ⟨3, rfl, rfl, by decide +kernel⟩, ⟨1, by decide, by decide +kernel⟩, by decide +kernel⟩, List.forall_mem_cons.mpr ⟨⟨⟨by decide, by decide⟩, zmem (i := 782) (by decide +kernel) rfl, by decide +kernel, Or.inl ⟨3, rfl, rfl, by decide +kernel⟩, ⟨2, by decide, by decide +kernel⟩, by decide +kernel⟩, fun _ h => absurd h List.not_mem_nil⟩⟩
def cs_L_fill : List (Nat × zCall) := [(46, 0, 2, some 5, 2, 12, false, zMc sp_X4_fill)]
theorem hcs_L_fill {l : Launch} (hl0 : l.stackTraces = false) : ∀ q ∈ cs_L_fill, zCallable l RL 6 q := List.forall_mem_cons.mpr ⟨zcV (C := (RX4, TX4, 6)) (ps := [884, 885, 886, 28, 887]) (CT_mono (c_X4_fill hl0)) (by decide +kernel) rfl ⟨rfl, by decide +kernel, by decide +kernel, by decide +kernel⟩ (by decide) (by decide), fun _ h => absurd h List.not_mem_nil⟩
def sp_L_fill : zSpec := fun args w Q _ => ∃ α ν β μ f a, args = [.ref 0, .int a, .ref 36] ∧ w = zW3 α ν β μ f ∧ sp_X4_fill [.ref 0, .int a] (zW3 α ν β μ f) (zQw β μ f Q) (zXw [(zIOO, 1), (zISE, 2)] Q)
set_option maxHeartbeats 4000000 in
set_option maxRecDepth 20000 in
theorem c_L_fill {l : Launch} (hl0 : l.stackTraces = false) : CT l yL_fill (.codeWith yL_fill cL_fill 4 (some .int) (zHdS 9 hd_L_fill)) 6 2 12 false sp_L_fill := by
  refine zCT_ofH (own := RL) cs_L_fill pg_L_fill 9 hd_L_fill rfl (by decide +kernel) hp_L_fill ⟨_, _, rfl, rfl⟩ (hcs_L_fill hl0) hhd_L_fill (fun args w Q X h => ?_)
  obtain ⟨α, ν, β, μ, f, a, rfl, rfl, hSp⟩ := h
  refine ⟨Nat.le_of_ble_eq_true rfl, 40, [], ?_, fun q hq => absurd hq List.not_mem_nil⟩
  (conv => whnf)
  refine ⟨_, _, hSp, fun rv w9 hq => ?_, fun E w9 hx => ?_⟩
  · obtain ⟨x, α', ν', rfl, rfl, hq⟩ := hq
    (conv => whnf)
    refine ⟨vp_in_nI (show 0 < 1 by decide) (by decide), ?_⟩
    (conv => whnf)
    show Q (some (.int (nI 0))) (zW3 α' ν' β μ (vp_updL f (nI 0).toNatClampNeg x.toInt64))
    rw [nI_clamp (by decide)]
    exact hq
  · obtain ⟨k, hk, hq⟩ := hx
    rcases List.mem_cons.mp hk with e | hk
    · cases e
      (conv => whnf)
      exact ⟨[], ("java/lang/IndexOutOfBoundsException", 12, 13, 3, 1, 1), [("java/lang/IllegalStateException", 15, 41, 3, 1, 2)], rfl, rfl, by decide +kernel, Nat.le_of_ble_eq_true rfl, Nat.le_of_ble_eq_true rfl, Nat.le_of_ble_eq_true rfl, hq⟩
    have e := List.mem_singleton.mp hk
    cases e
    (conv => whnf)
    exact ⟨[("java/lang/IndexOutOfBoundsException", 12, 13, 3, 1, 1)], ("java/lang/IllegalStateException", 15, 41, 3, 1, 2), [], rfl, rfl, by decide +kernel, Nat.le_of_ble_eq_true rfl, Nat.le_of_ble_eq_true rfl, Nat.le_of_ble_eq_true rfl, hq⟩
def pg_L_air : List zE := [(0, .aload_n 2, 1, []), (1, .iconst 0, 1, [0]), (2, .aload_n 0, 1, []), (3, .iload_n 1, 1, []), (4, .invokevirtual 49, 3, []), (7, .i2l, 1, []), (8, .lastore, 1, []), (9, .goto 6, 3, [15]), (15, .iconst 0, 1, [0]), (16, .ireturn, 1, [])]
theorem hp_L_air : ∀ q ∈ pg_L_air, decode cL_air q.1 = .ok (q.2.1, q.2.2.1) ∧ ztg q.2.1 q.1 q.2.2.1 q.2.2.2 = true := zpg_of (by decide +kernel)
def hd_L_air : List zHd := [("java/lang/IndexOutOfBoundsException", 12, 13, 3, 1, 1)]
theorem hhd_L_air : ∀ q ∈ hd_L_air, zHdOK cL_air RL 4 q := List.forall_mem_cons.mpr ⟨⟨⟨by decide, by decide⟩, zmem (i := 243) (by decide +kernel) rfl, by decide +kernel, Or.inl ⟨3, rfl, rfl, by decide +kernel⟩, ⟨1, by decide, by decide +kernel⟩, by decide +kernel⟩, fun _ h => absurd h List.not_mem_nil⟩
def cs_L_air : List (Nat × zCall) := [(49, 0, 2, some 5, 1, 6, false, zMc sp_X4_air)]
theorem hcs_L_air {l : Launch} (hl0 : l.stackTraces = false) : ∀ q ∈ cs_L_air, zCallable l RL 4 q := List.forall_mem_cons.mpr ⟨zcV (C := (RX4, TX4, 6)) (ps := [895, 896, 897, 28, 898]) (CT_mono (c_X4_air hl0)) (by decide +kernel) rfl ⟨rfl, by decide +kernel, by decide +kernel, by decide +kernel⟩ (by decide) (by decide), fun _ h => absurd h List.not_mem_nil⟩
def sp_L_air : zSpec := fun args w Q _ => ∃ α ν β μ f a, args = [.ref 0, .int a, .ref 36] ∧ w = zW3 α ν β μ f ∧ sp_X4_air [.ref 0, .int a] (zW3 α ν β μ f) (zQw β μ f Q) (zXw [(zIOO, 1)] Q)
set_option maxHeartbeats 4000000 in
set_option maxRecDepth 20000 in
theorem c_L_air {l : Launch} (hl0 : l.stackTraces = false) : CT l yL_air (.codeWith yL_air cL_air 4 (some .int) (zHdS 9 hd_L_air)) 4 1 6 false sp_L_air := by
  refine zCT_ofH (own := RL) cs_L_air pg_L_air 9 hd_L_air rfl (by decide +kernel) hp_L_air ⟨_, _, rfl, rfl⟩ (hcs_L_air hl0) hhd_L_air (fun args w Q X h => ?_)
  obtain ⟨α, ν, β, μ, f, a, rfl, rfl, hSp⟩ := h
  refine ⟨Nat.le_of_ble_eq_true rfl, 40, [], ?_, fun q hq => absurd hq List.not_mem_nil⟩
  (conv => whnf)
  refine ⟨_, _, hSp, fun rv w9 hq => ?_, fun E w9 hx => ?_⟩
  · obtain ⟨x, α', ν', rfl, rfl, hq⟩ := hq
    (conv => whnf)
    refine ⟨vp_in_nI (show 0 < 1 by decide) (by decide), ?_⟩
    (conv => whnf)
    show Q (some (.int (nI 0))) (zW3 α' ν' β μ (vp_updL f (nI 0).toNatClampNeg x.toInt64))
    rw [nI_clamp (by decide)]
    exact hq
  · obtain ⟨k, hk, hq⟩ := hx
    have e := List.mem_singleton.mp hk
    cases e
    (conv => whnf)
    exact ⟨[], ("java/lang/IndexOutOfBoundsException", 12, 13, 3, 1, 1), [], rfl, rfl, by decide +kernel, Nat.le_of_ble_eq_true rfl, Nat.le_of_ble_eq_true rfl, Nat.le_of_ble_eq_true rfl, hq⟩
def pg_L_rest : List zE := [(0, .aload_n 2, 1, []), (1, .iconst 0, 1, [0]), (2, .aload_n 0, 1, []), (3, .iload_n 1, 1, []), (4, .invokevirtual 52, 3, []), (7, .i2l, 1, []), (8, .lastore, 1, []), (9, .goto 6, 3, [15]), (15, .iconst 0, 1, [0]), (16, .ireturn, 1, [])]
theorem hp_L_rest : ∀ q ∈ pg_L_rest, decode cL_rest q.1 = .ok (q.2.1, q.2.2.1) ∧ ztg q.2.1 q.1 q.2.2.1 q.2.2.2 = true := zpg_of (by decide +kernel)
def hd_L_rest : List zHd := [("java/lang/IndexOutOfBoundsException", 12, 13, 3, 1, 1)]
theorem hhd_L_rest : ∀ q ∈ hd_L_rest, zHdOK cL_rest RL 4 q := List.forall_mem_cons.mpr ⟨⟨⟨by decide, by decide⟩, zmem (i := 243) (by decide +kernel) rfl, by decide +kernel, Or.inl ⟨3, rfl, rfl, by decide +kernel⟩, ⟨1, by decide, by decide +kernel⟩, by decide +kernel⟩, fun _ h => absurd h List.not_mem_nil⟩
def cs_L_rest : List (Nat × zCall) := [(52, 0, 2, some 5, 1, 6, false, zMc sp_X4_rest)]
theorem hcs_L_rest {l : Launch} (hl0 : l.stackTraces = false) : ∀ q ∈ cs_L_rest, zCallable l RL 4 q := List.forall_mem_cons.mpr ⟨zcV (C := (RX4, TX4, 6)) (ps := [902, 903, 904, 28, 905]) (CT_mono (c_X4_rest hl0)) (by decide +kernel) rfl ⟨rfl, by decide +kernel, by decide +kernel, by decide +kernel⟩ (by decide) (by decide), fun _ h => absurd h List.not_mem_nil⟩
def sp_L_rest : zSpec := fun args w Q _ => ∃ α ν β μ f a, args = [.ref 0, .int a, .ref 36] ∧ w = zW3 α ν β μ f ∧ sp_X4_rest [.ref 0, .int a] (zW3 α ν β μ f) (zQw β μ f Q) (zXw [(zIOO, 1)] Q)
set_option maxHeartbeats 4000000 in
set_option maxRecDepth 20000 in
theorem c_L_rest {l : Launch} (hl0 : l.stackTraces = false) : CT l yL_rest (.codeWith yL_rest cL_rest 4 (some .int) (zHdS 9 hd_L_rest)) 4 1 6 false sp_L_rest := by
  refine zCT_ofH (own := RL) cs_L_rest pg_L_rest 9 hd_L_rest rfl (by decide +kernel) hp_L_rest ⟨_, _, rfl, rfl⟩ (hcs_L_rest hl0) hhd_L_rest (fun args w Q X h => ?_)
  obtain ⟨α, ν, β, μ, f, a, rfl, rfl, hSp⟩ := h
  refine ⟨Nat.le_of_ble_eq_true rfl, 40, [], ?_, fun q hq => absurd hq List.not_mem_nil⟩
  (conv => whnf)
  refine ⟨_, _, hSp, fun rv w9 hq => ?_, fun E w9 hx => ?_⟩
  · obtain ⟨x, α', ν', rfl, rfl, hq⟩ := hq
    (conv => whnf)
    refine ⟨vp_in_nI (show 0 < 1 by decide) (by decide), ?_⟩
    (conv => whnf)
    show Q (some (.int (nI 0))) (zW3 α' ν' β μ (vp_updL f (nI 0).toNatClampNeg x.toInt64))
    rw [nI_clamp (by decide)]
    exact hq
  · obtain ⟨k, hk, hq⟩ := hx
    have e := List.mem_singleton.mp hk
    cases e
    (conv => whnf)
    exact ⟨[], ("java/lang/IndexOutOfBoundsException", 12, 13, 3, 1, 1), [], rfl, rfl, by decide +kernel, Nat.le_of_ble_eq_true rfl, Nat.le_of_ble_eq_true rfl, Nat.le_of_ble_eq_true rfl, hq⟩
def pg_L_longest : List zE := [(0, .aload_n 3, 1, []), (1, .iconst 0, 1, [0]), (2, .aload_n 0, 1, []), (3, .iload_n 1, 1, []), (4, .iload_n 2, 1, []), (5, .invokevirtual 55, 3, []), (8, .i2l, 1, []), (9, .lastore, 1, []), (10, .goto 7, 3, [17]), (17, .iconst 0, 1, [0]), (18, .ireturn, 1, [])]
theorem hp_L_longest : ∀ q ∈ pg_L_longest, decode cL_longest q.1 = .ok (q.2.1, q.2.2.1) ∧ ztg q.2.1 q.1 q.2.2.1 q.2.2.2 = true := zpg_of (by decide +kernel)
def hd_L_longest : List zHd := [("java/lang/IndexOutOfBoundsException", 13, 13, 4, 2, 1)]
theorem hhd_L_longest : ∀ q ∈ hd_L_longest, zHdOK cL_longest RL 5 q := List.forall_mem_cons.mpr ⟨⟨⟨by decide, by decide⟩, zmem (i := 243) (by decide +kernel) rfl, by decide +kernel, Or.inr ⟨rfl, by decide +kernel⟩, ⟨1, by decide, by decide +kernel⟩, by decide +kernel⟩, fun _ h => absurd h List.not_mem_nil⟩
def cs_L_longest : List (Nat × zCall) := [(55, 0, 3, some 5, 2, 12, false, zMc sp_X4_longest)]
theorem hcs_L_longest {l : Launch} (hl0 : l.stackTraces = false) : ∀ q ∈ cs_L_longest, zCallable l RL 5 q := List.forall_mem_cons.mpr ⟨zcV (C := (RX4, TX4, 6)) (ps := [910, 911, 912, 28, 913]) (CT_mono (c_X4_longest hl0)) (by decide +kernel) rfl ⟨rfl, by decide +kernel, by decide +kernel, by decide +kernel⟩ (by decide) (by decide), fun _ h => absurd h List.not_mem_nil⟩
def sp_L_longest : zSpec := fun args w Q _ => ∃ α ν β μ f a b, args = [.ref 0, .int a, .int b, .ref 36] ∧ w = zW3 α ν β μ f ∧ sp_X4_longest [.ref 0, .int a, .int b] (zW3 α ν β μ f) (zQw β μ f Q) (zXw [(zIOO, 1)] Q)
set_option maxHeartbeats 4000000 in
set_option maxRecDepth 20000 in
theorem c_L_longest {l : Launch} (hl0 : l.stackTraces = false) : CT l yL_longest (.codeWith yL_longest cL_longest 5 (some .int) (zHdS 10 hd_L_longest)) 5 2 12 false sp_L_longest := by
  refine zCT_ofH (own := RL) cs_L_longest pg_L_longest 10 hd_L_longest rfl (by decide +kernel) hp_L_longest ⟨_, _, rfl, rfl⟩ (hcs_L_longest hl0) hhd_L_longest (fun args w Q X h => ?_)
  obtain ⟨α, ν, β, μ, f, a, b, rfl, rfl, hSp⟩ := h
  refine ⟨Nat.le_of_ble_eq_true rfl, 40, [], ?_, fun q hq => absurd hq List.not_mem_nil⟩
  (conv => whnf)
  refine ⟨_, _, hSp, fun rv w9 hq => ?_, fun E w9 hx => ?_⟩
  · obtain ⟨x, α', ν', rfl, rfl, hq⟩ := hq
    (conv => whnf)
    refine ⟨vp_in_nI (show 0 < 1 by decide) (by decide), ?_⟩
    (conv => whnf)
    show Q (some (.int (nI 0))) (zW3 α' ν' β μ (vp_updL f (nI 0).toNatClampNeg x.toInt64))
    rw [nI_clamp (by decide)]
    exact hq
  · obtain ⟨k, hk, hq⟩ := hx
    have e := List.mem_singleton.mp hk
    cases e
    (conv => whnf)
    exact ⟨[], ("java/lang/IndexOutOfBoundsException", 13, 13, 4, 2, 1), [], rfl, rfl, by decide +kernel, Nat.le_of_ble_eq_true rfl, Nat.le_of_ble_eq_true rfl, Nat.le_of_ble_eq_true rfl, hq⟩
def pg_L_claim : List zE := [(0, .aload_n 3, 1, []), (1, .iconst 0, 1, [0]), (2, .aload_n 0, 1, []), (3, .iload_n 1, 1, []), (4, .iload_n 2, 1, []), (5, .invokevirtual 58, 3, []), (8, .i2l, 1, []), (9, .lastore, 1, []), (10, .goto 11, 3, [21]), (21, .iconst 0, 1, [0]), (22, .ireturn, 1, [])]
theorem hp_L_claim : ∀ q ∈ pg_L_claim, decode cL_claim q.1 = .ok (q.2.1, q.2.2.1) ∧ ztg q.2.1 q.1 q.2.2.1 q.2.2.2 = true := zpg_of (by decide +kernel)
def hd_L_claim : List zHd := [("java/lang/IndexOutOfBoundsException", 13, 13, 4, 2, 1), ("java/lang/IllegalStateException", 17, 41, 4, 2, 2)]
theorem hhd_L_claim : ∀ q ∈ hd_L_claim, zHdOK cL_claim RL 5 q := List.forall_mem_cons.mpr ⟨⟨⟨by decide, by decide⟩, zmem (i := 243) (by decide +kernel) rfl, by decide +kernel, Or.inr ⟨rfl, by decide +kernel⟩, ⟨1, by decide, by decide +kernel⟩, by decide +kernel⟩, List.forall_mem_cons.mpr ⟨⟨⟨by decide, by decide⟩, zmem (i := 782) (by decide +kernel) rfl, by decide +kernel, Or.inr ⟨rfl, by decide +kernel⟩, ⟨2, by decide, by decide +kernel⟩, by decide +kernel⟩, fun _ h => absurd h List.not_mem_nil⟩⟩
def cs_L_claim : List (Nat × zCall) := [(58, 0, 3, some 5, 6, 36, false, zMc sp_X4_claim)]
theorem hcs_L_claim {l : Launch} (hl0 : l.stackTraces = false) : ∀ q ∈ cs_L_claim, zCallable l RL 7 q := List.forall_mem_cons.mpr ⟨zcV (C := (RX4, TX4, 6)) (ps := [922, 923, 924, 28, 925]) (CT_mono (c_X4_claim hl0)) (by decide +kernel) rfl ⟨rfl, by decide +kernel, by decide +kernel, by decide +kernel⟩ (by decide) (by decide), fun _ h => absurd h List.not_mem_nil⟩
def sp_L_claim : zSpec := fun args w Q _ => ∃ α ν β μ f a b, args = [.ref 0, .int a, .int b, .ref 36] ∧ w = zW3 α ν β μ f ∧ sp_X4_claim [.ref 0, .int a, .int b] (zW3 α ν β μ f) (zQw β μ f Q) (zXw [(zIOO, 1), (zISE, 2)] Q)
set_option maxHeartbeats 4000000 in
set_option maxRecDepth 20000 in
theorem c_L_claim {l : Launch} (hl0 : l.stackTraces = false) : CT l yL_claim (.codeWith yL_claim cL_claim 5 (some .int) (zHdS 10 hd_L_claim)) 7 6 36 false sp_L_claim := by
  refine zCT_ofH (own := RL) cs_L_claim pg_L_claim 10 hd_L_claim rfl (by decide +kernel) hp_L_claim ⟨_, _, rfl, rfl⟩ (hcs_L_claim hl0) hhd_L_claim (fun args w Q X h => ?_)
  obtain ⟨α, ν, β, μ, f, a, b, rfl, rfl, hSp⟩ := h
  refine ⟨Nat.le_of_ble_eq_true rfl, 40, [], ?_, fun q hq => absurd hq List.not_mem_nil⟩
  (conv => whnf)
  refine ⟨_, _, hSp, fun rv w9 hq => ?_, fun E w9 hx => ?_⟩
  · obtain ⟨x, α', ν', rfl, rfl, hq⟩ := hq
    (conv => whnf)
    refine ⟨vp_in_nI (show 0 < 1 by decide) (by decide), ?_⟩
    (conv => whnf)
    show Q (some (.int (nI 0))) (zW3 α' ν' β μ (vp_updL f (nI 0).toNatClampNeg x.toInt64))
    rw [nI_clamp (by decide)]
    exact hq
  · obtain ⟨k, hk, hq⟩ := hx
    rcases List.mem_cons.mp hk with e | hk
    · cases e
      (conv => whnf)
      exact ⟨[], ("java/lang/IndexOutOfBoundsException", 13, 13, 4, 2, 1), [("java/lang/IllegalStateException", 17, 41, 4, 2, 2)], rfl, rfl, by decide +kernel, Nat.le_of_ble_eq_true rfl, Nat.le_of_ble_eq_true rfl, Nat.le_of_ble_eq_true rfl, hq⟩
    have e := List.mem_singleton.mp hk
    cases e
    (conv => whnf)
    exact ⟨[("java/lang/IndexOutOfBoundsException", 13, 13, 4, 2, 1)], ("java/lang/IllegalStateException", 17, 41, 4, 2, 2), [], rfl, rfl, by decide +kernel, Nat.le_of_ble_eq_true rfl, Nat.le_of_ble_eq_true rfl, Nat.le_of_ble_eq_true rfl, hq⟩
def pg_L_renew : List zE := [(0, .aload_n 2, 1, []), (1, .iconst 0, 1, [0]), (2, .aload_n 0, 1, []), (3, .iload_n 1, 1, []), (4, .invokevirtual 61, 3, []), (7, .i2l, 1, []), (8, .lastore, 1, []), (9, .goto 9, 3, [18]), (18, .iconst 0, 1, [0]), (19, .ireturn, 1, [])]
theorem hp_L_renew : ∀ q ∈ pg_L_renew, decode cL_renew q.1 = .ok (q.2.1, q.2.2.1) ∧ ztg q.2.1 q.1 q.2.2.1 q.2.2.2 = true := zpg_of (by decide +kernel)
def hd_L_renew : List zHd := [("java/lang/IndexOutOfBoundsException", 12, 13, 3, 1, 1), ("java/lang/IllegalStateException", 15, 41, 3, 1, 2)]
theorem hhd_L_renew : ∀ q ∈ hd_L_renew, zHdOK cL_renew RL 4 q := List.forall_mem_cons.mpr ⟨⟨⟨by decide, by decide⟩, zmem (i := 243) (by decide +kernel) rfl, by decide +kernel, Or.inl ⟨3, rfl, rfl, by decide +kernel⟩, ⟨1, by decide, by decide +kernel⟩, by decide +kernel⟩, List.forall_mem_cons.mpr ⟨⟨⟨by decide, by decide⟩, zmem (i := 782) (by decide +kernel) rfl, by decide +kernel, Or.inl ⟨3, rfl, rfl, by decide +kernel⟩, ⟨2, by decide, by decide +kernel⟩, by decide +kernel⟩, fun _ h => absurd h List.not_mem_nil⟩⟩
def cs_L_renew : List (Nat × zCall) := [(61, 0, 2, some 5, 2, 12, false, zMc sp_X4_renew)]
theorem hcs_L_renew {l : Launch} (hl0 : l.stackTraces = false) : ∀ q ∈ cs_L_renew, zCallable l RL 4 q := List.forall_mem_cons.mpr ⟨zcV (C := (RX4, TX4, 6)) (ps := [944, 945, 946, 28, 947]) (CT_mono (c_X4_renew hl0)) (by decide +kernel) rfl ⟨rfl, by decide +kernel, by decide +kernel, by decide +kernel⟩ (by decide) (by decide), fun _ h => absurd h List.not_mem_nil⟩
def sp_L_renew : zSpec := fun args w Q _ => ∃ α ν β μ f a, args = [.ref 0, .int a, .ref 36] ∧ w = zW3 α ν β μ f ∧ sp_X4_renew [.ref 0, .int a] (zW3 α ν β μ f) (zQw β μ f Q) (zXw [(zIOO, 1), (zISE, 2)] Q)
set_option maxHeartbeats 4000000 in
set_option maxRecDepth 20000 in
theorem c_L_renew {l : Launch} (hl0 : l.stackTraces = false) : CT l yL_renew (.codeWith yL_renew cL_renew 4 (some .int) (zHdS 9 hd_L_renew)) 4 2 12 false sp_L_renew := by
  refine zCT_ofH (own := RL) cs_L_renew pg_L_renew 9 hd_L_renew rfl (by decide +kernel) hp_L_renew ⟨_, _, rfl, rfl⟩ (hcs_L_renew hl0) hhd_L_renew (fun args w Q X h => ?_)
  obtain ⟨α, ν, β, μ, f, a, rfl, rfl, hSp⟩ := h
  refine ⟨Nat.le_of_ble_eq_true rfl, 40, [], ?_, fun q hq => absurd hq List.not_mem_nil⟩
  (conv => whnf)
  refine ⟨_, _, hSp, fun rv w9 hq => ?_, fun E w9 hx => ?_⟩
  · obtain ⟨x, α', ν', rfl, rfl, hq⟩ := hq
    (conv => whnf)
    refine ⟨vp_in_nI (show 0 < 1 by decide) (by decide), ?_⟩
    (conv => whnf)
    show Q (some (.int (nI 0))) (zW3 α' ν' β μ (vp_updL f (nI 0).toNatClampNeg x.toInt64))
    rw [nI_clamp (by decide)]
    exact hq
  · obtain ⟨k, hk, hq⟩ := hx
    rcases List.mem_cons.mp hk with e | hk
    · cases e
      (conv => whnf)
      exact ⟨[], ("java/lang/IndexOutOfBoundsException", 12, 13, 3, 1, 1), [("java/lang/IllegalStateException", 15, 41, 3, 1, 2)], rfl, rfl, by decide +kernel, Nat.le_of_ble_eq_true rfl, Nat.le_of_ble_eq_true rfl, Nat.le_of_ble_eq_true rfl, hq⟩
    have e := List.mem_singleton.mp hk
    cases e
    (conv => whnf)
    exact ⟨[("java/lang/IndexOutOfBoundsException", 12, 13, 3, 1, 1)], ("java/lang/IllegalStateException", 15, 41, 3, 1, 2), [], rfl, rfl, by decide +kernel, Nat.le_of_ble_eq_true rfl, Nat.le_of_ble_eq_true rfl, Nat.le_of_ble_eq_true rfl, hq⟩
def pg_L_advance : List zE := [(0, .aload_n 2, 1, []), (1, .iconst 0, 1, [0]), (2, .aload_n 0, 1, []), (3, .iload_n 1, 1, []), (4, .invokevirtual 64, 3, []), (7, .i2l, 1, []), (8, .lastore, 1, []), (9, .goto 9, 3, [18]), (18, .iconst 0, 1, [0]), (19, .ireturn, 1, [])]
theorem hp_L_advance : ∀ q ∈ pg_L_advance, decode cL_advance q.1 = .ok (q.2.1, q.2.2.1) ∧ ztg q.2.1 q.1 q.2.2.1 q.2.2.2 = true := zpg_of (by decide +kernel)
def hd_L_advance : List zHd := [("java/lang/IllegalArgumentException", 12, 15, 3, 1, 1), ("java/lang/IllegalStateException", 15, 41, 3, 1, 2)]
theorem hhd_L_advance : ∀ q ∈ hd_L_advance, zHdOK cL_advance RL 4 q := List.forall_mem_cons.mpr ⟨⟨⟨by decide, by decide⟩, zmem (i := 244) (by decide +kernel) rfl, by decide +kernel, Or.inl ⟨3, rfl, rfl, by decide +kernel⟩, ⟨1, by decide, by decide +kernel⟩, by decide +kernel⟩, List.forall_mem_cons.mpr ⟨⟨⟨by decide, by decide⟩, zmem (i := 782) (by decide +kernel) rfl, by decide +kernel, Or.inl ⟨3, rfl, rfl, by decide +kernel⟩, ⟨2, by decide, by decide +kernel⟩, by decide +kernel⟩, fun _ h => absurd h List.not_mem_nil⟩⟩
def cs_L_advance : List (Nat × zCall) := [(64, 0, 2, some 5, 2, 12, false, zMc sp_X4_advance)]
theorem hcs_L_advance {l : Launch} (hl0 : l.stackTraces = false) : ∀ q ∈ cs_L_advance, zCallable l RL 3 q := List.forall_mem_cons.mpr ⟨zcV (C := (RX4, TX4, 6)) (ps := [962, 963, 964, 28, 965]) (CT_mono (c_X4_advance hl0)) (by decide +kernel) rfl ⟨rfl, by decide +kernel, by decide +kernel, by decide +kernel⟩ (by decide) (by decide), fun _ h => absurd h List.not_mem_nil⟩
def sp_L_advance : zSpec := fun args w Q _ => ∃ α ν β μ f a, args = [.ref 0, .int a, .ref 36] ∧ w = zW3 α ν β μ f ∧ sp_X4_advance [.ref 0, .int a] (zW3 α ν β μ f) (zQw β μ f Q) (zXw [(zIAE, 1), (zISE, 2)] Q)
set_option maxHeartbeats 4000000 in
set_option maxRecDepth 20000 in
theorem c_L_advance {l : Launch} (hl0 : l.stackTraces = false) : CT l yL_advance (.codeWith yL_advance cL_advance 4 (some .int) (zHdS 9 hd_L_advance)) 3 2 12 false sp_L_advance := by
  refine zCT_ofH (own := RL) cs_L_advance pg_L_advance 9 hd_L_advance rfl (by decide +kernel) hp_L_advance ⟨_, _, rfl, rfl⟩ (hcs_L_advance hl0) hhd_L_advance (fun args w Q X h => ?_)
  obtain ⟨α, ν, β, μ, f, a, rfl, rfl, hSp⟩ := h
  refine ⟨Nat.le_of_ble_eq_true rfl, 40, [], ?_, fun q hq => absurd hq List.not_mem_nil⟩
  (conv => whnf)
  refine ⟨_, _, hSp, fun rv w9 hq => ?_, fun E w9 hx => ?_⟩
  · obtain ⟨x, α', ν', rfl, rfl, hq⟩ := hq
    (conv => whnf)
    refine ⟨vp_in_nI (show 0 < 1 by decide) (by decide), ?_⟩
    (conv => whnf)
    show Q (some (.int (nI 0))) (zW3 α' ν' β μ (vp_updL f (nI 0).toNatClampNeg x.toInt64))
    rw [nI_clamp (by decide)]
    exact hq
  · obtain ⟨k, hk, hq⟩ := hx
    rcases List.mem_cons.mp hk with e | hk
    · cases e
      (conv => whnf)
      exact ⟨[], ("java/lang/IllegalArgumentException", 12, 15, 3, 1, 1), [("java/lang/IllegalStateException", 15, 41, 3, 1, 2)], rfl, rfl, by decide +kernel, Nat.le_of_ble_eq_true rfl, Nat.le_of_ble_eq_true rfl, Nat.le_of_ble_eq_true rfl, hq⟩
    have e := List.mem_singleton.mp hk
    cases e
    (conv => whnf)
    exact ⟨[("java/lang/IllegalArgumentException", 12, 15, 3, 1, 1)], ("java/lang/IllegalStateException", 15, 41, 3, 1, 2), [], rfl, rfl, by decide +kernel, Nat.le_of_ble_eq_true rfl, Nat.le_of_ble_eq_true rfl, Nat.le_of_ble_eq_true rfl, hq⟩
def pg_L_finder : List zE := [(0, .aload_n 2, 1, []), (1, .iconst 0, 1, [0]), (2, .aload_n 0, 1, []), (3, .iload_n 1, 1, []), (4, .invokevirtual 67, 3, []), (7, .i2l, 1, []), (8, .lastore, 1, []), (9, .goto 6, 3, [15]), (15, .iconst 0, 1, [0]), (16, .ireturn, 1, [])]
theorem hp_L_finder : ∀ q ∈ pg_L_finder, decode cL_finder q.1 = .ok (q.2.1, q.2.2.1) ∧ ztg q.2.1 q.1 q.2.2.1 q.2.2.2 = true := zpg_of (by decide +kernel)
def hd_L_finder : List zHd := [("java/lang/IndexOutOfBoundsException", 12, 13, 3, 1, 1)]
theorem hhd_L_finder : ∀ q ∈ hd_L_finder, zHdOK cL_finder RL 4 q := List.forall_mem_cons.mpr ⟨⟨⟨by decide, by decide⟩, zmem (i := 243) (by decide +kernel) rfl, by decide +kernel, Or.inl ⟨3, rfl, rfl, by decide +kernel⟩, ⟨1, by decide, by decide +kernel⟩, by decide +kernel⟩, fun _ h => absurd h List.not_mem_nil⟩
def cs_L_finder : List (Nat × zCall) := [(67, 0, 2, some 5, 1, 6, false, zMc sp_X4_finder)]
theorem hcs_L_finder {l : Launch} (hl0 : l.stackTraces = false) : ∀ q ∈ cs_L_finder, zCallable l RL 7 q := List.forall_mem_cons.mpr ⟨zcV (C := (RX4, TX4, 6)) (ps := [971, 972, 973, 28, 974]) (CT_mono (c_X4_finder hl0)) (by decide +kernel) rfl ⟨rfl, by decide +kernel, by decide +kernel, by decide +kernel⟩ (by decide) (by decide), fun _ h => absurd h List.not_mem_nil⟩
def sp_L_finder : zSpec := fun args w Q _ => ∃ α ν β μ f a, args = [.ref 0, .int a, .ref 36] ∧ w = zW3 α ν β μ f ∧ sp_X4_finder [.ref 0, .int a] (zW3 α ν β μ f) (zQw β μ f Q) (zXw [(zIOO, 1)] Q)
set_option maxHeartbeats 4000000 in
set_option maxRecDepth 20000 in
theorem c_L_finder {l : Launch} (hl0 : l.stackTraces = false) : CT l yL_finder (.codeWith yL_finder cL_finder 4 (some .int) (zHdS 9 hd_L_finder)) 7 1 6 false sp_L_finder := by
  refine zCT_ofH (own := RL) cs_L_finder pg_L_finder 9 hd_L_finder rfl (by decide +kernel) hp_L_finder ⟨_, _, rfl, rfl⟩ (hcs_L_finder hl0) hhd_L_finder (fun args w Q X h => ?_)
  obtain ⟨α, ν, β, μ, f, a, rfl, rfl, hSp⟩ := h
  refine ⟨Nat.le_of_ble_eq_true rfl, 40, [], ?_, fun q hq => absurd hq List.not_mem_nil⟩
  (conv => whnf)
  refine ⟨_, _, hSp, fun rv w9 hq => ?_, fun E w9 hx => ?_⟩
  · obtain ⟨x, α', ν', rfl, rfl, hq⟩ := hq
    (conv => whnf)
    refine ⟨vp_in_nI (show 0 < 1 by decide) (by decide), ?_⟩
    (conv => whnf)
    show Q (some (.int (nI 0))) (zW3 α' ν' β μ (vp_updL f (nI 0).toNatClampNeg x.toInt64))
    rw [nI_clamp (by decide)]
    exact hq
  · obtain ⟨k, hk, hq⟩ := hx
    have e := List.mem_singleton.mp hk
    cases e
    (conv => whnf)
    exact ⟨[], ("java/lang/IndexOutOfBoundsException", 12, 13, 3, 1, 1), [], rfl, rfl, by decide +kernel, Nat.le_of_ble_eq_true rfl, Nat.le_of_ble_eq_true rfl, Nat.le_of_ble_eq_true rfl, hq⟩
def pg_L_finderBySoundings : List zE := [(0, .aload_n 2, 1, []), (1, .iconst 0, 1, [0]), (2, .aload_n 0, 1, []), (3, .iload_n 1, 1, []), (4, .invokevirtual 70, 3, []), (7, .i2l, 1, []), (8, .lastore, 1, []), (9, .goto 6, 3, [15]), (15, .iconst 0, 1, [0]), (16, .ireturn, 1, [])]
theorem hp_L_finderBySoundings : ∀ q ∈ pg_L_finderBySoundings, decode cL_finderBySoundings q.1 = .ok (q.2.1, q.2.2.1) ∧ ztg q.2.1 q.1 q.2.2.1 q.2.2.2 = true := zpg_of (by decide +kernel)
def hd_L_finderBySoundings : List zHd := [("java/lang/IndexOutOfBoundsException", 12, 13, 3, 1, 1)]
theorem hhd_L_finderBySoundings : ∀ q ∈ hd_L_finderBySoundings, zHdOK cL_finderBySoundings RL 4 q := List.forall_mem_cons.mpr ⟨⟨⟨by decide, by decide⟩, zmem (i := 243) (by decide +kernel) rfl, by decide +kernel, Or.inl ⟨3, rfl, rfl, by decide +kernel⟩, ⟨1, by decide, by decide +kernel⟩, by decide +kernel⟩, fun _ h => absurd h List.not_mem_nil⟩
def cs_L_finderBySoundings : List (Nat × zCall) := [(70, 0, 2, some 5, 1, 6, false, zMc sp_X4_finderBySoundings)]
theorem hcs_L_finderBySoundings {l : Launch} (hl0 : l.stackTraces = false) : ∀ q ∈ cs_L_finderBySoundings, zCallable l RL 5 q := List.forall_mem_cons.mpr ⟨zcV (C := (RX4, TX4, 6)) (ps := [978, 979, 980, 28, 981]) (CT_mono (c_X4_finderBySoundings hl0)) (by decide +kernel) rfl ⟨rfl, by decide +kernel, by decide +kernel, by decide +kernel⟩ (by decide) (by decide), fun _ h => absurd h List.not_mem_nil⟩
def sp_L_finderBySoundings : zSpec := fun args w Q _ => ∃ α ν β μ f a, args = [.ref 0, .int a, .ref 36] ∧ w = zW3 α ν β μ f ∧ sp_X4_finderBySoundings [.ref 0, .int a] (zW3 α ν β μ f) (zQw β μ f Q) (zXw [(zIOO, 1)] Q)
set_option maxHeartbeats 4000000 in
set_option maxRecDepth 20000 in
theorem c_L_finderBySoundings {l : Launch} (hl0 : l.stackTraces = false) : CT l yL_finderBySoundings (.codeWith yL_finderBySoundings cL_finderBySoundings 4 (some .int) (zHdS 9 hd_L_finderBySoundings)) 5 1 6 false sp_L_finderBySoundings := by
  refine zCT_ofH (own := RL) cs_L_finderBySoundings pg_L_finderBySoundings 9 hd_L_finderBySoundings rfl (by decide +kernel) hp_L_finderBySoundings ⟨_, _, rfl, rfl⟩ (hcs_L_finderBySoundings hl0) hhd_L_finderBySoundings (fun args w Q X h => ?_)
  obtain ⟨α, ν, β, μ, f, a, rfl, rfl, hSp⟩ := h
  refine ⟨Nat.le_of_ble_eq_true rfl, 40, [], ?_, fun q hq => absurd hq List.not_mem_nil⟩
  (conv => whnf)
  refine ⟨_, _, hSp, fun rv w9 hq => ?_, fun E w9 hx => ?_⟩
  · obtain ⟨x, α', ν', rfl, rfl, hq⟩ := hq
    (conv => whnf)
    refine ⟨vp_in_nI (show 0 < 1 by decide) (by decide), ?_⟩
    (conv => whnf)
    show Q (some (.int (nI 0))) (zW3 α' ν' β μ (vp_updL f (nI 0).toNatClampNeg x.toInt64))
    rw [nI_clamp (by decide)]
    exact hq
  · obtain ⟨k, hk, hq⟩ := hx
    have e := List.mem_singleton.mp hk
    cases e
    (conv => whnf)
    exact ⟨[], ("java/lang/IndexOutOfBoundsException", 12, 13, 3, 1, 1), [], rfl, rfl, by decide +kernel, Nat.le_of_ble_eq_true rfl, Nat.le_of_ble_eq_true rfl, Nat.le_of_ble_eq_true rfl, hq⟩
def pg_L_runs : List zE := [(0, .aload_n 2, 1, []), (1, .iconst 0, 1, [0]), (2, .aload_n 0, 1, []), (3, .iload_n 1, 1, []), (4, .invokevirtual 73, 3, []), (7, .ifCond .eq 7, 3, [14]), (10, .lconst 1, 1, []), (11, .goto 4, 3, [15]), (14, .lconst 0, 1, []), (15, .lastore, 1, []), (16, .goto 6, 3, [22]), (22, .iconst 0, 1, [0]), (23, .ireturn, 1, [])]
theorem hp_L_runs : ∀ q ∈ pg_L_runs, decode cL_runs q.1 = .ok (q.2.1, q.2.2.1) ∧ ztg q.2.1 q.1 q.2.2.1 q.2.2.2 = true := zpg_of (by decide +kernel)
def hd_L_runs : List zHd := [("java/lang/IndexOutOfBoundsException", 19, 13, 3, 1, 1)]
theorem hhd_L_runs : ∀ q ∈ hd_L_runs, zHdOK cL_runs RL 4 q := List.forall_mem_cons.mpr ⟨⟨⟨by decide, by decide⟩, zmem (i := 243) (by decide +kernel) rfl, by decide +kernel, Or.inl ⟨3, rfl, rfl, by decide +kernel⟩, ⟨1, by decide, by decide +kernel⟩, by decide +kernel⟩, fun _ h => absurd h List.not_mem_nil⟩
def cs_L_runs : List (Nat × zCall) := [(73, 0, 2, some 5, 1, 6, false, zMc sp_X4_runs)]
theorem hcs_L_runs {l : Launch} (hl0 : l.stackTraces = false) : ∀ q ∈ cs_L_runs, zCallable l RL 4 q := List.forall_mem_cons.mpr ⟨zcV (C := (RX4, TX4, 6)) (ps := [994, 995, 996, 28, 997]) (CT_mono (c_X4_runs hl0)) (by decide +kernel) rfl ⟨rfl, by decide +kernel, by decide +kernel, by decide +kernel⟩ (by decide) (by decide), fun _ h => absurd h List.not_mem_nil⟩
def sp_L_runs : zSpec := fun args w Q _ => ∃ α ν β μ f a, args = [.ref 0, .int a, .ref 36] ∧ w = zW3 α ν β μ f ∧ sp_X4_runs [.ref 0, .int a] (zW3 α ν β μ f) (zQb β μ f Q) (zXw [(zIOO, 1)] Q)
set_option maxHeartbeats 4000000 in
set_option maxRecDepth 20000 in
theorem c_L_runs {l : Launch} (hl0 : l.stackTraces = false) : CT l yL_runs (.codeWith yL_runs cL_runs 4 (some .int) (zHdS 16 hd_L_runs)) 4 1 6 false sp_L_runs := by
  refine zCT_ofH (own := RL) cs_L_runs pg_L_runs 16 hd_L_runs rfl (by decide +kernel) hp_L_runs ⟨_, _, rfl, rfl⟩ (hcs_L_runs hl0) hhd_L_runs (fun args w Q X h => ?_)
  obtain ⟨α, ν, β, μ, f, a, rfl, rfl, hSp⟩ := h
  refine ⟨Nat.le_of_ble_eq_true rfl, 40, [], ?_, fun q hq => absurd hq List.not_mem_nil⟩
  (conv => whnf)
  refine ⟨_, _, hSp, fun rv w9 hq => ?_, fun E w9 hx => ?_⟩
  · obtain ⟨α', ν', ⟨rfl, rfl, hq⟩ | ⟨rfl, rfl, hq⟩⟩ := hq
    · (conv => whnf)
      refine And.intro (fun c => absurd c (show ¬ _ from (by decide))) (fun _ => ?_)
      (conv => whnf)
      refine ⟨vp_in_nI (show 0 < 1 by decide) (by decide), ?_⟩
      (conv => whnf)
      show Q (some (.int (nI 0))) (zW3 α' ν' β μ (vp_updL f (nI 0).toNatClampNeg 1))
      rw [nI_clamp (by decide)]
      exact hq
    · (conv => whnf)
      refine And.intro (fun _ => ?_) (fun c => absurd (show _ from rfl) c)
      (conv => whnf)
      refine ⟨vp_in_nI (show 0 < 1 by decide) (by decide), ?_⟩
      (conv => whnf)
      show Q (some (.int (nI 0))) (zW3 α' ν' β μ (vp_updL f (nI 0).toNatClampNeg 0))
      rw [nI_clamp (by decide)]
      exact hq
  · obtain ⟨k, hk, hq⟩ := hx
    have e := List.mem_singleton.mp hk
    cases e
    (conv => whnf)
    exact ⟨[], ("java/lang/IndexOutOfBoundsException", 19, 13, 3, 1, 1), [], rfl, rfl, by decide +kernel, Nat.le_of_ble_eq_true rfl, Nat.le_of_ble_eq_true rfl, Nat.le_of_ble_eq_true rfl, hq⟩
def pg_L_holds : List zE := [(0, .aload_n 2, 1, []), (1, .iconst 0, 1, [0]), (2, .aload_n 0, 1, []), (3, .iload_n 1, 1, []), (4, .invokevirtual 77, 3, []), (7, .ifCond .eq 7, 3, [14]), (10, .lconst 1, 1, []), (11, .goto 4, 3, [15]), (14, .lconst 0, 1, []), (15, .lastore, 1, []), (16, .goto 6, 3, [22]), (22, .iconst 0, 1, [0]), (23, .ireturn, 1, [])]
theorem hp_L_holds : ∀ q ∈ pg_L_holds, decode cL_holds q.1 = .ok (q.2.1, q.2.2.1) ∧ ztg q.2.1 q.1 q.2.2.1 q.2.2.2 = true := zpg_of (by decide +kernel)
def hd_L_holds : List zHd := [("java/lang/IndexOutOfBoundsException", 19, 13, 3, 1, 1)]
theorem hhd_L_holds : ∀ q ∈ hd_L_holds, zHdOK cL_holds RL 4 q := List.forall_mem_cons.mpr ⟨⟨⟨by decide, by decide⟩, zmem (i := 243) (by decide +kernel) rfl, by decide +kernel, Or.inl ⟨3, rfl, rfl, by decide +kernel⟩, ⟨1, by decide, by decide +kernel⟩, by decide +kernel⟩, fun _ h => absurd h List.not_mem_nil⟩
def cs_L_holds : List (Nat × zCall) := [(77, 0, 2, some 5, 1, 6, false, zMc sp_X4_holds)]
theorem hcs_L_holds {l : Launch} (hl0 : l.stackTraces = false) : ∀ q ∈ cs_L_holds, zCallable l RL 6 q := List.forall_mem_cons.mpr ⟨zcV (C := (RX4, TX4, 6)) (ps := [1001, 1002, 1003, 28, 1004]) (CT_mono (c_X4_holds hl0)) (by decide +kernel) rfl ⟨rfl, by decide +kernel, by decide +kernel, by decide +kernel⟩ (by decide) (by decide), fun _ h => absurd h List.not_mem_nil⟩
def sp_L_holds : zSpec := fun args w Q _ => ∃ α ν β μ f a, args = [.ref 0, .int a, .ref 36] ∧ w = zW3 α ν β μ f ∧ sp_X4_holds [.ref 0, .int a] (zW3 α ν β μ f) (zQb β μ f Q) (zXw [(zIOO, 1)] Q)
set_option maxHeartbeats 4000000 in
set_option maxRecDepth 20000 in
theorem c_L_holds {l : Launch} (hl0 : l.stackTraces = false) : CT l yL_holds (.codeWith yL_holds cL_holds 4 (some .int) (zHdS 16 hd_L_holds)) 6 1 6 false sp_L_holds := by
  refine zCT_ofH (own := RL) cs_L_holds pg_L_holds 16 hd_L_holds rfl (by decide +kernel) hp_L_holds ⟨_, _, rfl, rfl⟩ (hcs_L_holds hl0) hhd_L_holds (fun args w Q X h => ?_)
  obtain ⟨α, ν, β, μ, f, a, rfl, rfl, hSp⟩ := h
  refine ⟨Nat.le_of_ble_eq_true rfl, 40, [], ?_, fun q hq => absurd hq List.not_mem_nil⟩
  (conv => whnf)
  refine ⟨_, _, hSp, fun rv w9 hq => ?_, fun E w9 hx => ?_⟩
  · obtain ⟨α', ν', ⟨rfl, rfl, hq⟩ | ⟨rfl, rfl, hq⟩⟩ := hq
    · (conv => whnf)
      refine And.intro (fun c => absurd c (show ¬ _ from (by decide))) (fun _ => ?_)
      (conv => whnf)
      refine ⟨vp_in_nI (show 0 < 1 by decide) (by decide), ?_⟩
      (conv => whnf)
      show Q (some (.int (nI 0))) (zW3 α' ν' β μ (vp_updL f (nI 0).toNatClampNeg 1))
      rw [nI_clamp (by decide)]
      exact hq
    · (conv => whnf)
      refine And.intro (fun _ => ?_) (fun c => absurd (show _ from rfl) c)
      (conv => whnf)
      refine ⟨vp_in_nI (show 0 < 1 by decide) (by decide), ?_⟩
      (conv => whnf)
      show Q (some (.int (nI 0))) (zW3 α' ν' β μ (vp_updL f (nI 0).toNatClampNeg 0))
      rw [nI_clamp (by decide)]
      exact hq
  · obtain ⟨k, hk, hq⟩ := hx
    have e := List.mem_singleton.mp hk
    cases e
    (conv => whnf)
    exact ⟨[], ("java/lang/IndexOutOfBoundsException", 19, 13, 3, 1, 1), [], rfl, rfl, by decide +kernel, Nat.le_of_ble_eq_true rfl, Nat.le_of_ble_eq_true rfl, Nat.le_of_ble_eq_true rfl, hq⟩
def pg_L_shapeOfThing : List zE := [(0, .aload_n 2, 1, []), (1, .iconst 0, 1, [0]), (2, .aload_n 0, 1, []), (3, .iload_n 1, 1, []), (4, .invokevirtual 80, 3, []), (7, .i2l, 1, []), (8, .lastore, 1, []), (9, .goto 6, 3, [15]), (15, .iconst 0, 1, [0]), (16, .ireturn, 1, [])]
theorem hp_L_shapeOfThing : ∀ q ∈ pg_L_shapeOfThing, decode cL_shapeOfThing q.1 = .ok (q.2.1, q.2.2.1) ∧ ztg q.2.1 q.1 q.2.2.1 q.2.2.2 = true := zpg_of (by decide +kernel)
def hd_L_shapeOfThing : List zHd := [("java/lang/IndexOutOfBoundsException", 12, 13, 3, 1, 1)]
theorem hhd_L_shapeOfThing : ∀ q ∈ hd_L_shapeOfThing, zHdOK cL_shapeOfThing RL 4 q := List.forall_mem_cons.mpr ⟨⟨⟨by decide, by decide⟩, zmem (i := 243) (by decide +kernel) rfl, by decide +kernel, Or.inl ⟨3, rfl, rfl, by decide +kernel⟩, ⟨1, by decide, by decide +kernel⟩, by decide +kernel⟩, fun _ h => absurd h List.not_mem_nil⟩
def cs_L_shapeOfThing : List (Nat × zCall) := [(80, 0, 2, some 5, 1, 6, false, zMc sp_X4_shapeOfThing)]
theorem hcs_L_shapeOfThing {l : Launch} (hl0 : l.stackTraces = false) : ∀ q ∈ cs_L_shapeOfThing, zCallable l RL 4 q := List.forall_mem_cons.mpr ⟨zcV (C := (RX4, TX4, 6)) (ps := [1008, 1009, 1010, 28, 1011]) (CT_mono (c_X4_shapeOfThing hl0)) (by decide +kernel) rfl ⟨rfl, by decide +kernel, by decide +kernel, by decide +kernel⟩ (by decide) (by decide), fun _ h => absurd h List.not_mem_nil⟩
def sp_L_shapeOfThing : zSpec := fun args w Q _ => ∃ α ν β μ f a, args = [.ref 0, .int a, .ref 36] ∧ w = zW3 α ν β μ f ∧ sp_X4_shapeOfThing [.ref 0, .int a] (zW3 α ν β μ f) (zQw β μ f Q) (zXw [(zIOO, 1)] Q)
set_option maxHeartbeats 4000000 in
set_option maxRecDepth 20000 in
theorem c_L_shapeOfThing {l : Launch} (hl0 : l.stackTraces = false) : CT l yL_shapeOfThing (.codeWith yL_shapeOfThing cL_shapeOfThing 4 (some .int) (zHdS 9 hd_L_shapeOfThing)) 4 1 6 false sp_L_shapeOfThing := by
  refine zCT_ofH (own := RL) cs_L_shapeOfThing pg_L_shapeOfThing 9 hd_L_shapeOfThing rfl (by decide +kernel) hp_L_shapeOfThing ⟨_, _, rfl, rfl⟩ (hcs_L_shapeOfThing hl0) hhd_L_shapeOfThing (fun args w Q X h => ?_)
  obtain ⟨α, ν, β, μ, f, a, rfl, rfl, hSp⟩ := h
  refine ⟨Nat.le_of_ble_eq_true rfl, 40, [], ?_, fun q hq => absurd hq List.not_mem_nil⟩
  (conv => whnf)
  refine ⟨_, _, hSp, fun rv w9 hq => ?_, fun E w9 hx => ?_⟩
  · obtain ⟨x, α', ν', rfl, rfl, hq⟩ := hq
    (conv => whnf)
    refine ⟨vp_in_nI (show 0 < 1 by decide) (by decide), ?_⟩
    (conv => whnf)
    show Q (some (.int (nI 0))) (zW3 α' ν' β μ (vp_updL f (nI 0).toNatClampNeg x.toInt64))
    rw [nI_clamp (by decide)]
    exact hq
  · obtain ⟨k, hk, hq⟩ := hx
    have e := List.mem_singleton.mp hk
    cases e
    (conv => whnf)
    exact ⟨[], ("java/lang/IndexOutOfBoundsException", 12, 13, 3, 1, 1), [], rfl, rfl, by decide +kernel, Nat.le_of_ble_eq_true rfl, Nat.le_of_ble_eq_true rfl, Nat.le_of_ble_eq_true rfl, hq⟩
def pg_L_finderOfThing : List zE := [(0, .aload_n 2, 1, []), (1, .iconst 0, 1, [0]), (2, .aload_n 0, 1, []), (3, .iload_n 1, 1, []), (4, .invokevirtual 83, 3, []), (7, .i2l, 1, []), (8, .lastore, 1, []), (9, .goto 6, 3, [15]), (15, .iconst 0, 1, [0]), (16, .ireturn, 1, [])]
theorem hp_L_finderOfThing : ∀ q ∈ pg_L_finderOfThing, decode cL_finderOfThing q.1 = .ok (q.2.1, q.2.2.1) ∧ ztg q.2.1 q.1 q.2.2.1 q.2.2.2 = true := zpg_of (by decide +kernel)
def hd_L_finderOfThing : List zHd := [("java/lang/IndexOutOfBoundsException", 12, 13, 3, 1, 1)]
theorem hhd_L_finderOfThing : ∀ q ∈ hd_L_finderOfThing, zHdOK cL_finderOfThing RL 4 q := List.forall_mem_cons.mpr ⟨⟨⟨by decide, by decide⟩, zmem (i := 243) (by decide +kernel) rfl, by decide +kernel, Or.inl ⟨3, rfl, rfl, by decide +kernel⟩, ⟨1, by decide, by decide +kernel⟩, by decide +kernel⟩, fun _ h => absurd h List.not_mem_nil⟩
def cs_L_finderOfThing : List (Nat × zCall) := [(83, 0, 2, some 5, 1, 6, false, zMc sp_X4_finderOfThing)]
theorem hcs_L_finderOfThing {l : Launch} (hl0 : l.stackTraces = false) : ∀ q ∈ cs_L_finderOfThing, zCallable l RL 4 q := List.forall_mem_cons.mpr ⟨zcV (C := (RX4, TX4, 6)) (ps := [1029, 1030, 1031, 28, 1032]) (CT_mono (c_X4_finderOfThing hl0)) (by decide +kernel) rfl ⟨rfl, by decide +kernel, by decide +kernel, by decide +kernel⟩ (by decide) (by decide), fun _ h => absurd h List.not_mem_nil⟩
def sp_L_finderOfThing : zSpec := fun args w Q _ => ∃ α ν β μ f a, args = [.ref 0, .int a, .ref 36] ∧ w = zW3 α ν β μ f ∧ sp_X4_finderOfThing [.ref 0, .int a] (zW3 α ν β μ f) (zQw β μ f Q) (zXw [(zIOO, 1)] Q)
set_option maxHeartbeats 4000000 in
set_option maxRecDepth 20000 in
theorem c_L_finderOfThing {l : Launch} (hl0 : l.stackTraces = false) : CT l yL_finderOfThing (.codeWith yL_finderOfThing cL_finderOfThing 4 (some .int) (zHdS 9 hd_L_finderOfThing)) 4 1 6 false sp_L_finderOfThing := by
  refine zCT_ofH (own := RL) cs_L_finderOfThing pg_L_finderOfThing 9 hd_L_finderOfThing rfl (by decide +kernel) hp_L_finderOfThing ⟨_, _, rfl, rfl⟩ (hcs_L_finderOfThing hl0) hhd_L_finderOfThing (fun args w Q X h => ?_)
  obtain ⟨α, ν, β, μ, f, a, rfl, rfl, hSp⟩ := h
  refine ⟨Nat.le_of_ble_eq_true rfl, 40, [], ?_, fun q hq => absurd hq List.not_mem_nil⟩
  (conv => whnf)
  refine ⟨_, _, hSp, fun rv w9 hq => ?_, fun E w9 hx => ?_⟩
  · obtain ⟨x, α', ν', rfl, rfl, hq⟩ := hq
    (conv => whnf)
    refine ⟨vp_in_nI (show 0 < 1 by decide) (by decide), ?_⟩
    (conv => whnf)
    show Q (some (.int (nI 0))) (zW3 α' ν' β μ (vp_updL f (nI 0).toNatClampNeg x.toInt64))
    rw [nI_clamp (by decide)]
    exact hq
  · obtain ⟨k, hk, hq⟩ := hx
    have e := List.mem_singleton.mp hk
    cases e
    (conv => whnf)
    exact ⟨[], ("java/lang/IndexOutOfBoundsException", 12, 13, 3, 1, 1), [], rfl, rfl, by decide +kernel, Nat.le_of_ble_eq_true rfl, Nat.le_of_ble_eq_true rfl, Nat.le_of_ble_eq_true rfl, hq⟩
def pg_L_reward : List zE := [(0, .aload_n 2, 1, []), (1, .iconst 0, 1, [0]), (2, .aload_n 0, 1, []), (3, .iload_n 1, 1, []), (4, .invokevirtual 86, 3, []), (7, .i2l, 1, []), (8, .lastore, 1, []), (9, .goto 6, 3, [15]), (15, .iconst 0, 1, [0]), (16, .ireturn, 1, [])]
theorem hp_L_reward : ∀ q ∈ pg_L_reward, decode cL_reward q.1 = .ok (q.2.1, q.2.2.1) ∧ ztg q.2.1 q.1 q.2.2.1 q.2.2.2 = true := zpg_of (by decide +kernel)
def hd_L_reward : List zHd := [("java/lang/IndexOutOfBoundsException", 12, 13, 3, 1, 1)]
theorem hhd_L_reward : ∀ q ∈ hd_L_reward, zHdOK cL_reward RL 4 q := List.forall_mem_cons.mpr ⟨⟨⟨by decide, by decide⟩, zmem (i := 243) (by decide +kernel) rfl, by decide +kernel, Or.inl ⟨3, rfl, rfl, by decide +kernel⟩, ⟨1, by decide, by decide +kernel⟩, by decide +kernel⟩, fun _ h => absurd h List.not_mem_nil⟩
def cs_L_reward : List (Nat × zCall) := [(86, 0, 2, some 5, 1, 6, false, zMc sp_X4_reward)]
theorem hcs_L_reward {l : Launch} (hl0 : l.stackTraces = false) : ∀ q ∈ cs_L_reward, zCallable l RL 4 q := List.forall_mem_cons.mpr ⟨zcV (C := (RX4, TX4, 6)) (ps := [1040, 1041, 1042, 28, 1043]) (CT_mono (c_X4_reward hl0)) (by decide +kernel) rfl ⟨rfl, by decide +kernel, by decide +kernel, by decide +kernel⟩ (by decide) (by decide), fun _ h => absurd h List.not_mem_nil⟩
def sp_L_reward : zSpec := fun args w Q _ => ∃ α ν β μ f a, args = [.ref 0, .int a, .ref 36] ∧ w = zW3 α ν β μ f ∧ sp_X4_reward [.ref 0, .int a] (zW3 α ν β μ f) (zQw β μ f Q) (zXw [(zIOO, 1)] Q)
set_option maxHeartbeats 4000000 in
set_option maxRecDepth 20000 in
theorem c_L_reward {l : Launch} (hl0 : l.stackTraces = false) : CT l yL_reward (.codeWith yL_reward cL_reward 4 (some .int) (zHdS 9 hd_L_reward)) 4 1 6 false sp_L_reward := by
  refine zCT_ofH (own := RL) cs_L_reward pg_L_reward 9 hd_L_reward rfl (by decide +kernel) hp_L_reward ⟨_, _, rfl, rfl⟩ (hcs_L_reward hl0) hhd_L_reward (fun args w Q X h => ?_)
  obtain ⟨α, ν, β, μ, f, a, rfl, rfl, hSp⟩ := h
  refine ⟨Nat.le_of_ble_eq_true rfl, 40, [], ?_, fun q hq => absurd hq List.not_mem_nil⟩
  (conv => whnf)
  refine ⟨_, _, hSp, fun rv w9 hq => ?_, fun E w9 hx => ?_⟩
  · obtain ⟨x, α', ν', rfl, rfl, hq⟩ := hq
    (conv => whnf)
    refine ⟨vp_in_nI (show 0 < 1 by decide) (by decide), ?_⟩
    (conv => whnf)
    show Q (some (.int (nI 0))) (zW3 α' ν' β μ (vp_updL f (nI 0).toNatClampNeg x.toInt64))
    rw [nI_clamp (by decide)]
    exact hq
  · obtain ⟨k, hk, hq⟩ := hx
    have e := List.mem_singleton.mp hk
    cases e
    (conv => whnf)
    exact ⟨[], ("java/lang/IndexOutOfBoundsException", 12, 13, 3, 1, 1), [], rfl, rfl, by decide +kernel, Nat.le_of_ble_eq_true rfl, Nat.le_of_ble_eq_true rfl, Nat.le_of_ble_eq_true rfl, hq⟩
