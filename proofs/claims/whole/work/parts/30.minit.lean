/-! ===== EchoRegistryModel: its constructor ===== -/
def zβ0 (f a4 : Nat → Int32) : Nat → Nat → Int32 := fun i => match i with
  | 3 => f
  | 4 => a4
  | 6 => zfl (nI 200) (fun _ => 0) 4
  | _ => fun _ => 0
def zμ0 : Nat → Int32 := fun _ => 0
def sp_X5_init : zSpec := fun args w Q _ => ∃ α ν, args = [.ref 21] ∧ w = WX α ν [.inr (6, [.null, .null, .null, .int 0, .null, .null, .int 0, .null, .null, .int 0, .null, .null, .null, .int 0, .null, .null, .null, .int 0, .null, .int 0, .int 0])] ∧ ∀ f a4, zLow (fun _ => 0) f → Q none (W2 α ν (zβ0 f a4) zμ0 [])
def zMw1 : zW := .inr (6, [.ref 22, .null, .null, .int 0, .null, .null, .int 0, .null, .null, .int 0, .null, .null, .null, .int 0, .null, .null, .null, .int 0, .null, .int 0, .int 0]) :: [.inl (0, 96, .inl (fun _ => 0))]
def zMw2 : zW := .inr (6, [.ref 22, .ref 23, .null, .int 0, .null, .null, .int 0, .null, .null, .int 0, .null, .null, .null, .int 0, .null, .null, .null, .int 0, .null, .int 0, .int 0]) :: [.inl (0, 96, .inl (fun _ => 0)), .inl (0, 96, .inl (fun _ => 0))]
def zMw3 : zW := .inr (6, [.ref 22, .ref 23, .ref 24, .int 0, .null, .null, .int 0, .null, .null, .int 0, .null, .null, .null, .int 0, .null, .null, .null, .int 0, .null, .int 0, .int 0]) :: [.inl (0, 96, .inl (fun _ => 0)), .inl (0, 96, .inl (fun _ => 0)), .inl (0, 96, .inl (fun _ => 0))]
def zMw4 : zW := .inr (6, [.ref 22, .ref 23, .ref 24, .int 0, .ref 25, .null, .int 0, .null, .null, .int 0, .null, .null, .null, .int 0, .null, .null, .null, .int 0, .null, .int 0, .int 0]) :: [.inl (0, 96, .inl (fun _ => 0)), .inl (0, 96, .inl (fun _ => 0)), .inl (0, 96, .inl (fun _ => 0)), .inl (0, 96, .inl (fun _ => 0))]
def zMw5 : zW := .inr (6, [.ref 22, .ref 23, .ref 24, .int 0, .ref 25, .ref 26, .int 0, .null, .null, .int 0, .null, .null, .null, .int 0, .null, .null, .null, .int 0, .null, .int 0, .int 0]) :: [.inl (0, 96, .inl (fun _ => 0)), .inl (0, 96, .inl (fun _ => 0)), .inl (0, 96, .inl (fun _ => 0)), .inl (0, 96, .inl (fun _ => 0)), .inl (0, 96, .inl (fun _ => 0))]
def zMw6 : zW := .inr (6, [.ref 22, .ref 23, .ref 24, .int 0, .ref 25, .ref 26, .int 0, .ref 27, .null, .int 0, .null, .null, .null, .int 0, .null, .null, .null, .int 0, .null, .int 0, .int 0]) :: [.inl (0, 96, .inl (fun _ => 0)), .inl (0, 96, .inl (fun _ => 0)), .inl (0, 96, .inl (fun _ => 0)), .inl (0, 96, .inl (fun _ => 0)), .inl (0, 96, .inl (fun _ => 0)), .inl (0, 4, .inl (fun _ => 0))]
def zMw7 : zW := .inr (6, [.ref 22, .ref 23, .ref 24, .int 0, .ref 25, .ref 26, .int 0, .ref 27, .ref 28, .int 0, .null, .null, .null, .int 0, .null, .null, .null, .int 0, .null, .int 0, .int 0]) :: [.inl (0, 96, .inl (fun _ => 0)), .inl (0, 96, .inl (fun _ => 0)), .inl (0, 96, .inl (fun _ => 0)), .inl (0, 96, .inl (fun _ => 0)), .inl (0, 96, .inl (fun _ => 0)), .inl (0, 4, .inl (fun _ => 0)), .inl (0, 4, .inl (fun _ => 0))]
def zMw8 : zW := .inr (6, [.ref 22, .ref 23, .ref 24, .int 0, .ref 25, .ref 26, .int 0, .ref 27, .ref 28, .int 0, .ref 29, .null, .null, .int 0, .null, .null, .null, .int 0, .null, .int 0, .int 0]) :: [.inl (0, 96, .inl (fun _ => 0)), .inl (0, 96, .inl (fun _ => 0)), .inl (0, 96, .inl (fun _ => 0)), .inl (0, 96, .inl (fun _ => 0)), .inl (0, 96, .inl (fun _ => 0)), .inl (0, 4, .inl (fun _ => 0)), .inl (0, 4, .inl (fun _ => 0)), .inl (0, 40, .inl (fun _ => 0))]
def zMw9 : zW := .inr (6, [.ref 22, .ref 23, .ref 24, .int 0, .ref 25, .ref 26, .int 0, .ref 27, .ref 28, .int 0, .ref 29, .ref 30, .null, .int 0, .null, .null, .null, .int 0, .null, .int 0, .int 0]) :: [.inl (0, 96, .inl (fun _ => 0)), .inl (0, 96, .inl (fun _ => 0)), .inl (0, 96, .inl (fun _ => 0)), .inl (0, 96, .inl (fun _ => 0)), .inl (0, 96, .inl (fun _ => 0)), .inl (0, 4, .inl (fun _ => 0)), .inl (0, 4, .inl (fun _ => 0)), .inl (0, 40, .inl (fun _ => 0)), .inl (0, 40, .inl (fun _ => 0))]
def zMw10 : zW := .inr (6, [.ref 22, .ref 23, .ref 24, .int 0, .ref 25, .ref 26, .int 0, .ref 27, .ref 28, .int 0, .ref 29, .ref 30, .ref 31, .int 0, .null, .null, .null, .int 0, .null, .int 0, .int 0]) :: [.inl (0, 96, .inl (fun _ => 0)), .inl (0, 96, .inl (fun _ => 0)), .inl (0, 96, .inl (fun _ => 0)), .inl (0, 96, .inl (fun _ => 0)), .inl (0, 96, .inl (fun _ => 0)), .inl (0, 4, .inl (fun _ => 0)), .inl (0, 4, .inl (fun _ => 0)), .inl (0, 40, .inl (fun _ => 0)), .inl (0, 40, .inl (fun _ => 0)), .inl (0, 40, .inl (fun _ => 0))]
def zMw11 : zW := .inr (6, [.ref 22, .ref 23, .ref 24, .int 0, .ref 25, .ref 26, .int 0, .ref 27, .ref 28, .int 0, .ref 29, .ref 30, .ref 31, .int 0, .ref 32, .null, .null, .int 0, .null, .int 0, .int 0]) :: [.inl (0, 96, .inl (fun _ => 0)), .inl (0, 96, .inl (fun _ => 0)), .inl (0, 96, .inl (fun _ => 0)), .inl (0, 96, .inl (fun _ => 0)), .inl (0, 96, .inl (fun _ => 0)), .inl (0, 4, .inl (fun _ => 0)), .inl (0, 4, .inl (fun _ => 0)), .inl (0, 40, .inl (fun _ => 0)), .inl (0, 40, .inl (fun _ => 0)), .inl (0, 40, .inl (fun _ => 0)), .inl (0, 60, .inl (fun _ => 0))]
def zMw12 : zW := .inr (6, [.ref 22, .ref 23, .ref 24, .int 0, .ref 25, .ref 26, .int 0, .ref 27, .ref 28, .int 0, .ref 29, .ref 30, .ref 31, .int 0, .ref 32, .ref 33, .null, .int 0, .null, .int 0, .int 0]) :: [.inl (0, 96, .inl (fun _ => 0)), .inl (0, 96, .inl (fun _ => 0)), .inl (0, 96, .inl (fun _ => 0)), .inl (0, 96, .inl (fun _ => 0)), .inl (0, 96, .inl (fun _ => 0)), .inl (0, 4, .inl (fun _ => 0)), .inl (0, 4, .inl (fun _ => 0)), .inl (0, 40, .inl (fun _ => 0)), .inl (0, 40, .inl (fun _ => 0)), .inl (0, 40, .inl (fun _ => 0)), .inl (0, 60, .inl (fun _ => 0)), .inl (0, 60, .inl (fun _ => 0))]
def zMw13 : zW := .inr (6, [.ref 22, .ref 23, .ref 24, .int 0, .ref 25, .ref 26, .int 0, .ref 27, .ref 28, .int 0, .ref 29, .ref 30, .ref 31, .int 0, .ref 32, .ref 33, .ref 34, .int 0, .null, .int 0, .int 0]) :: [.inl (0, 96, .inl (fun _ => 0)), .inl (0, 96, .inl (fun _ => 0)), .inl (0, 96, .inl (fun _ => 0)), .inl (0, 96, .inl (fun _ => 0)), .inl (0, 96, .inl (fun _ => 0)), .inl (0, 4, .inl (fun _ => 0)), .inl (0, 4, .inl (fun _ => 0)), .inl (0, 40, .inl (fun _ => 0)), .inl (0, 40, .inl (fun _ => 0)), .inl (0, 40, .inl (fun _ => 0)), .inl (0, 60, .inl (fun _ => 0)), .inl (0, 60, .inl (fun _ => 0)), .inl (0, 6, .inl (fun _ => 0))]
def pg_X5_init : List zE := [(0, .aload_n 0, 1, []), (1, .invokespecial 1, 3, []), (4, .aload_n 0, 1, []), (5, .bipush 96, 2, [96]), (7, .newarray .int, 2, []), (9, .putfield 7, 3, []), (12, .aload_n 0, 1, []), (13, .bipush 96, 2, [96]), (15, .newarray .int, 2, []), (17, .putfield 13, 3, []), (20, .aload_n 0, 1, []), (21, .bipush 96, 2, [96]), (23, .newarray .int, 2, []), (25, .putfield 16, 3, []), (28, .aload_n 0, 1, []), (29, .bipush 96, 2, [96]), (31, .newarray .int, 2, []), (33, .putfield 19, 3, []), (36, .aload_n 0, 1, []), (37, .bipush 96, 2, [96]), (39, .newarray .int, 2, []), (41, .putfield 22, 3, []), (44, .aload_n 0, 1, []), (45, .iconst 4, 1, [4]), (46, .newarray .int, 2, []), (48, .putfield 25, 3, []), (51, .aload_n 0, 1, []), (52, .iconst 4, 1, [4]), (53, .newarray .int, 2, []), (55, .putfield 28, 3, []), (58, .aload_n 0, 1, []), (59, .bipush 40, 2, [40]), (61, .newarray .int, 2, []), (63, .putfield 31, 3, []), (66, .aload_n 0, 1, []), (67, .bipush 40, 2, [40]), (69, .newarray .int, 2, []), (71, .putfield 34, 3, []), (74, .aload_n 0, 1, []), (75, .bipush 40, 2, [40]), (77, .newarray .int, 2, []), (79, .putfield 37, 3, []), (82, .aload_n 0, 1, []), (83, .bipush 60, 2, [60]), (85, .newarray .int, 2, []), (87, .putfield 40, 3, []), (90, .aload_n 0, 1, []), (91, .bipush 60, 2, [60]), (93, .newarray .int, 2, []), (95, .putfield 43, 3, []), (98, .aload_n 0, 1, []), (99, .bipush 6, 2, [6]), (101, .newarray .int, 2, []), (103, .putfield 46, 3, []), (106, .aload_n 0, 1, []), (107, .bipush 12, 2, [12]), (109, .newarray .int, 2, []), (111, .putfield 49, 3, []), (114, .iconst 0, 1, [0]), (115, .istore_n 1, 1, []), (116, .iload_n 1, 1, []), (117, .iconst 4, 1, [4]), (118, .if_icmp .ge 18, 3, [136]), (121, .aload_n 0, 1, []), (122, .getfield 25, 3, []), (125, .iload_n 1, 1, []), (126, .sipush 200, 3, [200]), (129, .iastore, 1, []), (130, .iinc 1 1, 3, [1]), (133, .goto (-17), 3, [116]), (136, .aload_n 0, 1, []), (137, .invokevirtual 52, 3, []), (140, .return_, 1, [])]
theorem hp_X5_init : ∀ q ∈ pg_X5_init, decode cX5_init q.1 = .ok (q.2.1, q.2.2.1) ∧ ztg q.2.1 q.1 q.2.2.1 q.2.2.2 = true := zpg_of (by decide +kernel)
def cs_X5_init : List (Nat × zCall) := [(1, 2, 1, some 6, 0, 0, false, zspO), (52, 0, 1, some 6, 0, 0, false, sp_X5_finds)]
theorem hcs_X5_init {l : Launch} (hl0 : l.stackTraces = false) : ∀ q ∈ cs_X5_init, zCallable l RX5 3 q := List.forall_mem_cons.mpr ⟨zcO (ps := [1053, 60, 61]) (by decide +kernel) (by decide), List.forall_mem_cons.mpr ⟨zcV (C := (RX5, TX5, 21)) (ps := [1054, 1056, 13, 38, 1057]) (c_X5_finds hl0) (by decide +kernel) rfl ⟨rfl, by decide +kernel, by decide +kernel, by decide +kernel⟩ (by decide) (by decide), fun _ h => absurd h List.not_mem_nil⟩⟩
def th_X5_init : List (Nat × String) := []
theorem hth_X5_init : ∀ q ∈ th_X5_init, zThrow cX5_init RX5 q := fun _ h => absurd h List.not_mem_nil
def kc_X5_init : List (Nat × Int32) := []
theorem hkc_X5_init : ∀ q ∈ kc_X5_init, Cond.constant RX5 q.1 q.2 ∈ zTs := fun _ h => absurd h List.not_mem_nil
def nw_X5_init : List (Nat × Nat × Nat × List Value) := []
theorem hnw_X5_init : ∀ q ∈ nw_X5_init, zNew RX5 q := fun _ h => absurd h List.not_mem_nil
set_option maxHeartbeats 4000000 in
set_option maxRecDepth 20000 in
theorem c_X5_init {l : Launch} (hl0 : l.stackTraces = false) : CT l yX5_init (.code yX5_init cX5_init 2 none) 3 14 746 true sp_X5_init := by
  refine zCT_of hl0 (own := RX5) fl_RX5 cs_X5_init nw_X5_init th_X5_init kc_X5_init (fun _ => []) true pg_X5_init rfl (by decide +kernel) hp_X5_init ⟨_, _, rfl, rfl⟩ hfl_RX5 (fun _ => ⟨rfl, fun q hq C hC => zini_of (by decide +kernel) q hq C hC⟩) (hcs_X5_init hl0) hnw_X5_init hth_X5_init (fun _ _ h => absurd h List.not_mem_nil) hkc_X5_init (fun args w Q X v0 hv0 h => ?_)
  obtain ⟨α, ν, rfl, rfl, hQ⟩ := h
  refine ⟨Nat.le_of_ble_eq_true rfl, 100, [
    (12, fun m L S w' cu su => zsub [(0, .ref 21)] L ∧ S = [] ∧ w' = WX α ν zMw1 ∧ m = 99 ∧ cu = 1 ∧ su = 96),
    (20, fun m L S w' cu su => zsub [(0, .ref 21)] L ∧ S = [] ∧ w' = WX α ν zMw2 ∧ m = 98 ∧ cu = 2 ∧ su = 192),
    (28, fun m L S w' cu su => zsub [(0, .ref 21)] L ∧ S = [] ∧ w' = WX α ν zMw3 ∧ m = 97 ∧ cu = 3 ∧ su = 288),
    (36, fun m L S w' cu su => zsub [(0, .ref 21)] L ∧ S = [] ∧ w' = WX α ν zMw4 ∧ m = 96 ∧ cu = 4 ∧ su = 384),
    (44, fun m L S w' cu su => zsub [(0, .ref 21)] L ∧ S = [] ∧ w' = WX α ν zMw5 ∧ m = 95 ∧ cu = 5 ∧ su = 480),
    (51, fun m L S w' cu su => zsub [(0, .ref 21)] L ∧ S = [] ∧ w' = WX α ν zMw6 ∧ m = 94 ∧ cu = 6 ∧ su = 484),
    (58, fun m L S w' cu su => zsub [(0, .ref 21)] L ∧ S = [] ∧ w' = WX α ν zMw7 ∧ m = 93 ∧ cu = 7 ∧ su = 488),
    (66, fun m L S w' cu su => zsub [(0, .ref 21)] L ∧ S = [] ∧ w' = WX α ν zMw8 ∧ m = 92 ∧ cu = 8 ∧ su = 528),
    (74, fun m L S w' cu su => zsub [(0, .ref 21)] L ∧ S = [] ∧ w' = WX α ν zMw9 ∧ m = 91 ∧ cu = 9 ∧ su = 568),
    (82, fun m L S w' cu su => zsub [(0, .ref 21)] L ∧ S = [] ∧ w' = WX α ν zMw10 ∧ m = 90 ∧ cu = 10 ∧ su = 608),
    (90, fun m L S w' cu su => zsub [(0, .ref 21)] L ∧ S = [] ∧ w' = WX α ν zMw11 ∧ m = 89 ∧ cu = 11 ∧ su = 668),
    (98, fun m L S w' cu su => zsub [(0, .ref 21)] L ∧ S = [] ∧ w' = WX α ν zMw12 ∧ m = 88 ∧ cu = 12 ∧ su = 728),
    (106, fun m L S w' cu su => zsub [(0, .ref 21)] L ∧ S = [] ∧ w' = WX α ν zMw13 ∧ m = 87 ∧ cu = 13 ∧ su = 734),
    (116, fun m L S w' cu su => ∃ i, zsub [(0, .ref 21), (1, .int (nI i))] L ∧ S = [] ∧ w' = W2 α ν (zu (zβ0 (fun _ => 0) (fun _ => 0)) 6 (zfl (nI 200) (fun _ => 0) i)) zμ0 [] ∧ i ≤ 4 ∧ m = 4 - i ∧ cu = 14 ∧ su = 746)], ?_, ?_⟩
  · (conv => whnf)
    refine ⟨96, rfl, by decide, Nat.le_of_ble_eq_true rfl, ?_⟩
    (conv => whnf)
    exact ⟨99, ⟨rfl, trivial⟩, rfl, rfl, rfl, rfl, rfl⟩
  · intro q hq
    rcases List.mem_cons.mp hq with rfl | hq
    · rintro m L S w' cu su ⟨hL, rfl, rfl, rfl, rfl, rfl⟩
      refine ⟨_, hL, ?_⟩
      (conv => whnf)
      refine ⟨96, rfl, by decide, Nat.le_of_ble_eq_true rfl, ?_⟩
      (conv => whnf)
      exact ⟨98, by decide, ⟨rfl, trivial⟩, rfl, rfl, rfl, rfl, rfl⟩
    rcases List.mem_cons.mp hq with rfl | hq
    · rintro m L S w' cu su ⟨hL, rfl, rfl, rfl, rfl, rfl⟩
      refine ⟨_, hL, ?_⟩
      (conv => whnf)
      refine ⟨96, rfl, by decide, Nat.le_of_ble_eq_true rfl, ?_⟩
      (conv => whnf)
      exact ⟨97, by decide, ⟨rfl, trivial⟩, rfl, rfl, rfl, rfl, rfl⟩
    rcases List.mem_cons.mp hq with rfl | hq
    · rintro m L S w' cu su ⟨hL, rfl, rfl, rfl, rfl, rfl⟩
      refine ⟨_, hL, ?_⟩
      (conv => whnf)
      refine ⟨96, rfl, by decide, Nat.le_of_ble_eq_true rfl, ?_⟩
      (conv => whnf)
      exact ⟨96, by decide, ⟨rfl, trivial⟩, rfl, rfl, rfl, rfl, rfl⟩
    rcases List.mem_cons.mp hq with rfl | hq
    · rintro m L S w' cu su ⟨hL, rfl, rfl, rfl, rfl, rfl⟩
      refine ⟨_, hL, ?_⟩
      (conv => whnf)
      refine ⟨96, rfl, by decide, Nat.le_of_ble_eq_true rfl, ?_⟩
      (conv => whnf)
      exact ⟨95, by decide, ⟨rfl, trivial⟩, rfl, rfl, rfl, rfl, rfl⟩
    rcases List.mem_cons.mp hq with rfl | hq
    · rintro m L S w' cu su ⟨hL, rfl, rfl, rfl, rfl, rfl⟩
      refine ⟨_, hL, ?_⟩
      (conv => whnf)
      refine ⟨4, rfl, by decide, Nat.le_of_ble_eq_true rfl, ?_⟩
      (conv => whnf)
      exact ⟨94, by decide, ⟨rfl, trivial⟩, rfl, rfl, rfl, rfl, rfl⟩
    rcases List.mem_cons.mp hq with rfl | hq
    · rintro m L S w' cu su ⟨hL, rfl, rfl, rfl, rfl, rfl⟩
      refine ⟨_, hL, ?_⟩
      (conv => whnf)
      refine ⟨4, rfl, by decide, Nat.le_of_ble_eq_true rfl, ?_⟩
      (conv => whnf)
      exact ⟨93, by decide, ⟨rfl, trivial⟩, rfl, rfl, rfl, rfl, rfl⟩
    rcases List.mem_cons.mp hq with rfl | hq
    · rintro m L S w' cu su ⟨hL, rfl, rfl, rfl, rfl, rfl⟩
      refine ⟨_, hL, ?_⟩
      (conv => whnf)
      refine ⟨40, rfl, by decide, Nat.le_of_ble_eq_true rfl, ?_⟩
      (conv => whnf)
      exact ⟨92, by decide, ⟨rfl, trivial⟩, rfl, rfl, rfl, rfl, rfl⟩
    rcases List.mem_cons.mp hq with rfl | hq
    · rintro m L S w' cu su ⟨hL, rfl, rfl, rfl, rfl, rfl⟩
      refine ⟨_, hL, ?_⟩
      (conv => whnf)
      refine ⟨40, rfl, by decide, Nat.le_of_ble_eq_true rfl, ?_⟩
      (conv => whnf)
      exact ⟨91, by decide, ⟨rfl, trivial⟩, rfl, rfl, rfl, rfl, rfl⟩
    rcases List.mem_cons.mp hq with rfl | hq
    · rintro m L S w' cu su ⟨hL, rfl, rfl, rfl, rfl, rfl⟩
      refine ⟨_, hL, ?_⟩
      (conv => whnf)
      refine ⟨40, rfl, by decide, Nat.le_of_ble_eq_true rfl, ?_⟩
      (conv => whnf)
      exact ⟨90, by decide, ⟨rfl, trivial⟩, rfl, rfl, rfl, rfl, rfl⟩
    rcases List.mem_cons.mp hq with rfl | hq
    · rintro m L S w' cu su ⟨hL, rfl, rfl, rfl, rfl, rfl⟩
      refine ⟨_, hL, ?_⟩
      (conv => whnf)
      refine ⟨60, rfl, by decide, Nat.le_of_ble_eq_true rfl, ?_⟩
      (conv => whnf)
      exact ⟨89, by decide, ⟨rfl, trivial⟩, rfl, rfl, rfl, rfl, rfl⟩
    rcases List.mem_cons.mp hq with rfl | hq
    · rintro m L S w' cu su ⟨hL, rfl, rfl, rfl, rfl, rfl⟩
      refine ⟨_, hL, ?_⟩
      (conv => whnf)
      refine ⟨60, rfl, by decide, Nat.le_of_ble_eq_true rfl, ?_⟩
      (conv => whnf)
      exact ⟨88, by decide, ⟨rfl, trivial⟩, rfl, rfl, rfl, rfl, rfl⟩
    rcases List.mem_cons.mp hq with rfl | hq
    · rintro m L S w' cu su ⟨hL, rfl, rfl, rfl, rfl, rfl⟩
      refine ⟨_, hL, ?_⟩
      (conv => whnf)
      refine ⟨6, rfl, by decide, Nat.le_of_ble_eq_true rfl, ?_⟩
      (conv => whnf)
      exact ⟨87, by decide, ⟨rfl, trivial⟩, rfl, rfl, rfl, rfl, rfl⟩
    rcases List.mem_cons.mp hq with rfl | hq
    · rintro m L S w' cu su ⟨hL, rfl, rfl, rfl, rfl, rfl⟩
      refine ⟨_, hL, ?_⟩
      (conv => whnf)
      refine ⟨12, rfl, by decide, Nat.le_of_ble_eq_true rfl, ?_⟩
      (conv => whnf)
      refine ⟨4, by decide, 0, ⟨rfl, rfl, trivial⟩, rfl, ?_, by decide, rfl, rfl, rfl⟩
      rw [zfl_0]
      rfl
    rw [List.mem_singleton.mp hq]
    rintro m L S w' cu su ⟨i, hL, rfl, rfl, hi, rfl, rfl, rfl⟩
    refine ⟨_, hL, ?_⟩
    (conv => whnf)
    refine And.intro (fun c => ?_) (fun c => ?_)
    · have hlt : i < 4 := (nI_ltI (by omega) (by omega)).mp c
      (conv => whnf)
      refine ⟨vp_in_nI hlt (by decide), ?_⟩
      (conv => whnf)
      refine ⟨4 - (i + 1), by omega, i + 1, ⟨rfl, zi1 rfl, trivial⟩, rfl, ?_, hlt, rfl, rfl, rfl⟩
      rw [nI_clamp (by omega), ← zfl_s]
      rfl
    · have hge : i = 4 := by
        have : ¬ i < 4 := fun h => c (nI_lt h (by decide))
        omega
      subst hge
      (conv => whnf)
      refine ⟨α, ν, zu (zβ0 (fun _ => 0) (fun _ => 0)) 6 (zfl (nI 200) (fun _ => 0) 4), zμ0, [], rfl, rfl, fun f a4 hf => ?_⟩
      (conv => whnf)
      exact hQ f a4 hf
