/-! ===== EchoRegistryLaw: sum, claims, cells ===== -/
theorem zmcI {Sp : zSpec} {args : zS} {w : zW} {N : Option Value → zW → Prop} {X : String → zW → Prop} (h : Sp args w N X) : zMc Sp args w N X := ⟨N, X, h, fun _ _ h => h, fun _ _ h => h⟩
theorem zbl {a b : Nat} (h : a ≤ b) : Nat.ble a b = true := Nat.ble_eq_true_of_le h
def sp_L_sum : zSpec := fun args w Q _ => ∃ α ν, args = [.ref 0] ∧ w = WX α ν [] ∧ Q (some (.int (zSu α ν 6))) (WX α ν [])
def pg_L_sum : List zE := [(0, .aload_n 0, 1, []), (1, .invokevirtual 63, 3, []), (4, .istore_n 1, 1, []), (5, .iconst 0, 1, [0]), (6, .istore_n 2, 1, []), (7, .iload_n 2, 1, []), (8, .bipush 6, 2, [6]), (10, .if_icmp .ge 17, 3, [27]), (13, .iload_n 1, 1, []), (14, .aload_n 0, 1, []), (15, .iload_n 2, 1, []), (16, .invokevirtual 66, 3, []), (19, .iadd, 1, []), (20, .istore_n 1, 1, []), (21, .iinc 2 1, 3, [1]), (24, .goto (-17), 3, [7]), (27, .iload_n 1, 1, []), (28, .ireturn, 1, [])]
theorem hp_L_sum : ∀ q ∈ pg_L_sum, decode cL_sum q.1 = .ok (q.2.1, q.2.2.1) ∧ ztg q.2.1 q.1 q.2.2.1 q.2.2.2 = true := zpg_of (by decide +kernel)
def cs_L_sum : List (Nat × zCall) := [(63, 0, 1, some 5, 0, 0, false, zMc sp_X4_kept), (66, 0, 2, some 5, 1, 6, false, zMc sp_X4_reward)]
theorem hcs_L_sum {l : Launch} (hl0 : l.stackTraces = false) : ∀ q ∈ cs_L_sum, zCallable l RL 4 q := List.forall_mem_cons.mpr ⟨zcV (C := (RX4, TX4, 6)) (ps := [832, 833, 834, 14, 835]) (CT_mono (c_X4_kept hl0)) (by decide +kernel) rfl ⟨rfl, by decide +kernel, by decide +kernel, by decide +kernel⟩ (by decide) (by decide), List.forall_mem_cons.mpr ⟨zcV (C := (RX4, TX4, 6)) (ps := [840, 841, 842, 14, 843]) (CT_mono (c_X4_reward hl0)) (by decide +kernel) rfl ⟨rfl, by decide +kernel, by decide +kernel, by decide +kernel⟩ (by decide) (by decide), fun _ h => absurd h List.not_mem_nil⟩⟩
def th_L_sum : List (Nat × String) := []
theorem hth_L_sum : ∀ q ∈ th_L_sum, zThrow cL_sum RL q := fun _ h => absurd h List.not_mem_nil
def kc_L_sum : List (Nat × Int32) := []
theorem hkc_L_sum : ∀ q ∈ kc_L_sum, Cond.constant RL q.1 q.2 ∈ zTs := fun _ h => absurd h List.not_mem_nil
def nw_L_sum : List (Nat × Nat × Nat × List Value) := []
theorem hnw_L_sum : ∀ q ∈ nw_L_sum, zNew RL q := fun _ h => absurd h List.not_mem_nil
set_option maxHeartbeats 4000000 in
set_option maxRecDepth 20000 in
theorem c_L_sum {l : Launch} (hl0 : l.stackTraces = false) : CT l yL_sum (.code yL_sum cL_sum 3 (some .int)) 4 10 60 false sp_L_sum := by
  refine zCT_of hl0 (own := RL) fl_RL cs_L_sum nw_L_sum th_L_sum kc_L_sum (fun _ => []) false pg_L_sum rfl (by decide +kernel) hp_L_sum ⟨_, _, rfl, rfl⟩ hfl_RL (fun h => nomatch h) (hcs_L_sum hl0) hnw_L_sum hth_L_sum (fun _ _ h => absurd h List.not_mem_nil) hkc_L_sum (fun args w Q X v0 hv0 h => ?_)
  obtain ⟨α, ν, rfl, rfl, hQ⟩ := h
  refine ⟨Nat.le_of_ble_eq_true rfl, 60, [(7, fun m L S w' cu su => ∃ i, zsub [(0, .ref 0), (1, .int (zSu α ν i)), (2, .int (nI i))] L ∧ S = [] ∧ w' = WX α ν [] ∧ i ≤ 6 ∧ m = 6 - i ∧ cu ≤ i ∧ su ≤ 6 * i)], ?_, zone ?_⟩
  · (conv => whnf)
    refine zmcI (k_kept ?_)
    (conv => whnf)
    exact ⟨6, 0, ⟨rfl, rfl, rfl, trivial⟩, rfl, rfl, by decide, rfl, by decide, by decide⟩
  · rintro m L S w' cu su ⟨i, hL, rfl, rfl, hi, rfl, hcu, hsu⟩
    refine ⟨_, hL, ?_⟩
    (conv => whnf)
    refine And.intro (fun c => ?_) (fun c => ?_)
    · have hlt : i < 6 := (nI_ltI (by omega) (by decide)).mp c
      (conv => whnf)
      rw [zbl (show cu + 1 ≤ 10 by omega)]
      (conv => whnf)
      rw [zbl (show su + 6 ≤ 60 by omega)]
      (conv => whnf)
      refine zmcI (k_reward hlt ?_)
      (conv => whnf)
      exact ⟨6 - (i + 1), by omega, i + 1, ⟨rfl, rfl, zi1 rfl, trivial⟩, rfl, rfl, by omega, rfl, by omega, by omega⟩
    · have hge : i = 6 := by
        have : ¬ i < 6 := fun h => c (nI_lt h (by decide))
        omega
      subst hge
      (conv => whnf)
      rw [zbl (show cu ≤ 10 by omega)]
      (conv => whnf)
      rw [zbl (show su ≤ 60 by omega)]
      (conv => whnf)
      exact hQ
def sp_L_claims : zSpec := fun args w Q _ => ∃ B α ν, zIv B α ν ∧ args = [.ref 0] ∧ w = WX α ν [] ∧ Q (some (.int (nI 1))) (WX α ν [])
def pg_L_claims : List zE := [(0, .iconst 1, 1, [1]), (1, .istore_n 1, 1, []), (2, .aload_n 0, 1, []), (3, .invokevirtual 52, 3, []), (6, .istore_n 2, 1, []), (7, .iconst 0, 1, [0]), (8, .istore_n 3, 1, []), (9, .iload_n 3, 1, []), (10, .iload_n 2, 1, []), (11, .if_icmp .ge 35, 3, [46]), (14, .iload_n 1, 1, []), (15, .ifCond .eq 31, 3, [46]), (18, .aload_n 0, 1, []), (19, .iload_n 3, 1, []), (20, .invokevirtual 56, 3, []), (23, .ifCond .eq 11, 3, [34]), (26, .aload_n 0, 1, []), (27, .iload_n 3, 1, []), (28, .invokevirtual 60, 3, []), (31, .ifCond .eq 7, 3, [38]), (34, .iconst 1, 1, [1]), (35, .goto 4, 3, [39]), (38, .iconst 0, 1, [0]), (39, .istore_n 1, 1, []), (40, .iinc 3 1, 3, [1]), (43, .goto (-34), 3, [9]), (46, .iload_n 1, 1, []), (47, .ireturn, 1, [])]
theorem hp_L_claims : ∀ q ∈ pg_L_claims, decode cL_claims q.1 = .ok (q.2.1, q.2.2.1) ∧ ztg q.2.1 q.1 q.2.2.1 q.2.2.2 = true := zpg_of (by decide +kernel)
def cs_L_claims : List (Nat × zCall) := [(52, 0, 1, some 5, 0, 0, false, zMc sp_X4_claims), (56, 0, 2, some 5, 1, 6, false, zMc sp_X4_holds), (60, 0, 2, some 5, 1, 6, false, zMc sp_X4_runs)]
theorem hcs_L_claims {l : Launch} (hl0 : l.stackTraces = false) : ∀ q ∈ cs_L_claims, zCallable l RL 6 q := List.forall_mem_cons.mpr ⟨zcV (C := (RX4, TX4, 6)) (ps := [444, 445, 446, 14, 447]) (CT_mono (c_X4_claims hl0)) (by decide +kernel) rfl ⟨rfl, by decide +kernel, by decide +kernel, by decide +kernel⟩ (by decide) (by decide), List.forall_mem_cons.mpr ⟨zcV (C := (RX4, TX4, 6)) (ps := [458, 459, 460, 14, 461]) (CT_mono (c_X4_holds hl0)) (by decide +kernel) rfl ⟨rfl, by decide +kernel, by decide +kernel, by decide +kernel⟩ (by decide) (by decide), List.forall_mem_cons.mpr ⟨zcV (C := (RX4, TX4, 6)) (ps := [448, 449, 450, 14, 451]) (CT_mono (c_X4_runs hl0)) (by decide +kernel) rfl ⟨rfl, by decide +kernel, by decide +kernel, by decide +kernel⟩ (by decide) (by decide), fun _ h => absurd h List.not_mem_nil⟩⟩⟩
def th_L_claims : List (Nat × String) := []
theorem hth_L_claims : ∀ q ∈ th_L_claims, zThrow cL_claims RL q := fun _ h => absurd h List.not_mem_nil
def kc_L_claims : List (Nat × Int32) := []
theorem hkc_L_claims : ∀ q ∈ kc_L_claims, Cond.constant RL q.1 q.2 ∈ zTs := fun _ h => absurd h List.not_mem_nil
def nw_L_claims : List (Nat × Nat × Nat × List Value) := []
theorem hnw_L_claims : ∀ q ∈ nw_L_claims, zNew RL q := fun _ h => absurd h List.not_mem_nil
set_option maxHeartbeats 4000000 in
set_option maxRecDepth 20000 in
theorem c_L_claims {l : Launch} (hl0 : l.stackTraces = false) : CT l yL_claims (.code yL_claims cL_claims 4 (some .boolean)) 6 100 600 false sp_L_claims := by
  refine zCT_of hl0 (own := RL) fl_RL cs_L_claims nw_L_claims th_L_claims kc_L_claims (fun _ => []) false pg_L_claims rfl (by decide +kernel) hp_L_claims ⟨_, _, rfl, rfl⟩ hfl_RL (fun h => nomatch h) (hcs_L_claims hl0) hnw_L_claims hth_L_claims (fun _ _ h => absurd h List.not_mem_nil) hkc_L_claims (fun args w Q X v0 hv0 h => ?_)
  obtain ⟨B, α, ν, hv, rfl, rfl, hQ⟩ := h
  have hc := zIv_le hv
  refine ⟨Nat.le_of_ble_eq_true rfl, 60, [(9, fun m L S w' cu su => ∃ i, zsub [(0, .ref 0), (1, .int (nI 1)), (2, .int (nI (zc ν))), (3, .int (nI i))] L ∧ S = [] ∧ w' = WX α ν [] ∧ i ≤ zc ν ∧ m = 40 - i ∧ cu ≤ 2 * i ∧ su ≤ 12 * i)], ?_, zone ?_⟩
  · (conv => whnf)
    refine zmcI (k_claims hv ?_)
    (conv => whnf)
    exact ⟨40, 0, ⟨rfl, rfl, rfl, rfl, trivial⟩, rfl, rfl, Nat.zero_le _, rfl, by decide, by decide⟩
  · rintro m L S w' cu su ⟨i, hL, rfl, rfl, hi, rfl, hcu, hsu⟩
    refine ⟨_, hL, ?_⟩
    (conv => whnf)
    refine And.intro (fun c => ?_) (fun c => ?_)
    · have hlt : i < zc ν := (nI_ltI (by omega) (by omega)).mp c
      (conv => whnf)
      refine And.intro (fun c => absurd c (show ¬ _ from (by decide))) (fun _ => ?_)
      (conv => whnf)
      rw [zbl (show cu + 1 ≤ 100 by omega)]
      (conv => whnf)
      rw [zbl (show su + 6 ≤ 600 by omega)]
      (conv => whnf)
      refine zmcI (k_holds hv hlt ⟨fun q => ?_, fun q => ?_⟩)
      · have hr : ν 0 < α 10 i := by
          rcases zHx_or α ν (α 3 (α 9 i).toNatClampNeg) with e | ⟨j, hj, e, h1, -⟩
          · exact absurd (q.symm.trans e) (nI_ne_m1 (by omega))
          · have : j = i := nI_inj (by omega) (by omega) (e.symm.trans q)
            rw [← this]
            exact h1
        (conv => whnf)
        refine And.intro (fun c => absurd c (show ¬ _ from (by decide))) (fun _ => ?_)
        (conv => whnf)
        rw [zbl (show cu + 1 + 1 ≤ 100 by omega)]
        (conv => whnf)
        rw [zbl (show su + 6 + 6 ≤ 600 by omega)]
        (conv => whnf)
        refine zmcI (k_runs hv hlt ⟨fun _ => ?_, fun g => absurd hr g⟩)
        (conv => whnf)
        refine And.intro (fun c => absurd c (show ¬ _ from (by decide))) (fun _ => ?_)
        (conv => whnf)
        exact ⟨40 - (i + 1), by omega, i + 1, ⟨rfl, rfl, rfl, zi1 rfl, trivial⟩, rfl, rfl, by omega, rfl, by omega, by omega⟩
      · (conv => whnf)
        refine And.intro (fun _ => ?_) (fun c => absurd (show _ from rfl) c)
        (conv => whnf)
        exact ⟨40 - (i + 1), by omega, i + 1, ⟨rfl, rfl, rfl, zi1 rfl, trivial⟩, rfl, rfl, by omega, rfl, by omega, by omega⟩
    · have hge : i = zc ν := by
        have : ¬ i < zc ν := fun h => c (nI_lt h (by omega))
        omega
      (conv => whnf)
      rw [zbl (show cu ≤ 100 by omega)]
      (conv => whnf)
      rw [zbl (show su ≤ 600 by omega)]
      (conv => whnf)
      exact ⟨Or.inr rfl, hQ⟩
section ZTT
variable {α α1 : Nat → Nat → Int32} {ν ν1 : Nat → Int32} {B k s p : Nat} {Q : Option Value → zW → Prop} {X : String → zW → Prop}
theorem k_ttl (hS : zSame α ν α1 ν1) (hv : zIv B α1 ν1) (hk : k < 96) (hs : s < 96) (es : α 3 k = nI s) (hp : p < 100) (h2 : ∀ α' ν', zSame α ν α' ν' → zIv B α' ν' → Q (some (.int (zTv α ν s (nI p)))) (WX α' ν' [])) : sp_X4_titleAt [.ref 0, .int (nI k), .int (nI p)] (WX α1 ν1 []) Q X := by
  have e1 : α1 3 k = nI s := by rw [hS.1.2.2.2]; exact es
  refine k_titleAt hv hk hp (fun e => absurd (e1.symm.trans e) (nI_ne_m1 (by omega))) (fun s' α' ν' hs' es' h3 h4 => ?_)
  have e2 : s = s' := nI_inj (by omega) (by omega) (e1.symm.trans es')
  subst e2
  rw [zSame_Tv hS]
  exact h2 α' ν' (zSame_t hS h3) h4
end ZTT
def sp_L_cells : zSpec := fun args w Q _ => ∃ B α ν k, zIv B α ν ∧ B ≤ 900000 ∧ k < 96 ∧ args = [.ref 0, .int (nI k)] ∧ w = WX α ν [] ∧ ∀ α' ν', zSame α ν α' ν' → zIv (B + 1) α' ν' → Q (some (.int (nI 1))) (WX α' ν' [])
def pg_L_cells : List zE := [(0, .aload_n 0, 1, []), (1, .iload_n 1, 1, []), (2, .invokevirtual 31, 3, []), (5, .istore_n 2, 1, []), (6, .aload_n 0, 1, []), (7, .iload_n 1, 1, []), (8, .invokevirtual 34, 3, []), (11, .istore_n 3, 1, []), (12, .iload_n 2, 1, []), (13, .iconst (-1), 1, []), (14, .if_icmp .ne 48, 3, [62]), (17, .aload_n 0, 1, []), (18, .iload_n 1, 1, []), (19, .invokevirtual 37, 3, []), (22, .ifCond .ne 38, 3, [60]), (25, .aload_n 0, 1, []), (26, .iload_n 1, 1, []), (27, .invokevirtual 40, 3, []), (30, .ifCond .ne 30, 3, [60]), (33, .aload_n 0, 1, []), (34, .iload_n 1, 1, []), (35, .invokevirtual 43, 3, []), (38, .ifCond .ne 22, 3, [60]), (41, .iload_n 3, 1, []), (42, .iconst (-1), 1, []), (43, .if_icmp .ne 17, 3, [60]), (46, .aload_n 0, 1, []), (47, .iload_n 1, 1, []), (48, .iconst 0, 1, [0]), (49, .invokevirtual 46, 3, []), (52, .iconst (-1), 1, []), (53, .if_icmp .ne 7, 3, [60]), (56, .iconst 1, 1, [1]), (57, .goto 4, 3, [61]), (60, .iconst 0, 1, [0]), (61, .ireturn, 1, []), (62, .iload_n 2, 1, []), (63, .iload_n 1, 1, []), (64, .if_icmp .gt 50, 3, [114]), (67, .aload_n 0, 1, []), (68, .iload_n 2, 1, []), (69, .invokevirtual 31, 3, []), (72, .iload_n 2, 1, []), (73, .if_icmp .ne 41, 3, [114]), (76, .aload_n 0, 1, []), (77, .iload_n 1, 1, []), (78, .invokevirtual 37, 3, []), (81, .aload_n 0, 1, []), (82, .iload_n 2, 1, []), (83, .invokevirtual 37, 3, []), (86, .if_icmp .ne 28, 3, [114]), (89, .aload_n 0, 1, []), (90, .iload_n 1, 1, []), (91, .invokevirtual 40, 3, []), (94, .aload_n 0, 1, []), (95, .iload_n 2, 1, []), (96, .invokevirtual 40, 3, []), (99, .if_icmp .ne 15, 3, [114]), (102, .aload_n 0, 1, []), (103, .iload_n 1, 1, []), (104, .invokevirtual 40, 3, []), (107, .ifCond .le 7, 3, [114]), (110, .iconst 1, 1, [1]), (111, .goto 4, 3, [115]), (114, .iconst 0, 1, [0]), (115, .istore 4, 2, []), (117, .iload 4, 2, []), (119, .ifCond .eq 52, 3, [171]), (122, .aload_n 0, 1, []), (123, .iload_n 1, 1, []), (124, .invokevirtual 43, 3, []), (127, .aload_n 0, 1, []), (128, .iload_n 2, 1, []), (129, .invokevirtual 43, 3, []), (132, .if_icmp .ne 39, 3, [171]), (135, .iload_n 3, 1, []), (136, .aload_n 0, 1, []), (137, .iload_n 2, 1, []), (138, .invokevirtual 34, 3, []), (141, .if_icmp .ne 30, 3, [171]), (144, .iload_n 3, 1, []), (145, .aload_n 0, 1, []), (146, .iload_n 1, 1, []), (147, .invokevirtual 49, 3, []), (150, .if_icmp .ne 21, 3, [171]), (153, .aload_n 0, 1, []), (154, .iload_n 1, 1, []), (155, .invokevirtual 43, 3, []), (158, .iconst 1, 1, [1]), (159, .if_icmp .ne 8, 3, [167]), (162, .iload_n 3, 1, []), (163, .iconst (-1), 1, []), (164, .if_icmp .ne 7, 3, [171]), (167, .iconst 1, 1, [1]), (168, .goto 4, 3, [172]), (171, .iconst 0, 1, [0]), (172, .istore 4, 2, []), (174, .iload 4, 2, []), (176, .ifCond .eq 48, 3, [224]), (179, .aload_n 0, 1, []), (180, .iload_n 1, 1, []), (181, .iconst 0, 1, [0]), (182, .invokevirtual 46, 3, []), (185, .aload_n 0, 1, []), (186, .iload_n 2, 1, []), (187, .iconst 0, 1, [0]), (188, .invokevirtual 46, 3, []), (191, .if_icmp .ne 33, 3, [224]), (194, .aload_n 0, 1, []), (195, .iload_n 1, 1, []), (196, .iconst 3, 1, [3]), (197, .invokevirtual 46, 3, []), (200, .aload_n 0, 1, []), (201, .iload_n 2, 1, []), (202, .iconst 3, 1, [3]), (203, .invokevirtual 46, 3, []), (206, .if_icmp .ne 18, 3, [224]), (209, .aload_n 0, 1, []), (210, .iload_n 1, 1, []), (211, .bipush 12, 2, [12]), (213, .invokevirtual 46, 3, []), (216, .iconst (-1), 1, []), (217, .if_icmp .ne 7, 3, [224]), (220, .iconst 1, 1, [1]), (221, .goto 4, 3, [225]), (224, .iconst 0, 1, [0]), (225, .ireturn, 1, [])]
theorem hp_L_cells : ∀ q ∈ pg_L_cells, decode cL_cells q.1 = .ok (q.2.1, q.2.2.1) ∧ ztg q.2.1 q.1 q.2.2.1 q.2.2.2 = true := zpg_of (by decide +kernel)
def cs_L_cells : List (Nat × zCall) := [(31, 0, 2, some 5, 1, 6, false, zMc sp_X4_shapeOf), (34, 0, 2, some 5, 1, 6, false, zMc sp_X4_finder), (37, 0, 2, some 5, 1, 6, false, zMc sp_X4_size), (40, 0, 2, some 5, 1, 6, false, zMc sp_X4_top), (43, 0, 2, some 5, 1, 6, false, zMc sp_X4_nameOf), (46, 0, 3, some 5, 2, 12, false, zMc sp_X4_titleAt), (49, 0, 2, some 5, 1, 6, false, zMc sp_X4_finderBySoundings)]
theorem hcs_L_cells {l : Launch} (hl0 : l.stackTraces = false) : ∀ q ∈ cs_L_cells, zCallable l RL 8 q := List.forall_mem_cons.mpr ⟨zcV (C := (RX4, TX4, 6)) (ps := [326, 327, 328, 14, 329]) (CT_mono (c_X4_shapeOf hl0)) (by decide +kernel) rfl ⟨rfl, by decide +kernel, by decide +kernel, by decide +kernel⟩ (by decide) (by decide), List.forall_mem_cons.mpr ⟨zcV (C := (RX4, TX4, 6)) (ps := [412, 413, 414, 14, 415]) (CT_mono (c_X4_finder hl0)) (by decide +kernel) rfl ⟨rfl, by decide +kernel, by decide +kernel, by decide +kernel⟩ (by decide) (by decide), List.forall_mem_cons.mpr ⟨zcV (C := (RX4, TX4, 6)) (ps := [618, 619, 620, 14, 621]) (CT_mono (c_X4_size hl0)) (by decide +kernel) rfl ⟨rfl, by decide +kernel, by decide +kernel, by decide +kernel⟩ (by decide) (by decide), List.forall_mem_cons.mpr ⟨zcV (C := (RX4, TX4, 6)) (ps := [626, 627, 628, 14, 629]) (CT_mono (c_X4_top hl0)) (by decide +kernel) rfl ⟨rfl, by decide +kernel, by decide +kernel, by decide +kernel⟩ (by decide) (by decide), List.forall_mem_cons.mpr ⟨zcV (C := (RX4, TX4, 6)) (ps := [334, 335, 336, 14, 337]) (CT_mono (c_X4_nameOf hl0)) (by decide +kernel) rfl ⟨rfl, by decide +kernel, by decide +kernel, by decide +kernel⟩ (by decide) (by decide), List.forall_mem_cons.mpr ⟨zcV (C := (RX4, TX4, 6)) (ps := [635, 636, 637, 14, 638]) (CT_mono (c_X4_titleAt hl0)) (by decide +kernel) rfl ⟨rfl, by decide +kernel, by decide +kernel, by decide +kernel⟩ (by decide) (by decide), List.forall_mem_cons.mpr ⟨zcV (C := (RX4, TX4, 6)) (ps := [813, 814, 815, 14, 816]) (CT_mono (c_X4_finderBySoundings hl0)) (by decide +kernel) rfl ⟨rfl, by decide +kernel, by decide +kernel, by decide +kernel⟩ (by decide) (by decide), fun _ h => absurd h List.not_mem_nil⟩⟩⟩⟩⟩⟩⟩
def th_L_cells : List (Nat × String) := []
theorem hth_L_cells : ∀ q ∈ th_L_cells, zThrow cL_cells RL q := fun _ h => absurd h List.not_mem_nil
def kc_L_cells : List (Nat × Int32) := []
theorem hkc_L_cells : ∀ q ∈ kc_L_cells, Cond.constant RL q.1 q.2 ∈ zTs := fun _ h => absurd h List.not_mem_nil
def nw_L_cells : List (Nat × Nat × Nat × List Value) := []
theorem hnw_L_cells : ∀ q ∈ nw_L_cells, zNew RL q := fun _ h => absurd h List.not_mem_nil
set_option maxHeartbeats 4000000 in
set_option maxRecDepth 20000 in
theorem c_L_cells {l : Launch} (hl0 : l.stackTraces = false) : CT l yL_cells (.code yL_cells cL_cells 5 (some .boolean)) 8 28 168 false sp_L_cells := by
  refine zCT_of hl0 (own := RL) fl_RL cs_L_cells nw_L_cells th_L_cells kc_L_cells (fun _ => []) false pg_L_cells rfl (by decide +kernel) hp_L_cells ⟨_, _, rfl, rfl⟩ hfl_RL (fun h => nomatch h) (hcs_L_cells hl0) hnw_L_cells hth_L_cells (fun _ _ h => absurd h List.not_mem_nil) hkc_L_cells (fun args w Q X v0 hv0 h => ?_)
  obtain ⟨B, α, ν, k, hv, hB, hk, rfl, rfl, hQ⟩ := h
  refine ⟨Nat.le_of_ble_eq_true rfl, 200, [(167, fun m L S w' cu su => ∃ s α1 ν1, zsub [(0, .ref 0), (1, .int (nI k)), (2, .int (nI s))] L ∧ S = [] ∧ w' = WX α1 ν1 [] ∧ s < 96 ∧ α 3 k = nI s ∧ α 3 s = nI s ∧ zSame α ν α1 ν1 ∧ zIv (B + 1) α1 ν1 ∧ m = 0 ∧ cu = 13 ∧ su = 78)], ?_, zone ?_⟩
  · (conv => whnf)
    refine zmcI (k_shapeOf hk ?_)
    rcases zLow_v hv.1.1 hk with es | ⟨s, hs, es⟩
    · rw [es]
      (conv => whnf)
      refine zmcI (k_finder hv hk ?_)
      rw [es, zFn_bad (Or.inl rfl)]
      (conv => whnf)
      refine And.intro (fun _ => ?_) (fun c => absurd (show _ from rfl) c)
      (conv => whnf)
      refine zmcI (k_size hk ?_)
      rw [es, zcnt_m1]
      (conv => whnf)
      refine And.intro (fun _ => ?_) (fun c => absurd (show _ from rfl) c)
      (conv => whnf)
      refine zmcI (k_top hk ?_)
      rw [es, zmx_m1]
      (conv => whnf)
      refine And.intro (fun _ => ?_) (fun c => absurd (show _ from rfl) c)
      (conv => whnf)
      refine zmcI (k_nameOf hk ?_)
      rw [es, show zNm α (-1) = 0 from congrArg Prod.snd (znm_m1 (α 3) (α 2) (α 1) 96)]
      (conv => whnf)
      refine And.intro (fun _ => ?_) (fun c => absurd (show _ from rfl) c)
      (conv => whnf)
      refine And.intro (fun _ => ?_) (fun c => absurd (show _ from rfl) c)
      (conv => whnf)
      refine zmcI (k_titleAt (p := 0) hv hk (by decide) (fun _ => ?_) (fun s' α' ν' hs' e' _ _ => absurd (e'.symm.trans es) (nI_ne_m1 (by omega))))
      (conv => whnf)
      refine And.intro (fun _ => ?_) (fun c => absurd (show _ from rfl) c)
      (conv => whnf)
      exact ⟨Or.inr rfl, hQ α ν (zSame_r α ν) (zIv_mono hv (by omega))⟩
    · obtain ⟨hsk, ess, h0⟩ := zLow_rep hv.1.1 hk hs es
      have htop : (0 : Int32) < zmx (α 3) (α 0) (nI s) 96 := by
        have h1 := zmx_ge (h := α 0) (nI_ne_m1 (show s < 2 ^ 31 by omega)) es 96 hk
        obtain ⟨h, hh, eh⟩ := hv.1.2 k hk
        have h2 : (0 : Int32) < α 0 k := by
          rw [eh]
          refine nI_lt (a := 0) ?_ (by omega)
          apply Classical.byContradiction
          intro q
          have : h = 0 := by omega
          rw [this] at eh
          exact h0 eh
        exact i32_trans h2 h1
      rw [es]
      (conv => whnf)
      refine zmcI (k_finder hv hk ?_)
      rw [es]
      (conv => whnf)
      refine And.intro (fun c => absurd c (show ¬ _ from (nI_ne_m1 (show s < 2 ^ 31 by omega)))) (fun _ => ?_)
      (conv => whnf)
      refine And.intro (fun c => absurd c (show ¬ _ from (nI_nlt hsk (by omega)))) (fun _ => ?_)
      (conv => whnf)
      refine zmcI (k_shapeOf hs ?_)
      rw [ess]
      (conv => whnf)
      refine And.intro (fun _ => ?_) (fun c => absurd (show _ from rfl) c)
      (conv => whnf)
      refine zmcI (k_size hk ?_)
      rw [es]
      (conv => whnf)
      refine zmcI (k_size hs ?_)
      rw [ess]
      (conv => whnf)
      refine And.intro (fun _ => ?_) (fun c => absurd (show _ from rfl) c)
      (conv => whnf)
      refine zmcI (k_top hk ?_)
      rw [es]
      (conv => whnf)
      refine zmcI (k_top hs ?_)
      rw [ess]
      (conv => whnf)
      refine And.intro (fun _ => ?_) (fun c => absurd (show _ from rfl) c)
      (conv => whnf)
      refine zmcI (k_top hk ?_)
      rw [es]
      (conv => whnf)
      refine And.intro (fun _ => ?_) (fun c => absurd (show _ from htop) c)
      (conv => whnf)
      refine And.intro (fun c => absurd c (show ¬ _ from (by decide))) (fun _ => ?_)
      (conv => whnf)
      refine zmcI (k_nameOf hk ?_)
      rw [es]
      (conv => whnf)
      refine zmcI (k_nameOf hs ?_)
      rw [ess]
      (conv => whnf)
      refine And.intro (fun _ => ?_) (fun c => absurd (show _ from rfl) c)
      (conv => whnf)
      refine zmcI (k_finder hv hs ?_)
      rw [ess]
      (conv => whnf)
      refine And.intro (fun _ => ?_) (fun c => absurd (show _ from rfl) c)
      (conv => whnf)
      refine zmcI (k_fbs hv hB hk (fun α1 ν1 hs1 hv1 => ?_))
      rw [es]
      (conv => whnf)
      refine And.intro (fun _ => ?_) (fun c => absurd (show _ from rfl) c)
      (conv => whnf)
      refine zmcI (k_nameOf hk ?_)
      rw [hs1.1.2.2.2, es, zSame_Nm hs1]
      (conv => whnf)
      refine And.intro (fun c => ?_) (fun c => ?_)
      · have ef : zFn α ν (nI s) = -1 := zFn_bad (Or.inr c)
        (conv => whnf)
        refine And.intro (fun _ => ?_) (fun c => absurd (show _ from ef) c)
        (conv => whnf)
        exact ⟨0, s, α1, ν1, ⟨rfl, rfl, rfl, trivial⟩, rfl, rfl, hs, rfl, ess, hs1, hv1, rfl, rfl, rfl⟩
      · (conv => whnf)
        exact ⟨0, s, α1, ν1, ⟨rfl, rfl, rfl, trivial⟩, rfl, rfl, hs, rfl, ess, hs1, hv1, rfl, rfl, rfl⟩
  · rintro m L S w' cu su ⟨s, α1, ν1, hL, rfl, rfl, hs, es, ess, hs1, hv1, rfl, rfl, rfl⟩
    refine ⟨_, hL, ?_⟩
    (conv => whnf)
    refine And.intro (fun c => absurd c (show ¬ _ from (by decide))) (fun _ => ?_)
    (conv => whnf)
    refine zmcI (k_ttl (p := 0) hs1 hv1 hk hs es (by decide) (fun α2 ν2 hs2 hv2 => ?_))
    (conv => whnf)
    refine zmcI (k_ttl (p := 0) hs2 hv2 hs hs ess (by decide) (fun α3 ν3 hs3 hv3 => ?_))
    (conv => whnf)
    refine And.intro (fun _ => ?_) (fun c => absurd (show _ from rfl) c)
    (conv => whnf)
    refine zmcI (k_ttl (p := 3) hs3 hv3 hk hs es (by decide) (fun α4 ν4 hs4 hv4 => ?_))
    (conv => whnf)
    refine zmcI (k_ttl (p := 3) hs4 hv4 hs hs ess (by decide) (fun α5 ν5 hs5 hv5 => ?_))
    (conv => whnf)
    refine And.intro (fun _ => ?_) (fun c => absurd (show _ from rfl) c)
    (conv => whnf)
    refine zmcI (k_ttl (p := 12) hs5 hv5 hk hs es (by decide) (fun α6 ν6 hs6 hv6 => ?_))
    rw [← zSame_Tv hs6, zTv_12 hv6]
    (conv => whnf)
    refine And.intro (fun _ => ?_) (fun c => absurd (show _ from rfl) c)
    (conv => whnf)
    exact ⟨Or.inr rfl, hQ α6 ν6 hs6 hv6⟩
