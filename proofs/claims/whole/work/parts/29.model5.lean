/-! ===== EchoRegistryModel: raise; its constructor ===== -/
def sp_X5_raise : zSpec := fun args w Q _ => ∃ α ν β μ r c n x y m v, zCm β μ c ∧ (∀ j, j < c → ∃ f, f < 6 ∧ β 8 j = nI f) ∧ n ≤ 60 ∧ μ 4 = nI n ∧ args = [.ref 21, .int x, .int y, .int m, .int v] ∧ w = W2 α ν β μ r ∧ (¬ vp_in x 4 ∨ ¬ vp_in y 96 → Q (some (.int (nI 0))) (W2 α ν β (zTh μ 1) r)) ∧
  ∀ d k, d < 4 → k < 96 → x = nI d → y = nI k → ((m < nI 10 ∨ nI 60 < m) ∨ (v < nI 1 ∨ nI 100000 < v) → Q (some (.int (nI 0))) (W2 α ν β (zTh μ 2) r)) ∧
    ∀ j u, j ≤ 60 → m = nI j → u ≤ 100000 → v = nI u → ¬ m < nI 10 → ¬ nI 60 < m → ¬ v < nI 1 → ¬ nI 100000 < v → (¬ zDm β μ d k j ∨ zBad β (β 3 k) ∨ n = 60 → Q (some (.int (nI 0))) (W2 α ν β (zTh (zTh μ 0) 3) r)) ∧ (zDm β μ d k j → ¬ zBad β (β 3 k) → n < 60 → ∀ z, zHM β μ c (β 3 k) z →
      (z = -1 → Q (some (.int (nI n))) (W2 α ν (zu (zu (zu (zu β 6 (upd (β 6) d (β 6 d - nI (j * zau k)))) 7 (upd (β 7) d (μ 0 + nI j + nI (j * (10 * (k / 12 + 1)) / 20)))) 11 (upd (β 11) n (β 3 k))) 12 (upd (β 12) n (-1))) (zu (zu (zTh (zTh μ 0) 0) 4 (nI (n + 1))) 5 (μ 5 + nI u)) r)) ∧
      (∀ i f, i < c → z = nI i → f < 6 → β 8 i = nI f → Q (some (.int (nI n))) (W2 α ν (zu (zu (zu (zu (zu β 6 (upd (β 6) d (β 6 d - nI (j * zau k)))) 7 (upd (β 7) d (μ 0 + nI j + nI (j * (10 * (k / 12 + 1)) / 20)))) 11 (upd (β 11) n (β 3 k))) 12 (upd (β 12) n (nI f))) 13 (upd (β 13) f (β 13 f + (nI u - nI (zlp u (zNm β (β 3 k))))))) (zu (zu (zTh (zTh μ 0) 0) 4 (nI (n + 1))) 5 (μ 5 + nI (zlp u (zNm β (β 3 k))))) r)))
def pg_X5_raise : List zE := [(0, .aload_n 0, 1, []), (1, .iload_n 1, 1, []), (2, .invokestatic 104, 3, []), (5, .ifCond .eq 10, 3, [15]), (8, .iload_n 2, 1, []), (9, .invokestatic 67, 3, []), (12, .ifCond .ne 7, 3, [19]), (15, .iconst 1, 1, [1]), (16, .goto 30, 3, [46]), (19, .iload_n 3, 1, []), (20, .bipush 10, 2, [10]), (22, .bipush 60, 2, [60]), (24, .invokestatic 59, 3, []), (27, .ifCond .eq 14, 3, [41]), (30, .iload 4, 2, []), (32, .iconst 1, 1, [1]), (33, .ldc 117, 2, []), (35, .invokestatic 59, 3, []), (38, .ifCond .ne 7, 3, [45]), (41, .iconst 2, 1, [2]), (42, .goto 4, 3, [46]), (45, .iconst 0, 1, [0]), (46, .putfield 55, 3, []), (49, .aload_n 0, 1, []), (50, .getfield 55, 3, []), (53, .ifCond .le 5, 3, [58]), (56, .iconst 0, 1, [0]), (57, .ireturn, 1, []), (58, .aload_n 0, 1, []), (59, .aload_n 0, 1, []), (60, .getfield 19, 3, []), (63, .iload_n 2, 1, []), (64, .iaload, 1, []), (65, .invokevirtual 82, 3, []), (68, .istore 5, 2, []), (70, .aload_n 0, 1, []), (71, .aload_n 0, 1, []), (72, .iload_n 1, 1, []), (73, .iload_n 2, 1, []), (74, .iload_n 3, 1, []), (75, .invokevirtual 107, 3, []), (78, .ifCond .eq 28, 3, [106]), (81, .aload_n 0, 1, []), (82, .getfield 19, 3, []), (85, .iload_n 2, 1, []), (86, .iaload, 1, []), (87, .iconst (-1), 1, []), (88, .if_icmp .eq 18, 3, [106]), (91, .iload 5, 2, []), (93, .iconst 1, 1, [1]), (94, .if_icmp .eq 12, 3, [106]), (97, .aload_n 0, 1, []), (98, .getfield 118, 3, []), (101, .bipush 60, 2, [60]), (103, .if_icmp .ne 7, 3, [110]), (106, .iconst 3, 1, [3]), (107, .goto 4, 3, [111]), (110, .iconst 0, 1, [0]), (111, .putfield 55, 3, []), (114, .aload_n 0, 1, []), (115, .getfield 55, 3, []), (118, .ifCond .le 5, 3, [123]), (121, .iconst 0, 1, [0]), (122, .ireturn, 1, []), (123, .aload_n 0, 1, []), (124, .iload_n 1, 1, []), (125, .iload_n 2, 1, []), (126, .iload_n 3, 1, []), (127, .invokevirtual 110, 3, []), (130, .aload_n 0, 1, []), (131, .aload_n 0, 1, []), (132, .getfield 19, 3, []), (135, .iload_n 2, 1, []), (136, .iaload, 1, []), (137, .invokevirtual 95, 3, []), (140, .istore 6, 2, []), (142, .iload 5, 2, []), (144, .iconst 2, 1, [2]), (145, .if_icmp .ne 7, 3, [152]), (148, .iconst 2, 1, [2]), (149, .goto 15, 3, [164]), (152, .iload 5, 2, []), (154, .iconst 3, 1, [3]), (155, .if_icmp .ne 8, 3, [163]), (158, .bipush 10, 2, [10]), (160, .goto 4, 3, [164]), (163, .iconst 4, 1, [4]), (164, .istore 7, 2, []), (166, .iload 6, 2, []), (168, .iconst (-1), 1, []), (169, .if_icmp .ne 8, 3, [177]), (172, .iload 4, 2, []), (174, .goto 13, 3, [187]), (177, .iload 4, 2, []), (179, .iload 7, 2, []), (181, .iadd, 1, []), (182, .iconst 1, 1, [1]), (183, .isub, 1, []), (184, .iload 7, 2, []), (186, .idiv, 1, []), (187, .istore 8, 2, []), (189, .aload_n 0, 1, []), (190, .getfield 40, 3, []), (193, .aload_n 0, 1, []), (194, .getfield 118, 3, []), (197, .aload_n 0, 1, []), (198, .getfield 19, 3, []), (201, .iload_n 2, 1, []), (202, .iaload, 1, []), (203, .iastore, 1, []), (204, .aload_n 0, 1, []), (205, .getfield 43, 3, []), (208, .aload_n 0, 1, []), (209, .getfield 118, 3, []), (212, .iload 6, 2, []), (214, .iconst (-1), 1, []), (215, .if_icmp .ne 7, 3, [222]), (218, .iconst (-1), 1, []), (219, .goto 10, 3, [229]), (222, .aload_n 0, 1, []), (223, .getfield 31, 3, []), (226, .iload 6, 2, []), (228, .iaload, 1, []), (229, .iastore, 1, []), (230, .aload_n 0, 1, []), (231, .dup, 1, []), (232, .getfield 118, 3, []), (235, .iconst 1, 1, [1]), (236, .iadd, 1, []), (237, .putfield 118, 3, []), (240, .aload_n 0, 1, []), (241, .dup, 1, []), (242, .getfield 121, 3, []), (245, .iload 8, 2, []), (247, .iadd, 1, []), (248, .putfield 121, 3, []), (251, .iload 6, 2, []), (253, .iconst (-1), 1, []), (254, .if_icmp .eq 23, 3, [277]), (257, .aload_n 0, 1, []), (258, .getfield 46, 3, []), (261, .aload_n 0, 1, []), (262, .getfield 31, 3, []), (265, .iload 6, 2, []), (267, .iaload, 1, []), (268, .dup2, 1, []), (269, .iaload, 1, []), (270, .iload 4, 2, []), (272, .iload 8, 2, []), (274, .isub, 1, []), (275, .iadd, 1, []), (276, .iastore, 1, []), (277, .aload_n 0, 1, []), (278, .getfield 118, 3, []), (281, .iconst 1, 1, [1]), (282, .isub, 1, []), (283, .ireturn, 1, [])]
theorem hp_X5_raise : ∀ q ∈ pg_X5_raise, decode cX5_raise q.1 = .ok (q.2.1, q.2.2.1) ∧ ztg q.2.1 q.1 q.2.2.1 q.2.2.2 = true := zpg_of (by decide +kernel)
def cs_X5_raise : List (Nat × zCall) := [(104, 1, 1, none, 0, 0, false, sp_X5_isDiver), (67, 1, 1, none, 0, 0, false, sp_X5_isCell), (59, 1, 3, none, 0, 0, false, sp_X5_in), (82, 0, 2, some 6, 0, 0, false, sp_X5_nameFor), (107, 0, 4, some 6, 0, 0, false, sp_X5_canDive), (110, 0, 4, some 6, 0, 0, false, sp_X5_dives), (95, 0, 2, some 6, 0, 0, false, sp_X5_holder)]
theorem hcs_X5_raise {l : Launch} (hl0 : l.stackTraces = false) : ∀ q ∈ cs_X5_raise, zCallable l RX5 3 q := List.forall_mem_cons.mpr ⟨zcS (ps := [1204, 1205, 38, 1206]) (c_X5_isDiver hl0) (by decide +kernel) ⟨by decide +kernel, by decide +kernel, by decide +kernel⟩ (by decide) (by decide), List.forall_mem_cons.mpr ⟨zcS (ps := [1134, 1135, 38, 1136]) (c_X5_isCell hl0) (by decide +kernel) ⟨by decide +kernel, by decide +kernel, by decide +kernel⟩ (by decide) (by decide), List.forall_mem_cons.mpr ⟨zcS (ps := [1137, 1138, 38, 1139]) (c_X5_in hl0) (by decide +kernel) ⟨by decide +kernel, by decide +kernel, by decide +kernel⟩ (by decide) (by decide), List.forall_mem_cons.mpr ⟨zcV (C := (RX5, TX5, 21)) (ps := [1176, 1178, 18, 38, 1179]) (c_X5_nameFor hl0) (by decide +kernel) rfl ⟨rfl, by decide +kernel, by decide +kernel, by decide +kernel⟩ (by decide) (by decide), List.forall_mem_cons.mpr ⟨zcV (C := (RX5, TX5, 21)) (ps := [1207, 1209, 23, 38, 1210]) (c_X5_canDive hl0) (by decide +kernel) rfl ⟨rfl, by decide +kernel, by decide +kernel, by decide +kernel⟩ (by decide) (by decide), List.forall_mem_cons.mpr ⟨zcV (C := (RX5, TX5, 21)) (ps := [1214, 1216, 24, 38, 1217]) (c_X5_dives hl0) (by decide +kernel) rfl ⟨rfl, by decide +kernel, by decide +kernel, by decide +kernel⟩ (by decide) (by decide), List.forall_mem_cons.mpr ⟨zcV (C := (RX5, TX5, 21)) (ps := [1192, 1194, 21, 38, 1195]) (c_X5_holder hl0) (by decide +kernel) rfl ⟨rfl, by decide +kernel, by decide +kernel, by decide +kernel⟩ (by decide) (by decide), fun _ h => absurd h List.not_mem_nil⟩⟩⟩⟩⟩⟩⟩
def th_X5_raise : List (Nat × String) := []
theorem hth_X5_raise : ∀ q ∈ th_X5_raise, zThrow cX5_raise RX5 q := fun _ h => absurd h List.not_mem_nil
def kc_X5_raise : List (Nat × Int32) := [(117, 100000)]
theorem hkc_X5_raise : ∀ q ∈ kc_X5_raise, Cond.constant RX5 q.1 q.2 ∈ zTs := List.forall_mem_cons.mpr ⟨zmem (i := 1222) (by decide +kernel) rfl, fun _ h => absurd h List.not_mem_nil⟩
def nw_X5_raise : List (Nat × Nat × Nat × List Value) := []
theorem hnw_X5_raise : ∀ q ∈ nw_X5_raise, zNew RX5 q := fun _ h => absurd h List.not_mem_nil
set_option maxHeartbeats 4000000 in
set_option maxRecDepth 20000 in
theorem c_X5_raise {l : Launch} (hl0 : l.stackTraces = false) : CT l yX5_raise (.code yX5_raise cX5_raise 9 (some .int)) 3 0 0 false sp_X5_raise := by
  refine zCT_of hl0 (own := RX5) fl_RX5 cs_X5_raise nw_X5_raise th_X5_raise kc_X5_raise (fun _ => []) false pg_X5_raise rfl (by decide +kernel) hp_X5_raise ⟨_, _, rfl, rfl⟩ hfl_RX5 (fun h => nomatch h) (hcs_X5_raise hl0) hnw_X5_raise hth_X5_raise (fun _ _ h => absurd h List.not_mem_nil) hkc_X5_raise (fun args w Q X v0 hv0 h => ?_)
  obtain ⟨α, ν, β, μ, r, c, n, x, y, m, v, hc, hf8, hn, hμ4, rfl, rfl, h1, h2⟩ := h
  refine ⟨Nat.le_of_ble_eq_true rfl, 120, [(166, fun ms L S w' cu su => ∃ d k j u p z, zsub [(0, .ref 21), (2, .int (nI k)), (4, .int (nI u)), (6, .int z), (7, .int (nI p))] L ∧ S = [] ∧ w' = W2 α ν (zu (zu β 6 (upd (β 6) d (β 6 d - nI (j * zau k)))) 7 (upd (β 7) d (μ 0 + nI j + nI (j * (10 * (k / 12 + 1)) / 20)))) (zTh (zTh μ 0) 0) r ∧ d < 4 ∧ k < 96 ∧ x = nI d ∧ y = nI k ∧ j ≤ 60 ∧ m = nI j ∧ u ≤ 100000 ∧ v = nI u ∧ ¬ m < nI 10 ∧ ¬ nI 60 < m ∧ ¬ v < nI 1 ∧ ¬ nI 100000 < v ∧ zDm β μ d k j ∧ ¬ zBad β (β 3 k) ∧ n < 60 ∧ zHM β μ c (β 3 k) z ∧ 0 < p ∧ p ≤ 10 ∧ (u + p - 1) / p = zlp u (zNm β (β 3 k)) ∧ ms = 0 ∧ cu = 0 ∧ su = 0)], ?_, zone ?_⟩
  · (conv => whnf)
    refine ⟨_, rfl, fun q => ?_, fun q => ?_⟩
    · obtain ⟨d, hd, rfl⟩ := vp_in_of q (by decide)
      (conv => whnf)
      refine And.intro (fun c => absurd c (show ¬ _ from (by decide))) (fun _ => ?_)
      (conv => whnf)
      refine ⟨_, rfl, fun q => ?_, fun q => ?_⟩
      · obtain ⟨k, hk, rfl⟩ := vp_in_of q (by decide)
        obtain ⟨h3, h4⟩ := h2 d k hd hk rfl rfl
        (conv => whnf)
        refine And.intro (fun c => absurd c (show ¬ _ from (by decide))) (fun _ => ?_)
        (conv => whnf)
        refine ⟨_, _, _, rfl, fun a => ?_, fun a => ?_⟩
        · obtain ⟨j, hj, rfl⟩ := nI_le_of5 (by decide) (by decide) (by decide) a.1 a.2
          (conv => whnf)
          refine And.intro (fun c => absurd c (show ¬ _ from (by decide))) (fun _ => ?_)
          (conv => whnf)
          refine ⟨_, _, _, rfl, fun b => ?_, fun b => ?_⟩
          · have b' : ¬ v < nI 1 ∧ ¬ nI 100000 < v := b
            obtain ⟨u, hu, rfl⟩ := nI_le_of5 (by decide) (by decide) (by decide) b'.1 b'.2
            obtain ⟨h5, h6⟩ := h4 j u hj rfl hu rfl a.1 a.2 b'.1 b'.2
            (conv => whnf)
            refine And.intro (fun c => absurd c (show ¬ _ from (by decide))) (fun _ => ?_)
            (conv => whnf)
            refine And.intro (fun c => absurd c (show ¬ _ from (by decide))) (fun _ => ?_)
            (conv => whnf)
            refine ⟨vp_in_nI hk (by decide), ?_⟩
            (conv => whnf)
            rw [nI_clamp (show k < 2 ^ 31 by omega)]
            refine ⟨α, ν, β, zTh μ 0, r, β 3 k, rfl, rfl, ?_⟩
            (conv => whnf)
            refine ⟨α, ν, β, zTh μ 0, r, d, k, j, hd, hk, hj, rfl, rfl, fun e => ?_, fun e => ?_⟩
            · have e' : zDm β μ d k j := e
              (conv => whnf)
              refine And.intro (fun c => absurd c (show ¬ _ from (by decide))) (fun _ => ?_)
              (conv => whnf)
              refine ⟨vp_in_nI hk (by decide), ?_⟩
              (conv => whnf)
              rw [nI_clamp (show k < 2 ^ 31 by omega)]
              refine And.intro (fun g => ?_) (fun g => ?_)
              · (conv => whnf)
                refine And.intro (fun _ => ?_) (fun c => absurd (show _ from (by decide)) c)
                (conv => whnf)
                exact h5 (Or.inr (Or.inl (Or.inl g)))
              · (conv => whnf)
                refine And.intro (fun g2 => ?_) (fun g2 => ?_)
                · (conv => whnf)
                  refine And.intro (fun _ => ?_) (fun c => absurd (show _ from (by decide)) c)
                  (conv => whnf)
                  exact h5 (Or.inr (Or.inl (Or.inr g2)))
                · have hnb : ¬ zBad β (β 3 k) := fun q => q.elim g g2
                  have hm4 : zTh μ 0 4 = nI n := hμ4
                  (conv => whnf)
                  rw [hm4]
                  by_cases g3 : n = 60
                  · refine And.intro (fun _ => ?_) (fun c => absurd (show _ from (show nI n = nI 60 by rw [g3])) c)
                    (conv => whnf)
                    refine And.intro (fun _ => ?_) (fun c => absurd (show _ from (by decide)) c)
                    (conv => whnf)
                    exact h5 (Or.inr (Or.inr g3))
                  · refine And.intro (fun c => absurd c (show ¬ _ from (fun q => g3 (nI_inj (by omega) (by decide) q)))) (fun _ => ?_)
                    (conv => whnf)
                    refine And.intro (fun c => absurd c (show ¬ _ from (by decide))) (fun _ => ?_)
                    (conv => whnf)
                    refine ⟨α, ν, β, zTh (zTh μ 0) 0, r, d, k, j, hd, hk, hj, rfl, rfl, ?_⟩
                    (conv => whnf)
                    refine ⟨vp_in_nI hk (by decide), ?_⟩
                    (conv => whnf)
                    rw [nI_clamp (show k < 2 ^ 31 by omega)]
                    refine ⟨α, ν, zu (zu β 6 (upd (β 6) d (β 6 d - nI (j * zau k)))) 7 (upd (β 7) d (μ 0 + nI j + nI (j * (10 * (k / 12 + 1)) / 20))), zTh (zTh μ 0) 0, r, c, β 3 k, hc, rfl, rfl, fun z hz9 => ?_⟩
                    have hz : zHM β μ c (β 3 k) z := hz9
                    (conv => whnf)
                    refine And.intro (fun n2 => ?_) (fun n2 => ?_)
                    · have n2' : zNm β (β 3 k) = nI 2 := n2
                      (conv => whnf)
                      exact ⟨0, d, k, j, u, 2, z, ⟨rfl, rfl, rfl, rfl, rfl, trivial⟩, rfl, rfl, hd, hk, rfl, rfl, hj, rfl, hu, rfl, a.1, a.2, b'.1, b'.2, e', hnb, by omega, hz, by decide, by decide, by rw [zlp_2 n2']; rfl, rfl, rfl, rfl⟩
                    · have n2' : ¬ zNm β (β 3 k) = nI 2 := n2
                      (conv => whnf)
                      refine And.intro (fun n3 => ?_) (fun n3 => ?_)
                      · have n3' : zNm β (β 3 k) = nI 3 := n3
                        (conv => whnf)
                        exact ⟨0, d, k, j, u, 10, z, ⟨rfl, rfl, rfl, rfl, rfl, trivial⟩, rfl, rfl, hd, hk, rfl, rfl, hj, rfl, hu, rfl, a.1, a.2, b'.1, b'.2, e', hnb, by omega, hz, by decide, by decide, by rw [zlp_3 n2' n3']; rfl, rfl, rfl, rfl⟩
                      · have n3' : ¬ zNm β (β 3 k) = nI 3 := n3
                        (conv => whnf)
                        exact ⟨0, d, k, j, u, 4, z, ⟨rfl, rfl, rfl, rfl, rfl, trivial⟩, rfl, rfl, hd, hk, rfl, rfl, hj, rfl, hu, rfl, a.1, a.2, b'.1, b'.2, e', hnb, by omega, hz, by decide, by decide, by rw [zlp_n n2' n3']; rfl, rfl, rfl, rfl⟩
            · have e' : ¬ zDm β μ d k j := e
              (conv => whnf)
              refine And.intro (fun _ => ?_) (fun c => absurd (show _ from rfl) c)
              (conv => whnf)
              refine And.intro (fun _ => ?_) (fun c => absurd (show _ from (by decide)) c)
              (conv => whnf)
              exact h5 (Or.inl e')
          · (conv => whnf)
            refine And.intro (fun _ => ?_) (fun c => absurd (show _ from rfl) c)
            (conv => whnf)
            refine And.intro (fun _ => ?_) (fun c => absurd (show _ from (by decide)) c)
            (conv => whnf)
            exact h3 (Or.inr (nor_of b))
        · (conv => whnf)
          refine And.intro (fun _ => ?_) (fun c => absurd (show _ from rfl) c)
          (conv => whnf)
          refine And.intro (fun _ => ?_) (fun c => absurd (show _ from (by decide)) c)
          (conv => whnf)
          exact h3 (Or.inl (nor_of a))
      · (conv => whnf)
        refine And.intro (fun _ => ?_) (fun c => absurd (show _ from rfl) c)
        (conv => whnf)
        refine And.intro (fun _ => ?_) (fun c => absurd (show _ from (by decide)) c)
        (conv => whnf)
        exact h1 (Or.inr q)
    · (conv => whnf)
      refine And.intro (fun _ => ?_) (fun c => absurd (show _ from rfl) c)
      (conv => whnf)
      refine And.intro (fun _ => ?_) (fun c => absurd (show _ from (by decide)) c)
      (conv => whnf)
      exact h1 (Or.inl q)
  · rintro ms L S w' cu su ⟨d, k, j, u, p, z, hL, rfl, rfl, hd, hk, rfl, rfl, hj, rfl, hu, rfl, a, a', b, b', e, hnb, hn6, hz, hp0, hp, hpl, rfl, rfl, rfl⟩
    refine ⟨_, hL, ?_⟩
    obtain ⟨h7, h8⟩ := ((h2 d k hd hk rfl rfl).2 j u hj rfl hu rfl a a' b b').2 e hnb hn6 z hz
    have hm4 : zTh (zTh μ 0) 0 4 = nI n := hμ4
    rcases zHr_of hz with rfl | ⟨i, hi, rfl⟩
    · have h9 := h7 rfl
      (conv => whnf)
      refine And.intro (fun _ => ?_) (fun c => absurd (show _ from rfl) c)
      (conv => whnf)
      refine ⟨vp_in_nI hk (by decide), ?_⟩
      (conv => whnf)
      rw [hm4]
      refine ⟨vp_in_nI hn6 (by decide), ?_⟩
      (conv => whnf)
      refine And.intro (fun _ => ?_) (fun c => absurd (show _ from rfl) c)
      (conv => whnf)
      rw [hm4]
      refine ⟨vp_in_nI hn6 (by decide), ?_⟩
      (conv => whnf)
      rw [hm4]
      refine And.intro (fun _ => ?_) (fun c => absurd (show _ from rfl) c)
      (conv => whnf)
      rw [nI_clamp (show k < 2 ^ 31 by omega), nI_clamp (show n < 2 ^ 31 by omega)]
      dsimp only [zkon]
      rw [nI_add, pk_sub (show 1 ≤ n + 1 by omega), show n + 1 - 1 = n by omega]
      exact h9
    · have hi2 : i < 40 := by have := hc.1; omega
      obtain ⟨f, f1, f2⟩ := hf8 i hi
      have h9 := h8 i f hi rfl f1 f2
      have hle : zlp u (zNm β (β 3 k)) ≤ 100010 := by
        rw [← hpl]
        exact Nat.le_trans (Nat.div_le_self _ _) (by omega)
      (conv => whnf)
      refine And.intro (fun c => absurd c (show ¬ _ from (nI_ne_m1 (show i < 2 ^ 31 by omega)))) (fun _ => ?_)
      (conv => whnf)
      dsimp only [zkon]
      rw [nI_add, pk_sub (show 1 ≤ u + p by omega)]
      refine ⟨nI_ne0 hp0 (by omega), ?_⟩
      rw [pk_div (show u + p - 1 < 2 ^ 31 by omega) hp0 (by omega), hpl]
      (conv => whnf)
      refine ⟨vp_in_nI hk (by decide), ?_⟩
      (conv => whnf)
      rw [hm4]
      refine ⟨vp_in_nI hn6 (by decide), ?_⟩
      (conv => whnf)
      refine And.intro (fun c => absurd c (show ¬ _ from (nI_ne_m1 (show i < 2 ^ 31 by omega)))) (fun _ => ?_)
      (conv => whnf)
      refine ⟨vp_in_nI hi2 (by decide), ?_⟩
      (conv => whnf)
      rw [nI_clamp (show i < 2 ^ 31 by omega), hm4]
      have ef : ∀ A, (zu (zu (zu β 6 (upd (β 6) d (β 6 d - nI (j * zau k)))) 7 (upd (β 7) d (μ 0 + nI j + nI (j * (10 * (k / 12 + 1)) / 20)))) 11 A) 8 i = nI f := fun _ => f2
      refine ⟨vp_in_nI hn6 (by decide), ?_⟩
      (conv => whnf)
      rw [hm4]
      refine And.intro (fun c => absurd c (show ¬ _ from (nI_ne_m1 (show i < 2 ^ 31 by omega)))) (fun _ => ?_)
      (conv => whnf)
      refine ⟨vp_in_nI hi2 (by decide), ?_⟩
      have ef2 : (zu (zu β 6 (upd (β 6) d (β 6 d - nI (j * zau k)))) 7 (upd (β 7) d (μ 0 + nI j + nI (j * (10 * (k / 12 + 1)) / 20)))) 8 i = nI f := f2
      (conv => whnf)
      rw [nI_clamp (show i < 2 ^ 31 by omega), ef2]
      refine ⟨vp_in_nI f1 (by decide), ?_⟩
      (conv => whnf)
      refine ⟨vp_in_nI f1 (by decide), ?_⟩
      (conv => whnf)
      rw [nI_clamp (show k < 2 ^ 31 by omega), nI_clamp (show n < 2 ^ 31 by omega), nI_clamp (show f < 2 ^ 31 by omega)]
      dsimp only [zkon]
      rw [nI_add, pk_sub (show 1 ≤ n + 1 by omega), show n + 1 - 1 = n by omega]
      exact h9
