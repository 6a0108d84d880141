/-! ===== EchoRegistry: raise, finderBySoundings ===== -/
def sp_X4_raise : zSpec := fun args w Q X => ∃ α ν r c n x y m v, zCk α ν c ∧ (∀ j, j < c → ∃ f, f < 6 ∧ α 8 j = nI f) ∧ n ≤ 60 ∧ ν 4 = nI n ∧ args = [.ref 0, .int x, .int y, .int m, .int v] ∧ w = WX α ν r ∧ (¬ vp_in x 4 ∨ ¬ vp_in y 96 → X zIOO (WX α ν r)) ∧
  ∀ d k, d < 4 → k < 96 → x = nI d → y = nI k → ((m < nI 10 ∨ nI 60 < m) ∨ (v < nI 1 ∨ nI 100000 < v) → X zIAE (WX α ν r)) ∧
    ∀ j u, j ≤ 60 → m = nI j → u ≤ 100000 → v = nI u → ¬ m < nI 10 → ¬ nI 60 < m → ¬ v < nI 1 → ¬ nI 100000 < v → (¬ zDv α ν d k j ∨ zBad α (α 3 k) ∨ n = 60 → X zISE (WX α ν r)) ∧ (zDv α ν d k j → ¬ zBad α (α 3 k) → n < 60 → ∀ z, zHR α ν c (α 3 k) z →
      (z = -1 → Q (some (.int (nI n))) (WX (zu (zu (zu (zu α 6 (upd (α 6) d (α 6 d - nI (j * zau k)))) 7 (upd (α 7) d (ν 0 + nI j + nI (j * (10 * (k / 12 + 1)) / 20)))) 11 (upd (α 11) n (α 3 k))) 12 (upd (α 12) n (-1))) (zu (zu ν 4 (nI (n + 1))) 5 (ν 5 + nI u)) r)) ∧
      (∀ i f, i < c → z = nI i → f < 6 → α 8 i = nI f → Q (some (.int (nI n))) (WX (zu (zu (zu (zu (zu α 6 (upd (α 6) d (α 6 d - nI (j * zau k)))) 7 (upd (α 7) d (ν 0 + nI j + nI (j * (10 * (k / 12 + 1)) / 20)))) 11 (upd (α 11) n (α 3 k))) 12 (upd (α 12) n (nI f))) 13 (upd (α 13) f (α 13 f + (nI u - nI (zlp u (zNm α (α 3 k))))))) (zu (zu ν 4 (nI (n + 1))) 5 (ν 5 + nI (zlp u (zNm α (α 3 k))))) r)))
def pg_X4_raise : List zE := [(0, .iload_n 1, 1, []), (1, .invokestatic 106, 3, []), (4, .iload_n 2, 1, []), (5, .invokestatic 48, 3, []), (8, .iload_n 3, 1, []), (9, .bipush 10, 2, [10]), (11, .bipush 60, 2, [60]), (13, .invokestatic 69, 3, []), (16, .iload 4, 2, []), (18, .iconst 1, 1, [1]), (19, .ldc 119, 2, []), (21, .invokestatic 69, 3, []), (24, .aload_n 0, 1, []), (25, .iload_n 1, 1, []), (26, .iload_n 2, 1, []), (27, .iload_n 3, 1, []), (28, .invokevirtual 109, 3, []), (31, .aload_n 0, 1, []), (32, .getfield 12, 3, []), (35, .iload_n 2, 1, []), (36, .invokevirtual 77, 3, []), (39, .istore 5, 2, []), (41, .aload_n 0, 1, []), (42, .iload 5, 2, []), (44, .invokevirtual 120, 3, []), (47, .aload_n 0, 1, []), (48, .getfield 33, 3, []), (51, .invokevirtual 123, 3, []), (54, .ifCond .eq 13, 3, [67]), (57, .new 127, 3, []), (67, .aload_n 0, 1, []), (68, .getfield 19, 3, []), (71, .iload_n 1, 1, []), (72, .iload_n 2, 1, []), (73, .iload_n 3, 1, []), (74, .aload_n 0, 1, []), (75, .getfield 44, 3, []), (78, .invokevirtual 112, 3, []), (81, .aload_n 0, 1, []), (82, .getfield 33, 3, []), (85, .iload 5, 2, []), (87, .aload_n 0, 1, []), (88, .iload 5, 2, []), (90, .invokevirtual 132, 3, []), (93, .iload 4, 2, []), (95, .aload_n 0, 1, []), (96, .getfield 12, 3, []), (99, .iload 5, 2, []), (101, .invokevirtual 86, 3, []), (104, .invokevirtual 135, 3, []), (107, .ireturn, 1, [])]
theorem hp_X4_raise : ∀ q ∈ pg_X4_raise, decode cX4_raise q.1 = .ok (q.2.1, q.2.2.1) ∧ ztg q.2.1 q.1 q.2.2.1 q.2.2.2 = true := zpg_of (by decide +kernel)
def cs_X4_raise : List (Nat × zCall) := [(106, 1, 1, none, 1, 6, false, sp_X4_requireDiver), (48, 1, 1, none, 1, 6, false, sp_X4_requireCell), (69, 1, 3, none, 1, 6, false, sp_X4_requireWithin), (109, 0, 4, some 5, 2, 12, false, sp_X4_requireDive), (77, 0, 2, some 1, 0, 0, false, sp_X0_shapeAt), (120, 0, 2, some 5, 2, 12, false, sp_X4_requireOpenShape), (123, 0, 1, some 4, 0, 0, false, sp_X3_isFull), (112, 0, 5, some 3, 0, 0, false, sp_X2_dive), (132, 0, 2, some 5, 0, 0, false, sp_X4_finderOfShape), (86, 0, 2, some 1, 0, 0, false, sp_X0_nameOfShape), (135, 0, 5, some 4, 0, 0, false, sp_X3_enter)]
theorem hcs_X4_raise {l : Launch} (hl0 : l.stackTraces = false) : ∀ q ∈ cs_X4_raise, zCallable l RX4 6 q := List.forall_mem_cons.mpr ⟨zcS (ps := [350, 351, 14, 352]) (c_X4_requireDiver hl0) (by decide +kernel) ⟨by decide +kernel, by decide +kernel, by decide +kernel⟩ (by decide) (by decide), List.forall_mem_cons.mpr ⟨zcS (ps := [190, 191, 14, 192]) (c_X4_requireCell hl0) (by decide +kernel) ⟨by decide +kernel, by decide +kernel, by decide +kernel⟩ (by decide) (by decide), List.forall_mem_cons.mpr ⟨zcS (ps := [266, 267, 14, 268]) (c_X4_requireWithin hl0) (by decide +kernel) ⟨by decide +kernel, by decide +kernel, by decide +kernel⟩ (by decide) (by decide), List.forall_mem_cons.mpr ⟨zcV (C := (RX4, TX4, 6)) (ps := [512, 514, 8, 14, 515]) (c_X4_requireDive hl0) (by decide +kernel) rfl ⟨rfl, by decide +kernel, by decide +kernel, by decide +kernel⟩ (by decide) (by decide), List.forall_mem_cons.mpr ⟨zcV (C := (RX0, TX0, 8)) (ps := [330, 331, 332, 15, 333]) (c_X0_shapeAt hl0) (by decide +kernel) rfl ⟨rfl, by decide +kernel, by decide +kernel, by decide +kernel⟩ (by decide) (by decide), List.forall_mem_cons.mpr ⟨zcV (C := (RX4, TX4, 6)) (ps := [544, 546, 10, 14, 547]) (c_X4_requireOpenShape hl0) (by decide +kernel) rfl ⟨rfl, by decide +kernel, by decide +kernel, by decide +kernel⟩ (by decide) (by decide), List.forall_mem_cons.mpr ⟨zcV (C := (RX3, TX3, 5)) (ps := [550, 551, 552, 19, 553]) (c_X3_isFull hl0) (by decide +kernel) rfl ⟨rfl, by decide +kernel, by decide +kernel, by decide +kernel⟩ (by decide) (by decide), List.forall_mem_cons.mpr ⟨zcV (C := (RX2, TX2, 2)) (ps := [528, 529, 530, 17, 531]) (c_X2_dive hl0) (by decide +kernel) rfl ⟨rfl, by decide +kernel, by decide +kernel, by decide +kernel⟩ (by decide) (by decide), List.forall_mem_cons.mpr ⟨zcV (C := (RX4, TX4, 6)) (ps := [416, 418, 4, 14, 419]) (c_X4_finderOfShape hl0) (by decide +kernel) rfl ⟨rfl, by decide +kernel, by decide +kernel, by decide +kernel⟩ (by decide) (by decide), List.forall_mem_cons.mpr ⟨zcV (C := (RX0, TX0, 8)) (ps := [338, 339, 340, 15, 341]) (c_X0_nameOfShape hl0) (by decide +kernel) rfl ⟨rfl, by decide +kernel, by decide +kernel, by decide +kernel⟩ (by decide) (by decide), List.forall_mem_cons.mpr ⟨zcV (C := (RX3, TX3, 5)) (ps := [555, 556, 557, 19, 558]) (c_X3_enter hl0) (by decide +kernel) rfl ⟨rfl, by decide +kernel, by decide +kernel, by decide +kernel⟩ (by decide) (by decide), fun _ h => absurd h List.not_mem_nil⟩⟩⟩⟩⟩⟩⟩⟩⟩⟩⟩
def th_X4_raise : List (Nat × String) := [(57, "java/lang/IllegalStateException")]
theorem hth_X4_raise : ∀ q ∈ th_X4_raise, zThrow cX4_raise RX4 q := List.forall_mem_cons.mpr ⟨⟨"no room for a thing", 127, 129, 131, [392, 30], by decide +kernel, by decide +kernel, by decide +kernel, thw_RX4_131, by decide +kernel, by decide +kernel, Or.inl ⟨by decide +kernel, by decide +kernel, by decide +kernel⟩⟩, fun _ h => absurd h List.not_mem_nil⟩
def kc_X4_raise : List (Nat × Int32) := [(119, 100000)]
theorem hkc_X4_raise : ∀ q ∈ kc_X4_raise, Cond.constant RX4 q.1 q.2 ∈ zTs := List.forall_mem_cons.mpr ⟨zmem (i := 543) (by decide +kernel) rfl, fun _ h => absurd h List.not_mem_nil⟩
def nw_X4_raise : List (Nat × Nat × Nat × List Value) := []
theorem hnw_X4_raise : ∀ q ∈ nw_X4_raise, zNew RX4 q := fun _ h => absurd h List.not_mem_nil
set_option maxHeartbeats 4000000 in
set_option maxRecDepth 20000 in
theorem c_X4_raise {l : Launch} (hl0 : l.stackTraces = false) : CT l yX4_raise (.code yX4_raise cX4_raise 6 (some .int)) 6 9 54 false sp_X4_raise := by
  refine zCT_of hl0 (own := RX4) fl_RX4 cs_X4_raise nw_X4_raise th_X4_raise kc_X4_raise (fun _ => []) false pg_X4_raise rfl (by decide +kernel) hp_X4_raise ⟨_, _, rfl, rfl⟩ hfl_RX4 (fun h => nomatch h) (hcs_X4_raise hl0) hnw_X4_raise hth_X4_raise (fun _ _ h => absurd h List.not_mem_nil) hkc_X4_raise (fun args w Q X v0 hv0 h => ?_)
  obtain ⟨α, ν, r, c, n, x, y, m, v, hc, hf8, hn, hν4, rfl, rfl, h1, h2⟩ := h
  refine ⟨Nat.le_of_ble_eq_true rfl, 60, [], ?_, fun q hq => absurd hq List.not_mem_nil⟩
  (conv => whnf)
  refine ⟨_, rfl, fun q => ?_, fun q => ?_⟩
  · obtain ⟨d, hd, rfl⟩ := vp_in_of q (by decide)
    (conv => whnf)
    refine ⟨_, rfl, fun q => ?_, fun q => ?_⟩
    · obtain ⟨k, hk, rfl⟩ := vp_in_of q (by decide)
      obtain ⟨h3, h4⟩ := h2 d k hd hk rfl rfl
      (conv => whnf)
      refine ⟨m, nI 10, nI 60, rfl, fun a b => ?_, fun a => ?_⟩
      · obtain ⟨j, hj, rfl⟩ := nI_le_of5 (by decide) (by decide) (by decide) a b
        (conv => whnf)
        refine ⟨v, nI 1, nI 100000, rfl, fun a' b' => ?_, fun a' => ?_⟩
        · obtain ⟨u, hu, rfl⟩ := nI_le_of5 (by decide) (by decide) (by decide) a' b'
          obtain ⟨h5, h6⟩ := h4 j u hj rfl hu rfl a b a' b'
          (conv => whnf)
          refine ⟨α, ν, r, d, k, j, hd, hk, hj, rfl, rfl, fun e => ?_, fun e => ?_⟩
          · (conv => whnf)
            refine ⟨α, ν, r, k, hk, rfl, rfl, ?_⟩
            (conv => whnf)
            refine ⟨α, ν, r, _, rfl, rfl, fun b => ?_, fun b => ?_⟩
            · (conv => whnf)
              refine ⟨α, ν, r, n, hn, hν4, rfl, rfl, fun g => ?_, fun g => ?_⟩
              · (conv => whnf)
                refine And.intro (fun c => absurd c (show ¬ _ from (by decide))) (fun _ => ?_)
                (conv => whnf)
                exact h5 (Or.inr (Or.inr g))
              · (conv => whnf)
                refine And.intro (fun _ => ?_) (fun c => absurd (show _ from rfl) c)
                (conv => whnf)
                refine ⟨α, ν, r, d, k, j, ν 0, hd, hk, hj, rfl, rfl, ?_⟩
                (conv => whnf)
                refine ⟨zu (zu α 6 (upd (α 6) d (α 6 d - nI (j * zau k)))) 7 (upd (α 7) d (ν 0 + nI j + nI (j * (10 * (k / 12 + 1)) / 20))), ν, r, c, α 3 k, hc, rfl, rfl, fun z hz => ?_⟩
                obtain ⟨h7, h8⟩ := h6 e b (by omega) z hz
                (conv => whnf)
                refine ⟨_, ν, r, _, rfl, rfl, ?_⟩
                (conv => whnf)
                refine ⟨zu (zu α 6 (upd (α 6) d (α 6 d - nI (j * zau k)))) 7 (upd (α 7) d (ν 0 + nI j + nI (j * (10 * (k / 12 + 1)) / 20))), ν, r, n, α 3 k, zfd (α 8) z, u, zNm α (α 3 k), by omega, hν4, hu, rfl, rfl, fun f hf ef => ?_, fun hno => ?_⟩
                · rcases zHr_of hz with rfl | ⟨i, hi, rfl⟩
                  · rw [zfd_m] at ef
                    exact absurd ef.symm (nI_ne_m1 (by omega))
                  · have hi2 : i < 2 ^ 31 := by have := hc.1; omega
                    rw [zfd_j _ hi2] at ef
                    have h9 := h8 i f hi rfl hf ef
                    rw [zfd_j _ hi2, ef]
                    (conv => whnf)
                    exact h9
                · rcases zHr_of hz with rfl | ⟨i, hi, rfl⟩
                  · have h9 := h7 rfl
                    rw [zfd_m]
                    (conv => whnf)
                    exact h9
                  · have hi2 : i < 2 ^ 31 := by have := hc.1; omega
                    obtain ⟨f, f1, f2⟩ := hf8 i hi
                    rw [zfd_j _ hi2, f2] at hno
                    exact absurd (vp_in_nI f1 (by decide)) hno
            · (conv => whnf)
              exact h5 (Or.inr (Or.inl b))
          · (conv => whnf)
            exact h5 (Or.inl e)
        · (conv => whnf)
          exact h3 (Or.inr a')
      · (conv => whnf)
        exact h3 (Or.inl a)
    · (conv => whnf)
      exact h1 (Or.inr q)
  · (conv => whnf)
    exact h1 (Or.inl q)
/-- the last mark on the cells of S: its turn and its name -/
def zMxp (S : Nat → Prop) (t m : Nat → Int32) (p : Int32 × Int32) : Prop := ((∀ c, S c → ¬ 0 < t c) ∧ p = (0, 0)) ∨ ∃ c, S c ∧ 0 < t c ∧ p = (t c, m c) ∧ ∀ d, S d → ¬ t c < t d
theorem i32_antisymm {a b : Int32} (h1 : ¬ a < b) (h2 : ¬ b < a) : a = b := by
  apply Int32.toInt_inj.mp
  rw [Int32.lt_iff_toInt_lt] at h1 h2
  omega
theorem i32_trans {a b c : Int32} (h1 : a < b) (h2 : ¬ c < b) : a < c := by
  rw [Int32.lt_iff_toInt_lt] at h1 h2 ⊢
  omega
theorem i32_irrefl (a : Int32) : ¬ a < a := by
  rw [Int32.lt_iff_toInt_lt]
  omega
theorem zMxp_one {S S' : Nat → Prop} {t m : Nat → Int32} {p p' : Int32 × Int32} (e : ∀ c, S c ↔ S' c) (hd : ∀ c d, S c → S d → t c = t d → 0 < t c → c = d) (h : zMxp S t m p) (h' : zMxp S' t m p') : p = p' := by
  rcases h with ⟨a, rfl⟩ | ⟨c, a, b, rfl, g⟩
  · rcases h' with ⟨a', rfl⟩ | ⟨c', a', b', rfl, g'⟩
    · rfl
    · exact absurd b' (a c' ((e c').mpr a'))
  · rcases h' with ⟨a', rfl⟩ | ⟨c', a', b', rfl, g'⟩
    · exact absurd b (a' c ((e c).mp a))
    · have e2 : c = c' := hd c c' a ((e c').mpr a') (i32_antisymm (g c' ((e c').mpr a')) (g' c ((e c).mp a))) b
      rw [e2]
/-- one more cell -/
theorem zMxp_add {S S' : Nat → Prop} {t m : Nat → Int32} {p : Int32 × Int32} {k : Nat} (h : zMxp S t m p) (hs : ∀ c, S' c ↔ S c ∨ c = k) : zMxp S' t m (if p.1 < t k then (t k, m k) else p) := by
  rcases h with ⟨a, rfl⟩ | ⟨c, a, b, rfl, g⟩
  · by_cases h0 : (0 : Int32) < t k
    · rw [if_pos h0]
      refine Or.inr ⟨k, (hs k).mpr (Or.inr rfl), h0, rfl, fun d hd => ?_⟩
      rcases (hs d).mp hd with hd | rfl
      · have := a d hd
        intro q
        rw [Int32.lt_iff_toInt_lt] at *
        omega
      · exact i32_irrefl _
    · rw [if_neg h0]
      refine Or.inl ⟨fun d hd => ?_, rfl⟩
      rcases (hs d).mp hd with hd | rfl
      · exact a d hd
      · exact h0
  · by_cases h0 : t c < t k
    · rw [if_pos h0]
      refine Or.inr ⟨k, (hs k).mpr (Or.inr rfl), ?_, rfl, fun d hd => ?_⟩
      · rw [Int32.lt_iff_toInt_lt] at *
        omega
      · rcases (hs d).mp hd with hd | rfl
        · have := g d hd
          rw [Int32.lt_iff_toInt_lt] at *
          omega
        · exact i32_irrefl _
    · rw [if_neg h0]
      refine Or.inr ⟨c, (hs c).mpr (Or.inl a), b, rfl, fun d hd => ?_⟩
      rcases (hs d).mp hd with hd | rfl
      · exact g d hd
      · exact h0
theorem zMxp_same {S S' : Nat → Prop} {t m : Nat → Int32} {p : Int32 × Int32} (h : zMxp S t m p) (hs : ∀ c, S' c ↔ S c) : zMxp S' t m p := by
  rcases h with ⟨a, rfl⟩ | ⟨c, a, b, rfl, g⟩
  · exact Or.inl ⟨fun d hd => a d ((hs d).mp hd), rfl⟩
  · exact Or.inr ⟨c, (hs c).mpr a, b, rfl, fun d hd => g d ((hs d).mp hd)⟩
theorem znm_mxp (f t m : Nat → Int32) (s : Int32) : ∀ n, zMxp (fun c => c < n ∧ (s ≠ -1 ∧ f c = s)) t m (znm f t m s n)
  | 0 => Or.inl ⟨fun c h => absurd h.1 (Nat.not_lt_zero c), rfl⟩
  | n + 1 => by
    have ih := znm_mxp f t m s n
    by_cases h : s ≠ -1 ∧ f n = s
    · have h2 := zMxp_add (k := n) (S' := fun c => c < n + 1 ∧ (s ≠ -1 ∧ f c = s)) ih (fun c => ?_)
      · by_cases h3 : (znm f t m s n).1 < t n
        · rw [znm_t h h3]
          rw [if_pos h3] at h2
          exact h2
        · rw [znm_f (Or.inr h3)]
          rw [if_neg h3] at h2
          exact h2
      · constructor
        · rintro ⟨a, b⟩
          by_cases e : c = n
          · exact Or.inr e
          · exact Or.inl ⟨by omega, b⟩
        · rintro (⟨a, b⟩ | rfl)
          · exact ⟨by omega, b⟩
          · exact ⟨by omega, h⟩
    · rw [znm_f (Or.inl h)]
      refine zMxp_same ih (fun c => ⟨fun ⟨a, b⟩ => ⟨?_, b⟩, fun ⟨a, b⟩ => ⟨by omega, b⟩⟩)
      have : c ≠ n := fun e => h (e ▸ b)
      omega
theorem znr_mxp (ρ : Nat → Nat) (t m : Nat → Int32) : ∀ n, zMxp (fun c => ∃ j, j < n ∧ ρ j = c) t m (znr ρ t m n)
  | 0 => Or.inl ⟨fun c ⟨j, h, _⟩ => absurd h (Nat.not_lt_zero j), rfl⟩
  | n + 1 => by
    have ih := znr_mxp ρ t m n
    have h2 := zMxp_add (k := ρ n) (S' := fun c => ∃ j, j < n + 1 ∧ ρ j = c) ih (fun c => ?_)
    · by_cases h3 : (znr ρ t m n).1 < t (ρ n)
      · rw [znr_t h3]
        rw [if_pos h3] at h2
        exact h2
      · rw [znr_f h3]
        rw [if_neg h3] at h2
        exact h2
    · constructor
      · rintro ⟨j, a, b⟩
        by_cases e : j = n
        · subst e
          exact Or.inr b.symm
        · exact Or.inl ⟨j, by omega, b⟩
      · rintro (⟨j, a, b⟩ | rfl)
        · exact ⟨j, by omega, b⟩
        · exact ⟨n, by omega, rfl⟩
/-- the cells of a shape are those that an outing reaches -/
theorem zLow_set {h f : Nat → Int32} (hl : zLow h f) {k n : Nat} {ρ : Nat → Nat} (hk : k < 96) (g : zBF h k n n ρ) (c : Nat) : (c < 96 ∧ (f k ≠ -1 ∧ f c = f k)) ↔ ∃ j, j < n ∧ ρ j = c := by
  rw [← zBF_done g c]
  constructor
  · rintro ⟨a, b, e⟩
    rcases hl k hk with ⟨_, e1⟩ | ⟨_, j, e1, g1, m1⟩
    · exact absurd e1 b
    · rcases hl c a with ⟨_, e2⟩ | ⟨_, j2, e2, g2, m2⟩
      · exact absurd (e.symm.trans e2) b
      · have : j2 = j := nI_inj (by have := (zcon_beg g2).1; omega) (by have := (zcon_beg g1).1; omega) (e2.symm.trans (e.trans e1))
        subst this
        exact zcon_trans (zcon_symm g1) g2
  · intro q
    have hc := zcon_end q
    rcases hl k hk with ⟨e0, e1⟩ | ⟨_, j, e1, g1, m1⟩
    · exact absurd e0 (zcon_beg q).2
    · rcases hl c hc.1 with ⟨e0, e2⟩ | ⟨_, j2, e2, g2, m2⟩
      · exact absurd e0 hc.2
      · have h1 : j ≤ j2 := m1 j2 (zcon_trans g2 (zcon_symm q))
        have h2 : j2 ≤ j := m2 j (zcon_trans g1 q)
        have : j = j2 := by omega
        subst this
        exact ⟨hc.1, by rw [e1]; exact nI_ne_m1 (by have := (zcon_beg g1).1; omega), by rw [e1, e2]⟩
/-- turns: no two cells have one turn -/
def zTu (α : Nat → Nat → Int32) : Prop := ∀ c d, c < 96 → d < 96 → α 2 c = α 2 d → 0 < α 2 c → c = d
def sp_X4_finderBySoundings : zSpec := fun args w Q X => ∃ α ν r o c x, zOu α ν o ∧ zCk α ν c ∧ zLow (α 0) (α 3) ∧ zTu α ∧ args = [.ref 0, .int x] ∧ w = WX α ν r ∧ (¬ vp_in x 96 → X zIOO (WX α ν r)) ∧
  ∀ k, k < 96 → x = nI k → ∀ z a4 a5, zHR α ν c (α 3 k) z → (∀ c, c < 96 → ∃ t, a5 c = nI t ∧ t ≤ o + 1) → Q (some (.int (zfd (α 8) z))) (WX (zu (zu α 5 a5) 4 a4) (zu ν 2 (nI (o + 1))) r)
def pg_X4_finderBySoundings : List zE := [(0, .iload_n 1, 1, []), (1, .invokestatic 48, 3, []), (4, .aload_n 0, 1, []), (5, .getfield 12, 3, []), (8, .iload_n 1, 1, []), (9, .invokevirtual 181, 3, []), (12, .istore_n 2, 1, []), (13, .aload_n 0, 1, []), (14, .getfield 12, 3, []), (17, .iload_n 2, 1, []), (18, .invokevirtual 184, 3, []), (21, .iconst 1, 1, [1]), (22, .if_icmp .ne 5, 3, [27]), (25, .iconst (-1), 1, []), (26, .ireturn, 1, []), (27, .iconst 0, 1, [0]), (28, .istore_n 3, 1, []), (29, .iload_n 3, 1, []), (30, .aload_n 0, 1, []), (31, .getfield 26, 3, []), (34, .invokevirtual 187, 3, []), (37, .if_icmp .ge 52, 3, [89]), (40, .aload_n 0, 1, []), (41, .getfield 26, 3, []), (44, .iload_n 3, 1, []), (45, .aload_n 0, 1, []), (46, .getfield 44, 3, []), (49, .invokevirtual 169, 3, []), (52, .ifCond .eq 31, 3, [83]), (55, .aload_n 0, 1, []), (56, .getfield 12, 3, []), (59, .aload_n 0, 1, []), (60, .getfield 26, 3, []), (63, .iload_n 3, 1, []), (64, .invokevirtual 190, 3, []), (67, .iload_n 2, 1, []), (68, .invokevirtual 193, 3, []), (71, .ifCond .eq 12, 3, [83]), (74, .aload_n 0, 1, []), (75, .getfield 26, 3, []), (78, .iload_n 3, 1, []), (79, .invokevirtual 196, 3, []), (82, .ireturn, 1, []), (83, .iinc 3 1, 3, [1]), (86, .goto (-57), 3, [29]), (89, .iconst (-1), 1, []), (90, .ireturn, 1, [])]
theorem hp_X4_finderBySoundings : ∀ q ∈ pg_X4_finderBySoundings, decode cX4_finderBySoundings q.1 = .ok (q.2.1, q.2.2.1) ∧ ztg q.2.1 q.1 q.2.2.1 q.2.2.2 = true := zpg_of (by decide +kernel)
def cs_X4_finderBySoundings : List (Nat × zCall) := [(48, 1, 1, none, 1, 6, false, sp_X4_requireCell), (181, 0, 2, some 1, 0, 0, false, sp_X0_goOut), (184, 0, 2, some 1, 0, 0, false, sp_X0_nameOfReached), (187, 0, 1, some 2, 0, 0, false, sp_X1_count), (169, 0, 3, some 2, 0, 0, false, sp_X1_isRunning), (190, 0, 2, some 2, 0, 0, false, sp_X1_cellOf), (193, 0, 3, some 1, 0, 0, false, sp_X0_isReached), (196, 0, 2, some 2, 0, 0, false, sp_X1_finderOf)]
theorem hcs_X4_finderBySoundings {l : Launch} (hl0 : l.stackTraces = false) : ∀ q ∈ cs_X4_finderBySoundings, zCallable l RX4 4 q := List.forall_mem_cons.mpr ⟨zcS (ps := [190, 191, 14, 192]) (c_X4_requireCell hl0) (by decide +kernel) ⟨by decide +kernel, by decide +kernel, by decide +kernel⟩ (by decide) (by decide), List.forall_mem_cons.mpr ⟨zcV (C := (RX0, TX0, 8)) (ps := [817, 299, 300, 15, 301]) (c_X0_goOut hl0) (by decide +kernel) rfl ⟨rfl, by decide +kernel, by decide +kernel, by decide +kernel⟩ (by decide) (by decide), List.forall_mem_cons.mpr ⟨zcV (C := (RX0, TX0, 8)) (ps := [818, 819, 820, 15, 821]) (c_X0_nameOfReached hl0) (by decide +kernel) rfl ⟨rfl, by decide +kernel, by decide +kernel, by decide +kernel⟩ (by decide) (by decide), List.forall_mem_cons.mpr ⟨zcV (C := (RX1, TX1, 4)) (ps := [424, 425, 426, 18, 427]) (c_X1_count hl0) (by decide +kernel) rfl ⟨rfl, by decide +kernel, by decide +kernel, by decide +kernel⟩ (by decide) (by decide), List.forall_mem_cons.mpr ⟨zcV (C := (RX1, TX1, 4)) (ps := [428, 429, 430, 18, 431]) (c_X1_isRunning hl0) (by decide +kernel) rfl ⟨rfl, by decide +kernel, by decide +kernel, by decide +kernel⟩ (by decide) (by decide), List.forall_mem_cons.mpr ⟨zcV (C := (RX1, TX1, 4)) (ps := [436, 437, 438, 18, 439]) (c_X1_cellOf hl0) (by decide +kernel) rfl ⟨rfl, by decide +kernel, by decide +kernel, by decide +kernel⟩ (by decide) (by decide), List.forall_mem_cons.mpr ⟨zcV (C := (RX0, TX0, 8)) (ps := [822, 823, 824, 15, 825]) (c_X0_isReached hl0) (by decide +kernel) rfl ⟨rfl, by decide +kernel, by decide +kernel, by decide +kernel⟩ (by decide) (by decide), List.forall_mem_cons.mpr ⟨zcV (C := (RX1, TX1, 4)) (ps := [440, 441, 442, 18, 443]) (c_X1_finderOf hl0) (by decide +kernel) rfl ⟨rfl, by decide +kernel, by decide +kernel, by decide +kernel⟩ (by decide) (by decide), fun _ h => absurd h List.not_mem_nil⟩⟩⟩⟩⟩⟩⟩⟩
def th_X4_finderBySoundings : List (Nat × String) := []
theorem hth_X4_finderBySoundings : ∀ q ∈ th_X4_finderBySoundings, zThrow cX4_finderBySoundings RX4 q := fun _ h => absurd h List.not_mem_nil
def kc_X4_finderBySoundings : List (Nat × Int32) := []
theorem hkc_X4_finderBySoundings : ∀ q ∈ kc_X4_finderBySoundings, Cond.constant RX4 q.1 q.2 ∈ zTs := fun _ h => absurd h List.not_mem_nil
def nw_X4_finderBySoundings : List (Nat × Nat × Nat × List Value) := []
theorem hnw_X4_finderBySoundings : ∀ q ∈ nw_X4_finderBySoundings, zNew RX4 q := fun _ h => absurd h List.not_mem_nil
set_option maxHeartbeats 4000000 in
set_option maxRecDepth 20000 in
theorem c_X4_finderBySoundings {l : Launch} (hl0 : l.stackTraces = false) : CT l yX4_finderBySoundings (.code yX4_finderBySoundings cX4_finderBySoundings 4 (some .int)) 4 1 6 false sp_X4_finderBySoundings := by
  refine zCT_of hl0 (own := RX4) fl_RX4 cs_X4_finderBySoundings nw_X4_finderBySoundings th_X4_finderBySoundings kc_X4_finderBySoundings (fun _ => []) false pg_X4_finderBySoundings rfl (by decide +kernel) hp_X4_finderBySoundings ⟨_, _, rfl, rfl⟩ hfl_RX4 (fun h => nomatch h) (hcs_X4_finderBySoundings hl0) hnw_X4_finderBySoundings hth_X4_finderBySoundings (fun _ _ h => absurd h List.not_mem_nil) hkc_X4_finderBySoundings (fun args w Q X v0 hv0 h => ?_)
  obtain ⟨α, ν, r, o, c, x, ⟨ho, hν, h5⟩, hc, hl, ht, rfl, rfl, h1, h2⟩ := h
  by_cases hq : vp_in x 96
  · obtain ⟨k, hk, rfl⟩ := vp_in_of hq (by decide)
    have h2 := h2 k hk rfl
    refine ⟨Nat.le_of_ble_eq_true rfl, 60, [(29, fun ms L S w' cu su => ∃ n a4 a5 ρ i, zsub [(0, .ref 0), (2, .int (nI n)), (3, .int (nI i))] L ∧ S = [] ∧ w' = WX (zu (zu α 5 a5) 4 a4) (zu ν 2 (nI (o + 1))) r ∧ zBF (α 0) k n n ρ ∧ (∀ j, j < n → a4 j = nI (ρ j)) ∧ (∀ c, c < 96 → ∃ t, a5 c = nI t ∧ t ≤ o + 1) ∧ ¬ zNm α (α 3 k) = nI 1 ∧ i ≤ c ∧ (∀ j, j < i → ¬ (α 3 k ≠ -1 ∧ zP α ν (α 3 k) j)) ∧ ms = 40 - i ∧ cu = 1 ∧ su = 6)], ?_, zone ?_⟩
    · (conv => whnf)
      refine ⟨_, rfl, fun _ => ?_, fun q => absurd hq q⟩
      (conv => whnf)
      refine ⟨α, ν, r, k, o, hk, by omega, hν, h5, rfl, rfl, fun n a4 a5 hg => ?_⟩
      obtain ⟨ρ, g1, g2, g3, g4⟩ := hg
      have hn := zBF_le g1
      have hρ : ∀ j, j < n → ρ j < 96 ∧ a4 j = nI (ρ j) := fun j hj => ⟨(zcon_end (g1.2.1 j hj)).1, g2 j hj⟩
      have hnm : (znr ρ (α 2) (α 1) n) = znm (α 3) (α 2) (α 1) (α 3 k) 96 := zMxp_one (fun c => (zLow_set hl hk g1 c).symm) (fun c d ⟨j, hj, e⟩ ⟨j', hj', e'⟩ q q' => by
        have a1 := (hρ j hj).1
        have a2 := (hρ j' hj').1
        rw [e] at a1
        rw [e'] at a2
        exact ht c d a1 a2 q q') (znr_mxp ρ (α 2) (α 1) n) (znm_mxp (α 3) (α 2) (α 1) (α 3 k) 96)
      (conv => whnf)
      refine ⟨zu (zu α 5 a5) 4 a4, zu ν 2 (nI (o + 1)), r, n, ρ, hn, hρ, rfl, rfl, ?_⟩
      have e9 : (znr ρ (zu (zu α 5 a5) 4 a4 2) (zu (zu α 5 a5) 4 a4 1) n).2 = zNm α (α 3 k) := congrArg Prod.snd hnm
      rw [e9]
      (conv => whnf)
      refine And.intro (fun d => ?_) (fun d => ?_) <;> dsimp only at d
      · (conv => whnf)
        exact h2 (-1) a4 a5 (Or.inl ⟨Or.inr d, rfl⟩) g4
      · (conv => whnf)
        exact ⟨40, n, a4, a5, ρ, 0, ⟨rfl, rfl, rfl, trivial⟩, rfl, rfl, g1, g2, g4, d, Nat.zero_le _, fun j hj => absurd hj (Nat.not_lt_zero j), rfl, rfl, rfl⟩
    · rintro ms L S w' cu su ⟨n, a4, a5, ρ, i, hL, rfl, rfl, g1, g2, g4, hnm, hi, hno, rfl, rfl, rfl⟩
      refine ⟨_, hL, ?_⟩
      have hn := zBF_le g1
      obtain ⟨hc1, hc2, hc3⟩ := id hc
      (conv => whnf)
      refine ⟨_, _, r, rfl, rfl, ?_⟩
      have e3 : zu ν 2 (nI (o + 1)) 3 = nI c := hc2
      rw [e3]
      (conv => whnf)
      refine And.intro (fun q => ?_) (fun q => ?_)
      · have hlt : i < c := (nI_ltI (by omega) (by omega)).mp q
        obtain ⟨b, hb1, hb2⟩ := hc3 i hlt
        have hnext : ¬ (α 3 k ≠ -1 ∧ zP α ν (α 3 k) i) → ∀ j, j < i + 1 → ¬ (α 3 k ≠ -1 ∧ zP α ν (α 3 k) j) := fun h j hj => by
          by_cases e : j < i
          · exact hno j e
          · have : j = i := by omega
            rw [this]; exact h
        have hin : (∃ j, j < n ∧ a4 j = α 9 i) ↔ (α 3 k ≠ -1 ∧ α 3 (α 9 i).toNatClampNeg = α 3 k) := by
          have e : (α 9 i).toNatClampNeg = b := by rw [hb2, nI_clamp (by omega)]
          rw [e]
          constructor
          · rintro ⟨j, hj, e1⟩
            rw [g2 j hj, hb2] at e1
            have e2 : ρ j = b := nI_inj (by have := (zcon_end (g1.2.1 j hj)).1; omega) (by omega) e1
            exact ((zLow_set hl hk g1 b).mpr ⟨j, hj, e2⟩).2
          · intro q
            obtain ⟨j, hj, e1⟩ := (zLow_set hl hk g1 b).mp ⟨hb1, q⟩
            exact ⟨j, hj, by rw [g2 j hj, e1, hb2]⟩
        (conv => whnf)
        refine ⟨zu (zu α 5 a5) 4 a4, zu ν 2 (nI (o + 1)), r, c, i, ν 0, hc1, hc2, hlt, rfl, rfl, fun d => ?_, fun d => ?_⟩
        · (conv => whnf)
          refine And.intro (fun c => absurd c (show ¬ _ from (by decide))) (fun _ => ?_)
          (conv => whnf)
          refine ⟨zu (zu α 5 a5) 4 a4, zu ν 2 (nI (o + 1)), r, c, i, hc1, hc2, hlt, rfl, rfl, ?_⟩
          (conv => whnf)
          refine ⟨zu (zu α 5 a5) 4 a4, zu ν 2 (nI (o + 1)), r, α 9 i, n, hn, rfl, rfl, fun g => ?_, fun g => ?_⟩
          · obtain ⟨g5, g6⟩ := hin.mp g
            (conv => whnf)
            refine And.intro (fun c => absurd c (show ¬ _ from (by decide))) (fun _ => ?_)
            (conv => whnf)
            refine ⟨zu (zu α 5 a5) 4 a4, zu ν 2 (nI (o + 1)), r, c, i, hc1, hc2, hlt, rfl, rfl, ?_⟩
            have hz : zHR α ν c (α 3 k) (nI i) := Or.inr ⟨fun q => q.elim g5 hnm, Or.inl ⟨i, hlt, ⟨d, g6⟩, fun j hj p => hno j hj ⟨g5, p⟩, rfl⟩⟩
            have h9 := h2 (nI i) a4 a5 hz g4
            rw [zfd_j _ (show i < 2 ^ 31 by omega)] at h9
            (conv => whnf)
            exact h9
          · (conv => whnf)
            refine And.intro (fun _ => ?_) (fun c => absurd (show _ from rfl) c)
            (conv => whnf)
            exact ⟨40 - (i + 1), by omega, n, a4, a5, ρ, i + 1, ⟨rfl, rfl, zi1 rfl, trivial⟩, rfl, rfl, g1, g2, g4, hnm, hlt, hnext (fun q => g (hin.mpr ⟨q.1, q.2.2⟩)), rfl, rfl, rfl⟩
        · (conv => whnf)
          refine And.intro (fun _ => ?_) (fun c => absurd (show _ from rfl) c)
          (conv => whnf)
          exact ⟨40 - (i + 1), by omega, n, a4, a5, ρ, i + 1, ⟨rfl, rfl, zi1 rfl, trivial⟩, rfl, rfl, g1, g2, g4, hnm, hlt, hnext (fun q => d q.2.1), rfl, rfl, rfl⟩
      · have hge : i = c := by
          have : ¬ i < c := fun h => q (nI_lt h (by omega))
          omega
        subst hge
        have hz : zHR α ν i (α 3 k) (-1) := by
          by_cases e : α 3 k = -1
          · exact Or.inl ⟨Or.inl e, rfl⟩
          · exact Or.inr ⟨fun q => q.elim e hnm, Or.inr ⟨fun j hj p => hno j hj ⟨e, p⟩, rfl⟩⟩
        (conv => whnf)
        exact h2 (-1) a4 a5 hz g4
  · refine ⟨Nat.le_of_ble_eq_true rfl, 20, [], ?_, fun q hq => absurd hq List.not_mem_nil⟩
    (conv => whnf)
    refine ⟨_, rfl, fun q => absurd q hq, fun q => ?_⟩
    (conv => whnf)
    exact h1 q
