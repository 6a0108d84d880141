/-! ===== EchoRegistry: its calls ===== -/
theorem zcnt_le (f : Nat → Int32) (s : Int32) : ∀ n, zcnt f s n ≤ n
  | 0 => Nat.le_refl 0
  | n + 1 => by
    have ih := zcnt_le f s n
    by_cases h : s ≠ -1 ∧ f n = s
    · rw [zcnt_t h]; omega
    · rw [zcnt_f h]; omega
/-- the outings: how many there were -/
def zOu (α : Nat → Nat → Int32) (ν : Nat → Int32) (o : Nat) : Prop := o + 97 < 2 ^ 31 ∧ ν 2 = nI o ∧ ∀ c, c < 96 → ∃ t, α 5 c = nI t ∧ t ≤ o
def sp_X4_sound : zSpec := fun args w Q X => ∃ α ν r o x h, zOu α ν o ∧ args = [.ref 0, .int x, .int h] ∧ w = WX α ν r ∧ (¬ vp_in x 96 → X zIOO (WX α ν r)) ∧
  ∀ k, k < 96 → x = nI k → (h < nI 0 ∨ nI 9 < h → X zIAE (WX α ν r)) ∧ (¬ h < nI 0 → ¬ nI 9 < h → ∀ f a4 a5 o', zLow (upd (α 0) k h) f → o' ≤ o + 96 → (∀ c, c < 96 → ∃ t, a5 c = nI t ∧ t ≤ o') →
    Q (some (.int (α 0 k))) (WX (zu (zu (zu (zu α 0 (upd (α 0) k h)) 5 a5) 4 a4) 3 f) (zu ν 2 (nI o')) r))
def pg_X4_sound : List zE := [(0, .iload_n 1, 1, []), (1, .invokestatic 48, 3, []), (4, .iload_n 2, 1, []), (5, .invokestatic 52, 3, []), (8, .aload_n 0, 1, []), (9, .getfield 12, 3, []), (12, .iload_n 1, 1, []), (13, .invokevirtual 55, 3, []), (16, .istore_n 3, 1, []), (17, .aload_n 0, 1, []), (18, .getfield 12, 3, []), (21, .iload_n 1, 1, []), (22, .iload_n 2, 1, []), (23, .invokevirtual 59, 3, []), (26, .aload_n 0, 1, []), (27, .getfield 12, 3, []), (30, .invokevirtual 63, 3, []), (33, .iload_n 3, 1, []), (34, .ireturn, 1, [])]
theorem hp_X4_sound : ∀ q ∈ pg_X4_sound, decode cX4_sound q.1 = .ok (q.2.1, q.2.2.1) ∧ ztg q.2.1 q.1 q.2.2.1 q.2.2.2 = true := zpg_of (by decide +kernel)
def cs_X4_sound : List (Nat × zCall) := [(48, 1, 1, none, 1, 6, false, sp_X4_requireCell), (52, 1, 1, none, 1, 6, false, sp_X4_requireHeight), (55, 0, 2, some 1, 0, 0, false, sp_X0_heightAt), (59, 0, 3, some 1, 0, 0, false, sp_X0_setHeight), (63, 0, 1, some 1, 0, 0, false, sp_X0_joinShapes)]
theorem hcs_X4_sound {l : Launch} (hl0 : l.stackTraces = false) : ∀ q ∈ cs_X4_sound, zCallable l RX4 5 q := List.forall_mem_cons.mpr ⟨zcS (ps := [190, 191, 14, 192]) (c_X4_requireCell hl0) (by decide +kernel) ⟨by decide +kernel, by decide +kernel, by decide +kernel⟩ (by decide) (by decide), List.forall_mem_cons.mpr ⟨zcS (ps := [263, 264, 14, 265]) (c_X4_requireHeight hl0) (by decide +kernel) ⟨by decide +kernel, by decide +kernel, by decide +kernel⟩ (by decide) (by decide), List.forall_mem_cons.mpr ⟨zcV (C := (RX0, TX0, 8)) (ps := [285, 286, 287, 15, 288]) (c_X0_heightAt hl0) (by decide +kernel) rfl ⟨rfl, by decide +kernel, by decide +kernel, by decide +kernel⟩ (by decide) (by decide), List.forall_mem_cons.mpr ⟨zcV (C := (RX0, TX0, 8)) (ps := [290, 291, 292, 15, 293]) (c_X0_setHeight hl0) (by decide +kernel) rfl ⟨rfl, by decide +kernel, by decide +kernel, by decide +kernel⟩ (by decide) (by decide), List.forall_mem_cons.mpr ⟨zcV (C := (RX0, TX0, 8)) (ps := [294, 295, 296, 15, 297]) (c_X0_joinShapes hl0) (by decide +kernel) rfl ⟨rfl, by decide +kernel, by decide +kernel, by decide +kernel⟩ (by decide) (by decide), fun _ h => absurd h List.not_mem_nil⟩⟩⟩⟩⟩
def th_X4_sound : List (Nat × String) := []
theorem hth_X4_sound : ∀ q ∈ th_X4_sound, zThrow cX4_sound RX4 q := fun _ h => absurd h List.not_mem_nil
def kc_X4_sound : List (Nat × Int32) := []
theorem hkc_X4_sound : ∀ q ∈ kc_X4_sound, Cond.constant RX4 q.1 q.2 ∈ zTs := fun _ h => absurd h List.not_mem_nil
def nw_X4_sound : List (Nat × Nat × Nat × List Value) := []
theorem hnw_X4_sound : ∀ q ∈ nw_X4_sound, zNew RX4 q := fun _ h => absurd h List.not_mem_nil
set_option maxHeartbeats 4000000 in
set_option maxRecDepth 20000 in
theorem c_X4_sound {l : Launch} (hl0 : l.stackTraces = false) : CT l yX4_sound (.code yX4_sound cX4_sound 4 (some .int)) 5 2 12 false sp_X4_sound := by
  refine zCT_of hl0 (own := RX4) fl_RX4 cs_X4_sound nw_X4_sound th_X4_sound kc_X4_sound (fun _ => []) false pg_X4_sound rfl (by decide +kernel) hp_X4_sound ⟨_, _, rfl, rfl⟩ hfl_RX4 (fun h => nomatch h) (hcs_X4_sound hl0) hnw_X4_sound hth_X4_sound (fun _ _ h => absurd h List.not_mem_nil) hkc_X4_sound (fun args w Q X v0 hv0 h => ?_)
  obtain ⟨α, ν, r, o, x, h, ⟨ho, hν, h5⟩, rfl, rfl, h1, h2⟩ := h
  refine ⟨Nat.le_of_ble_eq_true rfl, 60, [], ?_, fun q hq => absurd hq List.not_mem_nil⟩
  (conv => whnf)
  refine ⟨_, rfl, fun c => ?_, fun c => ?_⟩
  · obtain ⟨k, hk, rfl⟩ := vp_in_of c (by decide)
    obtain ⟨h3, h4⟩ := h2 k hk rfl
    (conv => whnf)
    refine ⟨_, rfl, fun a b => ?_, fun a => ?_⟩
    · (conv => whnf)
      refine ⟨α, ν, r, k, hk, rfl, rfl, ?_⟩
      (conv => whnf)
      refine ⟨α, ν, r, k, h, hk, rfl, rfl, ?_⟩
      (conv => whnf)
      refine ⟨zu α 0 (upd (α 0) k h), ν, r, o, ho, hν, h5, rfl, rfl, fun f a4 a5 o' q1 q2 q3 => ?_⟩
      (conv => whnf)
      exact h4 a b f a4 a5 o' q1 q2 q3
    · (conv => whnf)
      exact h3 a
  · (conv => whnf)
    exact h1 c
/-- n cells from k on are v -/
def zsv (f : Nat → Int32) (k : Nat) (v : Int32) (n : Nat) : Nat → Int32 := fun j => if k ≤ j ∧ j < k + n then v else f j
theorem zsv_0 (f : Nat → Int32) (k : Nat) (v : Int32) : zsv f k v 0 = f := by
  funext j
  unfold zsv
  rw [if_neg (by omega)]
theorem zsv_s (f : Nat → Int32) (k : Nat) (v : Int32) (n : Nat) : upd (zsv f k v n) (k + n) v = zsv f k v (n + 1) := by
  funext j
  unfold upd zsv
  by_cases h1 : j = k + n
  · subst h1
    simp
  · by_cases h2 : k ≤ j ∧ j < k + n
    · have h3 : k ≤ j ∧ j < k + (n + 1) := by omega
      simp only [if_neg h1, if_pos h2, if_pos h3]
    · have h3 : ¬ (k ≤ j ∧ j < k + (n + 1)) := by omega
      simp only [if_neg h1, if_neg h2, if_neg h3]
def sp_X4_sweep : zSpec := fun args w Q X => ∃ α ν r o x m h, zOu α ν o ∧ args = [.ref 0, .int x, .int m, .int h] ∧ w = WX α ν r ∧ (¬ vp_in x 96 → X zIOO (WX α ν r)) ∧
  ∀ k, k < 96 → x = nI k → ((m < nI 1 ∨ nI (12 - k % 12) < m) ∨ (h < nI 0 ∨ nI 9 < h) → X zIAE (WX α ν r)) ∧ (∀ n, m = nI n → n ≤ 12 - k % 12 → ¬ m < nI 1 → ¬ nI (12 - k % 12) < m → ¬ h < nI 0 → ¬ nI 9 < h → ∀ f a4 a5 o', zLow (zsv (α 0) k h n) f → o' ≤ o + 96 → (∀ c, c < 96 → ∃ t, a5 c = nI t ∧ t ≤ o') →
    Q (some (.int (nI (zcs f 96)))) (WX (zu (zu (zu (zu α 0 (zsv (α 0) k h n)) 5 a5) 4 a4) 3 f) (zu ν 2 (nI o')) r))
theorem nI_le_of {m : Int32} {b : Nat} (hb : b < 2 ^ 31) (h1 : ¬ m < nI 1) (h2 : ¬ nI b < m) : ∃ n, m = nI n ∧ n ≤ b := by
  have h0 : ¬ m < 0 := fun h => h1 (by
    have a := Int32.lt_iff_toInt_lt.mp h
    apply Int32.lt_iff_toInt_lt.mpr
    rw [nI_toInt (by decide)]
    have e : (0 : Int32).toInt = 0 := by decide
    omega)
  obtain ⟨n, hn, rfl⟩ := nI_of h0
  refine ⟨n, rfl, ?_⟩
  apply Classical.byContradiction
  intro h
  exact h2 (nI_lt (by omega) hn)
def pg_X4_sweep : List zE := [(0, .iload_n 1, 1, []), (1, .invokestatic 48, 3, []), (4, .iload_n 2, 1, []), (5, .iconst 1, 1, [1]), (6, .bipush 12, 2, [12]), (8, .iload_n 1, 1, []), (9, .invokestatic 66, 3, []), (12, .isub, 1, []), (13, .invokestatic 69, 3, []), (16, .iload_n 3, 1, []), (17, .invokestatic 52, 3, []), (20, .iconst 0, 1, [0]), (21, .istore 4, 2, []), (23, .iload 4, 2, []), (25, .iload_n 2, 1, []), (26, .if_icmp .ge 21, 3, [47]), (29, .aload_n 0, 1, []), (30, .getfield 12, 3, []), (33, .iload_n 1, 1, []), (34, .iload 4, 2, []), (36, .iadd, 1, []), (37, .iload_n 3, 1, []), (38, .invokevirtual 59, 3, []), (41, .iinc 4 1, 3, [1]), (44, .goto (-21), 3, [23]), (47, .aload_n 0, 1, []), (48, .getfield 12, 3, []), (51, .invokevirtual 63, 3, []), (54, .aload_n 0, 1, []), (55, .getfield 12, 3, []), (58, .invokevirtual 73, 3, []), (61, .ireturn, 1, [])]
theorem hp_X4_sweep : ∀ q ∈ pg_X4_sweep, decode cX4_sweep q.1 = .ok (q.2.1, q.2.2.1) ∧ ztg q.2.1 q.1 q.2.2.1 q.2.2.2 = true := zpg_of (by decide +kernel)
def cs_X4_sweep : List (Nat × zCall) := [(48, 1, 1, none, 1, 6, false, sp_X4_requireCell), (66, 1, 1, none, 0, 0, false, sp_X4_columnOf), (69, 1, 3, none, 1, 6, false, sp_X4_requireWithin), (52, 1, 1, none, 1, 6, false, sp_X4_requireHeight), (59, 0, 3, some 1, 0, 0, false, sp_X0_setHeight), (63, 0, 1, some 1, 0, 0, false, sp_X0_joinShapes), (73, 0, 1, some 1, 0, 0, false, sp_X0_countShapes)]
theorem hcs_X4_sweep {l : Launch} (hl0 : l.stackTraces = false) : ∀ q ∈ cs_X4_sweep, zCallable l RX4 5 q := List.forall_mem_cons.mpr ⟨zcS (ps := [190, 191, 14, 192]) (c_X4_requireCell hl0) (by decide +kernel) ⟨by decide +kernel, by decide +kernel, by decide +kernel⟩ (by decide) (by decide), List.forall_mem_cons.mpr ⟨zcS (ps := [317, 307, 14, 308]) (c_X4_columnOf hl0) (by decide +kernel) ⟨by decide +kernel, by decide +kernel, by decide +kernel⟩ (by decide) (by decide), List.forall_mem_cons.mpr ⟨zcS (ps := [266, 267, 14, 268]) (c_X4_requireWithin hl0) (by decide +kernel) ⟨by decide +kernel, by decide +kernel, by decide +kernel⟩ (by decide) (by decide), List.forall_mem_cons.mpr ⟨zcS (ps := [263, 264, 14, 265]) (c_X4_requireHeight hl0) (by decide +kernel) ⟨by decide +kernel, by decide +kernel, by decide +kernel⟩ (by decide) (by decide), List.forall_mem_cons.mpr ⟨zcV (C := (RX0, TX0, 8)) (ps := [290, 291, 292, 15, 293]) (c_X0_setHeight hl0) (by decide +kernel) rfl ⟨rfl, by decide +kernel, by decide +kernel, by decide +kernel⟩ (by decide) (by decide), List.forall_mem_cons.mpr ⟨zcV (C := (RX0, TX0, 8)) (ps := [294, 295, 296, 15, 297]) (c_X0_joinShapes hl0) (by decide +kernel) rfl ⟨rfl, by decide +kernel, by decide +kernel, by decide +kernel⟩ (by decide) (by decide), List.forall_mem_cons.mpr ⟨zcV (C := (RX0, TX0, 8)) (ps := [318, 319, 320, 15, 321]) (c_X0_countShapes hl0) (by decide +kernel) rfl ⟨rfl, by decide +kernel, by decide +kernel, by decide +kernel⟩ (by decide) (by decide), fun _ h => absurd h List.not_mem_nil⟩⟩⟩⟩⟩⟩⟩
def th_X4_sweep : List (Nat × String) := []
theorem hth_X4_sweep : ∀ q ∈ th_X4_sweep, zThrow cX4_sweep RX4 q := fun _ h => absurd h List.not_mem_nil
def kc_X4_sweep : List (Nat × Int32) := []
theorem hkc_X4_sweep : ∀ q ∈ kc_X4_sweep, Cond.constant RX4 q.1 q.2 ∈ zTs := fun _ h => absurd h List.not_mem_nil
def nw_X4_sweep : List (Nat × Nat × Nat × List Value) := []
theorem hnw_X4_sweep : ∀ q ∈ nw_X4_sweep, zNew RX4 q := fun _ h => absurd h List.not_mem_nil
set_option maxHeartbeats 4000000 in
set_option maxRecDepth 20000 in
theorem c_X4_sweep {l : Launch} (hl0 : l.stackTraces = false) : CT l yX4_sweep (.code yX4_sweep cX4_sweep 5 (some .int)) 5 3 18 false sp_X4_sweep := by
  refine zCT_of hl0 (own := RX4) fl_RX4 cs_X4_sweep nw_X4_sweep th_X4_sweep kc_X4_sweep (fun _ => []) false pg_X4_sweep rfl (by decide +kernel) hp_X4_sweep ⟨_, _, rfl, rfl⟩ hfl_RX4 (fun h => nomatch h) (hcs_X4_sweep hl0) hnw_X4_sweep hth_X4_sweep (fun _ _ h => absurd h List.not_mem_nil) hkc_X4_sweep (fun args w Q X v0 hv0 h => ?_)
  obtain ⟨α, ν, r, o, x, m, h, ⟨ho, hν, h5⟩, rfl, rfl, h1, h2⟩ := h
  by_cases hc : vp_in x 96
  · obtain ⟨k, hk, rfl⟩ := vp_in_of hc (by decide)
    obtain ⟨h3, h4⟩ := h2 k hk rfl
    refine ⟨Nat.le_of_ble_eq_true rfl, 60, [(23, fun ms L S w' cu su => ∃ n i, zsub [(0, .ref 0), (1, .int (nI k)), (2, .int m), (3, .int h), (4, .int (nI i))] L ∧ S = [] ∧ w' = WX (zu α 0 (zsv (α 0) k h i)) ν r ∧ m = nI n ∧ n ≤ 12 - k % 12 ∧ i ≤ n ∧ ¬ m < nI 1 ∧ ¬ nI (12 - k % 12) < m ∧ ¬ h < nI 0 ∧ ¬ nI 9 < h ∧ ms = 12 - i ∧ cu = 3 ∧ su = 18)], ?_, zone ?_⟩
    · (conv => whnf)
      refine ⟨_, rfl, fun _ => ?_, fun c => absurd hc c⟩
      (conv => whnf)
      refine ⟨k, hk, rfl, ?_⟩
      (conv => whnf)
      refine ⟨m, nI 1, nI (12 - k % 12), by rw [← pk_sub (show k % 12 ≤ 12 by omega)]; rfl, fun a b => ?_, fun a => ?_⟩
      · obtain ⟨n, hn1, hn2⟩ := nI_le_of (by omega) a b
        (conv => whnf)
        refine ⟨_, rfl, fun a' b' => ?_, fun a' => ?_⟩
        · (conv => whnf)
          refine ⟨12, n, 0, ⟨rfl, rfl, rfl, rfl, rfl, trivial⟩, rfl, ?_, hn1, hn2, Nat.zero_le _, a, b, a', b', rfl, rfl, rfl⟩
          rw [zsv_0]
          rfl
        · (conv => whnf)
          exact h3 (Or.inr a')
      · (conv => whnf)
        exact h3 (Or.inl a)
    · rintro ms L S w' cu su ⟨n, i, hL, rfl, rfl, hm, hn, hi, a, b, a', b', rfl, rfl, rfl⟩
      refine ⟨_, hL, ?_⟩
      subst hm
      (conv => whnf)
      refine And.intro (fun c => ?_) (fun c => ?_)
      · have hlt : i < n := (nI_ltI (by omega) (by omega)).mp c
        (conv => whnf)
        refine ⟨zu α 0 (zsv (α 0) k h i), ν, r, k + i, h, by omega, by rw [← nI_add], rfl, ?_⟩
        (conv => whnf)
        refine ⟨12 - (i + 1), by omega, n, i + 1, ⟨rfl, rfl, rfl, rfl, zi1 rfl, trivial⟩, rfl, ?_, rfl, hn, hlt, a, b, a', b', rfl, rfl, rfl⟩
        have e : zu (zu α 0 (zsv (α 0) k h i)) 0 (upd (zu α 0 (zsv (α 0) k h i) 0) (k + i) h) = zu (zu α 0 (zsv (α 0) k h i)) 0 (zsv (α 0) k h (i + 1)) := by rw [← zsv_s]; rfl
        rw [e]
        rfl
      · have hge : i = n := by
          have : ¬ i < n := fun h => c (nI_lt h (by omega))
          omega
        subst hge
        (conv => whnf)
        refine ⟨zu α 0 (zsv (α 0) k h i), ν, r, o, ho, hν, h5, rfl, rfl, fun f a4 a5 o' q1 q2 q3 => ?_⟩
        (conv => whnf)
        refine ⟨_, _, _, rfl, rfl, ?_⟩
        (conv => whnf)
        exact h4 i rfl hn a b a' b' f a4 a5 o' q1 q2 q3
  · refine ⟨Nat.le_of_ble_eq_true rfl, 20, [], ?_, fun q hq => absurd hq List.not_mem_nil⟩
    (conv => whnf)
    refine ⟨_, rfl, fun c => absurd c hc, fun c => ?_⟩
    (conv => whnf)
    exact h1 c
def sp_X4_shapes : zSpec := fun args w Q _ => ∃ α ν r, args = [.ref 0] ∧ w = WX α ν r ∧ Q (some (.int (nI (zcs (α 3) 96)))) (WX α ν r)
def pg_X4_shapes : List zE := [(0, .aload_n 0, 1, []), (1, .getfield 12, 3, []), (4, .invokevirtual 73, 3, []), (7, .ireturn, 1, [])]
theorem hp_X4_shapes : ∀ q ∈ pg_X4_shapes, decode cX4_shapes q.1 = .ok (q.2.1, q.2.2.1) ∧ ztg q.2.1 q.1 q.2.2.1 q.2.2.2 = true := zpg_of (by decide +kernel)
def cs_X4_shapes : List (Nat × zCall) := [(73, 0, 1, some 1, 0, 0, false, sp_X0_countShapes)]
theorem hcs_X4_shapes {l : Launch} (hl0 : l.stackTraces = false) : ∀ q ∈ cs_X4_shapes, zCallable l RX4 2 q := List.forall_mem_cons.mpr ⟨zcV (C := (RX0, TX0, 8)) (ps := [318, 319, 320, 15, 321]) (c_X0_countShapes hl0) (by decide +kernel) rfl ⟨rfl, by decide +kernel, by decide +kernel, by decide +kernel⟩ (by decide) (by decide), fun _ h => absurd h List.not_mem_nil⟩
def th_X4_shapes : List (Nat × String) := []
theorem hth_X4_shapes : ∀ q ∈ th_X4_shapes, zThrow cX4_shapes RX4 q := fun _ h => absurd h List.not_mem_nil
def kc_X4_shapes : List (Nat × Int32) := []
theorem hkc_X4_shapes : ∀ q ∈ kc_X4_shapes, Cond.constant RX4 q.1 q.2 ∈ zTs := fun _ h => absurd h List.not_mem_nil
def nw_X4_shapes : List (Nat × Nat × Nat × List Value) := []
theorem hnw_X4_shapes : ∀ q ∈ nw_X4_shapes, zNew RX4 q := fun _ h => absurd h List.not_mem_nil
set_option maxHeartbeats 4000000 in
set_option maxRecDepth 20000 in
theorem c_X4_shapes {l : Launch} (hl0 : l.stackTraces = false) : CT l yX4_shapes (.code yX4_shapes cX4_shapes 1 (some .int)) 2 0 0 false sp_X4_shapes := by
  refine zCT_of hl0 (own := RX4) fl_RX4 cs_X4_shapes nw_X4_shapes th_X4_shapes kc_X4_shapes (fun _ => []) false pg_X4_shapes rfl (by decide +kernel) hp_X4_shapes ⟨_, _, rfl, rfl⟩ hfl_RX4 (fun h => nomatch h) (hcs_X4_shapes hl0) hnw_X4_shapes hth_X4_shapes (fun _ _ h => absurd h List.not_mem_nil) hkc_X4_shapes (fun args w Q X v0 hv0 h => ?_)
  obtain ⟨α, ν, r, rfl, rfl, hQ⟩ := h
  refine ⟨Nat.le_of_ble_eq_true rfl, 20, [], ?_, fun q hq => absurd hq List.not_mem_nil⟩
  (conv => whnf)
  refine ⟨α, ν, r, rfl, rfl, ?_⟩
  (conv => whnf)
  exact hQ
/-- a call that asks of a cell -/
def zAsk (g : (Nat → Nat → Int32) → Nat → Int32) : zSpec := fun args w Q X => ∃ α ν r x, args = [.ref 0, .int x] ∧ w = WX α ν r ∧ (¬ vp_in x 96 → X zIOO (WX α ν r)) ∧ ∀ k, k < 96 → x = nI k → Q (some (.int (g α k))) (WX α ν r)
def sp_X4_shapeOf : zSpec := zAsk (fun α k => α 3 k)
def pg_X4_shapeOf : List zE := [(0, .iload_n 1, 1, []), (1, .invokestatic 48, 3, []), (4, .aload_n 0, 1, []), (5, .getfield 12, 3, []), (8, .iload_n 1, 1, []), (9, .invokevirtual 77, 3, []), (12, .ireturn, 1, [])]
theorem hp_X4_shapeOf : ∀ q ∈ pg_X4_shapeOf, decode cX4_shapeOf q.1 = .ok (q.2.1, q.2.2.1) ∧ ztg q.2.1 q.1 q.2.2.1 q.2.2.2 = true := zpg_of (by decide +kernel)
def cs_X4_shapeOf : List (Nat × zCall) := [(48, 1, 1, none, 1, 6, false, sp_X4_requireCell), (77, 0, 2, some 1, 0, 0, false, sp_X0_shapeAt)]
theorem hcs_X4_shapeOf {l : Launch} (hl0 : l.stackTraces = false) : ∀ q ∈ cs_X4_shapeOf, zCallable l RX4 3 q := List.forall_mem_cons.mpr ⟨zcS (ps := [190, 191, 14, 192]) (c_X4_requireCell hl0) (by decide +kernel) ⟨by decide +kernel, by decide +kernel, by decide +kernel⟩ (by decide) (by decide), List.forall_mem_cons.mpr ⟨zcV (C := (RX0, TX0, 8)) (ps := [330, 331, 332, 15, 333]) (c_X0_shapeAt hl0) (by decide +kernel) rfl ⟨rfl, by decide +kernel, by decide +kernel, by decide +kernel⟩ (by decide) (by decide), fun _ h => absurd h List.not_mem_nil⟩⟩
def th_X4_shapeOf : List (Nat × String) := []
theorem hth_X4_shapeOf : ∀ q ∈ th_X4_shapeOf, zThrow cX4_shapeOf RX4 q := fun _ h => absurd h List.not_mem_nil
def kc_X4_shapeOf : List (Nat × Int32) := []
theorem hkc_X4_shapeOf : ∀ q ∈ kc_X4_shapeOf, Cond.constant RX4 q.1 q.2 ∈ zTs := fun _ h => absurd h List.not_mem_nil
def nw_X4_shapeOf : List (Nat × Nat × Nat × List Value) := []
theorem hnw_X4_shapeOf : ∀ q ∈ nw_X4_shapeOf, zNew RX4 q := fun _ h => absurd h List.not_mem_nil
set_option maxHeartbeats 4000000 in
set_option maxRecDepth 20000 in
theorem c_X4_shapeOf {l : Launch} (hl0 : l.stackTraces = false) : CT l yX4_shapeOf (.code yX4_shapeOf cX4_shapeOf 2 (some .int)) 3 1 6 false sp_X4_shapeOf := by
  refine zCT_of hl0 (own := RX4) fl_RX4 cs_X4_shapeOf nw_X4_shapeOf th_X4_shapeOf kc_X4_shapeOf (fun _ => []) false pg_X4_shapeOf rfl (by decide +kernel) hp_X4_shapeOf ⟨_, _, rfl, rfl⟩ hfl_RX4 (fun h => nomatch h) (hcs_X4_shapeOf hl0) hnw_X4_shapeOf hth_X4_shapeOf (fun _ _ h => absurd h List.not_mem_nil) hkc_X4_shapeOf (fun args w Q X v0 hv0 h => ?_)
  obtain ⟨α, ν, r, x, rfl, rfl, h1, h2⟩ := h
  refine ⟨Nat.le_of_ble_eq_true rfl, 20, [], ?_, fun q hq => absurd hq List.not_mem_nil⟩
  (conv => whnf)
  refine ⟨_, rfl, fun c => ?_, fun c => ?_⟩
  · obtain ⟨k, hk, rfl⟩ := vp_in_of c (by decide)
    (conv => whnf)
    refine ⟨α, ν, r, k, hk, rfl, rfl, ?_⟩
    (conv => whnf)
    exact h2 k hk rfl
  · (conv => whnf)
    exact h1 c
def sp_X4_size : zSpec := zAsk (fun α k => nI (zcnt (α 3) (α 3 k) 96))
def pg_X4_size : List zE := [(0, .iload_n 1, 1, []), (1, .invokestatic 48, 3, []), (4, .aload_n 0, 1, []), (5, .getfield 12, 3, []), (8, .aload_n 0, 1, []), (9, .getfield 12, 3, []), (12, .iload_n 1, 1, []), (13, .invokevirtual 77, 3, []), (16, .invokevirtual 80, 3, []), (19, .ireturn, 1, [])]
theorem hp_X4_size : ∀ q ∈ pg_X4_size, decode cX4_size q.1 = .ok (q.2.1, q.2.2.1) ∧ ztg q.2.1 q.1 q.2.2.1 q.2.2.2 = true := zpg_of (by decide +kernel)
def cs_X4_size : List (Nat × zCall) := [(48, 1, 1, none, 1, 6, false, sp_X4_requireCell), (77, 0, 2, some 1, 0, 0, false, sp_X0_shapeAt), (80, 0, 2, some 1, 0, 0, false, sp_X0_countCells)]
theorem hcs_X4_size {l : Launch} (hl0 : l.stackTraces = false) : ∀ q ∈ cs_X4_size, zCallable l RX4 4 q := List.forall_mem_cons.mpr ⟨zcS (ps := [190, 191, 14, 192]) (c_X4_requireCell hl0) (by decide +kernel) ⟨by decide +kernel, by decide +kernel, by decide +kernel⟩ (by decide) (by decide), List.forall_mem_cons.mpr ⟨zcV (C := (RX0, TX0, 8)) (ps := [330, 331, 332, 15, 333]) (c_X0_shapeAt hl0) (by decide +kernel) rfl ⟨rfl, by decide +kernel, by decide +kernel, by decide +kernel⟩ (by decide) (by decide), List.forall_mem_cons.mpr ⟨zcV (C := (RX0, TX0, 8)) (ps := [622, 623, 624, 15, 625]) (c_X0_countCells hl0) (by decide +kernel) rfl ⟨rfl, by decide +kernel, by decide +kernel, by decide +kernel⟩ (by decide) (by decide), fun _ h => absurd h List.not_mem_nil⟩⟩⟩
def th_X4_size : List (Nat × String) := []
theorem hth_X4_size : ∀ q ∈ th_X4_size, zThrow cX4_size RX4 q := fun _ h => absurd h List.not_mem_nil
def kc_X4_size : List (Nat × Int32) := []
theorem hkc_X4_size : ∀ q ∈ kc_X4_size, Cond.constant RX4 q.1 q.2 ∈ zTs := fun _ h => absurd h List.not_mem_nil
def nw_X4_size : List (Nat × Nat × Nat × List Value) := []
theorem hnw_X4_size : ∀ q ∈ nw_X4_size, zNew RX4 q := fun _ h => absurd h List.not_mem_nil
set_option maxHeartbeats 4000000 in
set_option maxRecDepth 20000 in
theorem c_X4_size {l : Launch} (hl0 : l.stackTraces = false) : CT l yX4_size (.code yX4_size cX4_size 2 (some .int)) 4 1 6 false sp_X4_size := by
  refine zCT_of hl0 (own := RX4) fl_RX4 cs_X4_size nw_X4_size th_X4_size kc_X4_size (fun _ => []) false pg_X4_size rfl (by decide +kernel) hp_X4_size ⟨_, _, rfl, rfl⟩ hfl_RX4 (fun h => nomatch h) (hcs_X4_size hl0) hnw_X4_size hth_X4_size (fun _ _ h => absurd h List.not_mem_nil) hkc_X4_size (fun args w Q X v0 hv0 h => ?_)
  obtain ⟨α, ν, r, x, rfl, rfl, h1, h2⟩ := h
  refine ⟨Nat.le_of_ble_eq_true rfl, 20, [], ?_, fun q hq => absurd hq List.not_mem_nil⟩
  (conv => whnf)
  refine ⟨_, rfl, fun c => ?_, fun c => ?_⟩
  · obtain ⟨k, hk, rfl⟩ := vp_in_of c (by decide)
    (conv => whnf)
    refine ⟨α, ν, r, k, hk, rfl, rfl, ?_⟩
    (conv => whnf)
    refine ⟨α, ν, r, _, rfl, rfl, ?_⟩
    (conv => whnf)
    exact h2 k hk rfl
  · (conv => whnf)
    exact h1 c
def sp_X4_top : zSpec := zAsk (fun α k => zmx (α 3) (α 0) (α 3 k) 96)
def pg_X4_top : List zE := [(0, .iload_n 1, 1, []), (1, .invokestatic 48, 3, []), (4, .aload_n 0, 1, []), (5, .getfield 12, 3, []), (8, .aload_n 0, 1, []), (9, .getfield 12, 3, []), (12, .iload_n 1, 1, []), (13, .invokevirtual 77, 3, []), (16, .invokevirtual 83, 3, []), (19, .ireturn, 1, [])]
theorem hp_X4_top : ∀ q ∈ pg_X4_top, decode cX4_top q.1 = .ok (q.2.1, q.2.2.1) ∧ ztg q.2.1 q.1 q.2.2.1 q.2.2.2 = true := zpg_of (by decide +kernel)
def cs_X4_top : List (Nat × zCall) := [(48, 1, 1, none, 1, 6, false, sp_X4_requireCell), (77, 0, 2, some 1, 0, 0, false, sp_X0_shapeAt), (83, 0, 2, some 1, 0, 0, false, sp_X0_greatestHeight)]
theorem hcs_X4_top {l : Launch} (hl0 : l.stackTraces = false) : ∀ q ∈ cs_X4_top, zCallable l RX4 4 q := List.forall_mem_cons.mpr ⟨zcS (ps := [190, 191, 14, 192]) (c_X4_requireCell hl0) (by decide +kernel) ⟨by decide +kernel, by decide +kernel, by decide +kernel⟩ (by decide) (by decide), List.forall_mem_cons.mpr ⟨zcV (C := (RX0, TX0, 8)) (ps := [330, 331, 332, 15, 333]) (c_X0_shapeAt hl0) (by decide +kernel) rfl ⟨rfl, by decide +kernel, by decide +kernel, by decide +kernel⟩ (by decide) (by decide), List.forall_mem_cons.mpr ⟨zcV (C := (RX0, TX0, 8)) (ps := [630, 631, 632, 15, 633]) (c_X0_greatestHeight hl0) (by decide +kernel) rfl ⟨rfl, by decide +kernel, by decide +kernel, by decide +kernel⟩ (by decide) (by decide), fun _ h => absurd h List.not_mem_nil⟩⟩⟩
def th_X4_top : List (Nat × String) := []
theorem hth_X4_top : ∀ q ∈ th_X4_top, zThrow cX4_top RX4 q := fun _ h => absurd h List.not_mem_nil
def kc_X4_top : List (Nat × Int32) := []
theorem hkc_X4_top : ∀ q ∈ kc_X4_top, Cond.constant RX4 q.1 q.2 ∈ zTs := fun _ h => absurd h List.not_mem_nil
def nw_X4_top : List (Nat × Nat × Nat × List Value) := []
theorem hnw_X4_top : ∀ q ∈ nw_X4_top, zNew RX4 q := fun _ h => absurd h List.not_mem_nil
set_option maxHeartbeats 4000000 in
set_option maxRecDepth 20000 in
theorem c_X4_top {l : Launch} (hl0 : l.stackTraces = false) : CT l yX4_top (.code yX4_top cX4_top 2 (some .int)) 4 1 6 false sp_X4_top := by
  refine zCT_of hl0 (own := RX4) fl_RX4 cs_X4_top nw_X4_top th_X4_top kc_X4_top (fun _ => []) false pg_X4_top rfl (by decide +kernel) hp_X4_top ⟨_, _, rfl, rfl⟩ hfl_RX4 (fun h => nomatch h) (hcs_X4_top hl0) hnw_X4_top hth_X4_top (fun _ _ h => absurd h List.not_mem_nil) hkc_X4_top (fun args w Q X v0 hv0 h => ?_)
  obtain ⟨α, ν, r, x, rfl, rfl, h1, h2⟩ := h
  refine ⟨Nat.le_of_ble_eq_true rfl, 20, [], ?_, fun q hq => absurd hq List.not_mem_nil⟩
  (conv => whnf)
  refine ⟨_, rfl, fun c => ?_, fun c => ?_⟩
  · obtain ⟨k, hk, rfl⟩ := vp_in_of c (by decide)
    (conv => whnf)
    refine ⟨α, ν, r, k, hk, rfl, rfl, ?_⟩
    (conv => whnf)
    refine ⟨α, ν, r, _, rfl, rfl, ?_⟩
    (conv => whnf)
    exact h2 k hk rfl
  · (conv => whnf)
    exact h1 c
def sp_X4_nameOf : zSpec := zAsk (fun α k => zNm α (α 3 k))
def pg_X4_nameOf : List zE := [(0, .iload_n 1, 1, []), (1, .invokestatic 48, 3, []), (4, .aload_n 0, 1, []), (5, .getfield 12, 3, []), (8, .aload_n 0, 1, []), (9, .getfield 12, 3, []), (12, .iload_n 1, 1, []), (13, .invokevirtual 77, 3, []), (16, .invokevirtual 86, 3, []), (19, .ireturn, 1, [])]
theorem hp_X4_nameOf : ∀ q ∈ pg_X4_nameOf, decode cX4_nameOf q.1 = .ok (q.2.1, q.2.2.1) ∧ ztg q.2.1 q.1 q.2.2.1 q.2.2.2 = true := zpg_of (by decide +kernel)
def cs_X4_nameOf : List (Nat × zCall) := [(48, 1, 1, none, 1, 6, false, sp_X4_requireCell), (77, 0, 2, some 1, 0, 0, false, sp_X0_shapeAt), (86, 0, 2, some 1, 0, 0, false, sp_X0_nameOfShape)]
theorem hcs_X4_nameOf {l : Launch} (hl0 : l.stackTraces = false) : ∀ q ∈ cs_X4_nameOf, zCallable l RX4 4 q := List.forall_mem_cons.mpr ⟨zcS (ps := [190, 191, 14, 192]) (c_X4_requireCell hl0) (by decide +kernel) ⟨by decide +kernel, by decide +kernel, by decide +kernel⟩ (by decide) (by decide), List.forall_mem_cons.mpr ⟨zcV (C := (RX0, TX0, 8)) (ps := [330, 331, 332, 15, 333]) (c_X0_shapeAt hl0) (by decide +kernel) rfl ⟨rfl, by decide +kernel, by decide +kernel, by decide +kernel⟩ (by decide) (by decide), List.forall_mem_cons.mpr ⟨zcV (C := (RX0, TX0, 8)) (ps := [338, 339, 340, 15, 341]) (c_X0_nameOfShape hl0) (by decide +kernel) rfl ⟨rfl, by decide +kernel, by decide +kernel, by decide +kernel⟩ (by decide) (by decide), fun _ h => absurd h List.not_mem_nil⟩⟩⟩
def th_X4_nameOf : List (Nat × String) := []
theorem hth_X4_nameOf : ∀ q ∈ th_X4_nameOf, zThrow cX4_nameOf RX4 q := fun _ h => absurd h List.not_mem_nil
def kc_X4_nameOf : List (Nat × Int32) := []
theorem hkc_X4_nameOf : ∀ q ∈ kc_X4_nameOf, Cond.constant RX4 q.1 q.2 ∈ zTs := fun _ h => absurd h List.not_mem_nil
def nw_X4_nameOf : List (Nat × Nat × Nat × List Value) := []
theorem hnw_X4_nameOf : ∀ q ∈ nw_X4_nameOf, zNew RX4 q := fun _ h => absurd h List.not_mem_nil
set_option maxHeartbeats 4000000 in
set_option maxRecDepth 20000 in
theorem c_X4_nameOf {l : Launch} (hl0 : l.stackTraces = false) : CT l yX4_nameOf (.code yX4_nameOf cX4_nameOf 2 (some .int)) 4 1 6 false sp_X4_nameOf := by
  refine zCT_of hl0 (own := RX4) fl_RX4 cs_X4_nameOf nw_X4_nameOf th_X4_nameOf kc_X4_nameOf (fun _ => []) false pg_X4_nameOf rfl (by decide +kernel) hp_X4_nameOf ⟨_, _, rfl, rfl⟩ hfl_RX4 (fun h => nomatch h) (hcs_X4_nameOf hl0) hnw_X4_nameOf hth_X4_nameOf (fun _ _ h => absurd h List.not_mem_nil) hkc_X4_nameOf (fun args w Q X v0 hv0 h => ?_)
  obtain ⟨α, ν, r, x, rfl, rfl, h1, h2⟩ := h
  refine ⟨Nat.le_of_ble_eq_true rfl, 20, [], ?_, fun q hq => absurd hq List.not_mem_nil⟩
  (conv => whnf)
  refine ⟨_, rfl, fun c => ?_, fun c => ?_⟩
  · obtain ⟨k, hk, rfl⟩ := vp_in_of c (by decide)
    (conv => whnf)
    refine ⟨α, ν, r, k, hk, rfl, rfl, ?_⟩
    (conv => whnf)
    refine ⟨α, ν, r, _, rfl, rfl, ?_⟩
    (conv => whnf)
    exact h2 k hk rfl
  · (conv => whnf)
    exact h1 c
/-- a sign of a title -/
def zTat (T : List Nat) (p : Int32) : Int32 := if p < nI T.length then nI (T.getD p.toNatClampNeg 0) else -1
def zTt (α : Nat → Nat → Int32) (s : Nat) (fd : Option Nat) : List Nat := zTtl (zNm α (nI s)) s (zcnt (α 3) (nI s) 96) fd
/-- who finds shape s: claim x, finder fd -/
def zFd (α : Nat → Nat → Int32) (ν : Nat → Int32) (c : Nat) (s : Int32) (fd : Option Nat) : Prop := ∃ x, zHR α ν c s x ∧ ((x = -1 ∧ fd = none) ∨ ∃ j f, j < c ∧ f < 6 ∧ x = nI j ∧ α 8 j = nI f ∧ fd = some f)
theorem zdg_b {n : Nat} (hn : n < 100) : ∀ x ∈ zdg n, x < 128 := by
  intro x hx
  unfold zdg at hx
  split at hx
  · have : x = 48 + n := by simpa using hx
    omega
  · have : x = 48 + n / 10 ∨ x = 48 + n % 10 := by simpa using hx
    omega
theorem zTtl_b {name : Int32} {s z : Nat} {fd : Option Nat} (hs : s < 100) (hz : z < 100) (hf : ∀ f, fd = some f → f < 6) : ∀ x ∈ zTtl name s z fd, x < 128 := by
  intro x hx
  unfold zTtl at hx
  simp only [List.mem_append, List.mem_singleton] at hx
  rcases hx with (((rfl | hx) | rfl) | hx) | hx
  · exact zsg_lt name
  · exact zdg_b hs x hx
  · decide
  · exact zdg_b hz x hx
  · cases fd with
    | none => cases hx
    | some f =>
      simp only [List.mem_append, List.mem_singleton] at hx
      rcases hx with rfl | hx
      · decide
      · exact zdg_b (by have := hf f rfl; omega) x hx
theorem zTtl_l {name : Int32} {s z : Nat} {fd : Option Nat} (hf : ∀ f, fd = some f → f < 6) : (zTtl name s z fd).length ≤ 8 := by
  cases fd with
  | none => have := (zTtl_len name s z 0 (by decide)).2; omega
  | some f => exact (zTtl_len name s z f (by have := hf f rfl; omega)).1
def sp_X4_titleAt : zSpec := fun args w Q X => ∃ α ν r c q x p, zCk α ν c ∧ (∀ j, j < c → ∃ f, f < 6 ∧ α 8 j = nI f) ∧ q ≤ 16 ∧ ν 6 = nI q ∧ zLow (α 0) (α 3) ∧ args = [.ref 0, .int x, .int p] ∧ w = WX α ν r ∧ (¬ vp_in x 96 ∨ p < 0 → X zIOO (WX α ν r)) ∧
  ∀ k, k < 96 → x = nI k → ¬ p < 0 → (α 3 k = -1 → Q (some (.int (-1))) (WX α ν r)) ∧
    ∀ s fd y, s < 96 → α 3 k = nI s → zFd α ν c (nI s) fd → Q (some (.int (zTat (zTt α s fd) p))) (WX (zu α 14 (zwr (α 14) 0 (zTt α s fd))) (zu (zu ν 7 y) 6 (nI (zTt α s fd).length)) r)
theorem zLow_v {h f : Nat → Int32} (q : zLow h f) {k : Nat} (hk : k < 96) : f k = -1 ∨ ∃ s, s < 96 ∧ f k = nI s := by
  rcases q k hk with ⟨_, e⟩ | ⟨_, j, e, g, _⟩
  · exact Or.inl e
  · exact Or.inr ⟨j, (zcon_beg g).1, e⟩
def pg_X4_titleAt : List zE := [(0, .iload_n 1, 1, []), (1, .invokestatic 48, 3, []), (4, .iload_n 2, 1, []), (5, .ifCond .ge 13, 3, [18]), (8, .new 89, 3, []), (18, .aload_n 0, 1, []), (19, .getfield 12, 3, []), (22, .iload_n 1, 1, []), (23, .invokevirtual 77, 3, []), (26, .istore_n 3, 1, []), (27, .iload_n 3, 1, []), (28, .iconst (-1), 1, []), (29, .if_icmp .ne 5, 3, [34]), (32, .iconst (-1), 1, []), (33, .ireturn, 1, []), (34, .aload_n 0, 1, []), (35, .iload_n 3, 1, []), (36, .invokevirtual 96, 3, []), (39, .iload_n 2, 1, []), (40, .aload_n 0, 1, []), (41, .getfield 40, 3, []), (44, .invokevirtual 99, 3, []), (47, .if_icmp .lt 5, 3, [52]), (50, .iconst (-1), 1, []), (51, .ireturn, 1, []), (52, .aload_n 0, 1, []), (53, .getfield 40, 3, []), (56, .iload_n 2, 1, []), (57, .invokevirtual 102, 3, []), (60, .ireturn, 1, [])]
theorem hp_X4_titleAt : ∀ q ∈ pg_X4_titleAt, decode cX4_titleAt q.1 = .ok (q.2.1, q.2.2.1) ∧ ztg q.2.1 q.1 q.2.2.1 q.2.2.2 = true := zpg_of (by decide +kernel)
def cs_X4_titleAt : List (Nat × zCall) := [(48, 1, 1, none, 1, 6, false, sp_X4_requireCell), (77, 0, 2, some 1, 0, 0, false, sp_X0_shapeAt), (96, 0, 2, some 5, 0, 0, false, sp_X4_writeTitle), (99, 0, 1, some 0, 0, 0, false, sp_J4_length_8abf5), (102, 0, 2, some 0, 0, 0, false, sp_J4_charAt_5068e)]
theorem hcs_X4_titleAt {l : Launch} (hl0 : l.stackTraces = false) : ∀ q ∈ cs_X4_titleAt, zCallable l RX4 7 q := List.forall_mem_cons.mpr ⟨zcS (ps := [190, 191, 14, 192]) (c_X4_requireCell hl0) (by decide +kernel) ⟨by decide +kernel, by decide +kernel, by decide +kernel⟩ (by decide) (by decide), List.forall_mem_cons.mpr ⟨zcV (C := (RX0, TX0, 8)) (ps := [330, 331, 332, 15, 333]) (c_X0_shapeAt hl0) (by decide +kernel) rfl ⟨rfl, by decide +kernel, by decide +kernel, by decide +kernel⟩ (by decide) (by decide), List.forall_mem_cons.mpr ⟨zcV (C := (RX4, TX4, 6)) (ps := [640, 642, 12, 14, 643]) (c_X4_writeTitle hl0) (by decide +kernel) rfl ⟨rfl, by decide +kernel, by decide +kernel, by decide +kernel⟩ (by decide) (by decide), List.forall_mem_cons.mpr ⟨zcV (C := (RJ4, TJ4, 4)) (ps := [794, 795, 796, 21, 797]) (c_J4_length_8abf5 hl0) (by decide +kernel) rfl ⟨rfl, by decide +kernel, by decide +kernel, by decide +kernel⟩ (by decide) (by decide), List.forall_mem_cons.mpr ⟨zcV (C := (RJ4, TJ4, 4)) (ps := [801, 802, 803, 21, 804]) (c_J4_charAt_5068e hl0) (by decide +kernel) rfl ⟨rfl, by decide +kernel, by decide +kernel, by decide +kernel⟩ (by decide) (by decide), fun _ h => absurd h List.not_mem_nil⟩⟩⟩⟩⟩
def th_X4_titleAt : List (Nat × String) := [(8, "java/lang/IndexOutOfBoundsException")]
theorem hth_X4_titleAt : ∀ q ∈ th_X4_titleAt, zThrow cX4_titleAt RX4 q := List.forall_mem_cons.mpr ⟨⟨"no such place", 89, 91, 93, [196, 27], by decide +kernel, by decide +kernel, by decide +kernel, thw_RX4_93, by decide +kernel, by decide +kernel, Or.inl ⟨by decide +kernel, by decide +kernel, by decide +kernel⟩⟩, fun _ h => absurd h List.not_mem_nil⟩
def kc_X4_titleAt : List (Nat × Int32) := []
theorem hkc_X4_titleAt : ∀ q ∈ kc_X4_titleAt, Cond.constant RX4 q.1 q.2 ∈ zTs := fun _ h => absurd h List.not_mem_nil
def nw_X4_titleAt : List (Nat × Nat × Nat × List Value) := []
theorem hnw_X4_titleAt : ∀ q ∈ nw_X4_titleAt, zNew RX4 q := fun _ h => absurd h List.not_mem_nil
set_option maxHeartbeats 4000000 in
set_option maxRecDepth 20000 in
theorem c_X4_titleAt {l : Launch} (hl0 : l.stackTraces = false) : CT l yX4_titleAt (.code yX4_titleAt cX4_titleAt 4 (some .int)) 7 2 12 false sp_X4_titleAt := by
  refine zCT_of hl0 (own := RX4) fl_RX4 cs_X4_titleAt nw_X4_titleAt th_X4_titleAt kc_X4_titleAt (fun _ => []) false pg_X4_titleAt rfl (by decide +kernel) hp_X4_titleAt ⟨_, _, rfl, rfl⟩ hfl_RX4 (fun h => nomatch h) (hcs_X4_titleAt hl0) hnw_X4_titleAt hth_X4_titleAt (fun _ _ h => absurd h List.not_mem_nil) hkc_X4_titleAt (fun args w Q X v0 hv0 h => ?_)
  obtain ⟨α, ν, r, c, q, x, p, hc, hf, hq, hν, hl, rfl, rfl, h1, h2⟩ := h
  refine ⟨Nat.le_of_ble_eq_true rfl, 60, [], ?_, fun q hq => absurd hq List.not_mem_nil⟩
  (conv => whnf)
  refine ⟨_, rfl, fun cc => ?_, fun cc => ?_⟩
  · obtain ⟨k, hk, rfl⟩ := vp_in_of cc (by decide)
    (conv => whnf)
    refine And.intro (fun d => ?_) (fun d => ?_) <;> dsimp only at d
    · (conv => whnf)
      exact h1 (Or.inr d)
    · obtain ⟨h3, h4⟩ := h2 k hk rfl d
      (conv => whnf)
      refine ⟨α, ν, r, k, hk, rfl, rfl, ?_⟩
      rcases zLow_v hl hk with e | ⟨s, hs, e⟩
      · rw [e]
        (conv => whnf)
        refine And.intro (fun _ => ?_) (fun c => absurd (show _ from rfl) c)
        (conv => whnf)
        exact h3 e
      · rw [e]
        (conv => whnf)
        refine And.intro (fun c => absurd c (show ¬ _ from (nI_ne_m1 (show s < 2 ^ 31 by omega)))) (fun _ => ?_)
        (conv => whnf)
        have hz : zcnt (α 3) (nI s) 96 < 100 := by have := zcnt_le (α 3) (nI s) 96; omega
        refine ⟨α, ν, r, c, s, q, hc, hf, hq, hν, hs, hz, rfl, rfl, fun x fd y g1 g2 => ?_⟩
        have h5 := h4 s fd y hs e ⟨x, g1, g2⟩
        have hfd : ∀ f, fd = some f → f < 6 := fun f e => by
          rcases g2 with ⟨_, g⟩ | ⟨j, f', _, g, _, _, g'⟩
          · rw [g] at e; cases e
          · rw [g'] at e; cases e; exact g
        have hb := zTtl_b (name := zNm α (nI s)) (s := s) (z := zcnt (α 3) (nI s) 96) (fd := fd) (by omega) hz hfd
        have hl8 := zTtl_l (name := zNm α (nI s)) (s := s) (z := zcnt (α 3) (nI s) 96) (fd := fd) hfd
        obtain ⟨j, hj, rfl⟩ := nI_of d
        unfold zTt zTat at h5
        (conv => whnf)
        refine ⟨_, _, _, rfl, rfl, ?_⟩
        generalize zTtl (zNm α (nI s)) s (zcnt (α 3) (nI s) 96) fd = T at h5 hb hl8 ⊢
        (conv => whnf)
        refine And.intro (fun g => ?_) (fun g => ?_)
        · have hjl : j < T.length := (nI_ltI hj (by omega)).mp g
          have eg : T.getD j 0 = T[j] := by rw [List.getD_eq_getElem?_getD, List.getElem?_eq_getElem hjl]; rfl
          rw [if_pos (show nI j < nI T.length from g), nI_clamp hj, eg] at h5
          (conv => whnf)
          refine ⟨zu α 14 (zwr (α 14) 0 T), zu (zu ν 7 y) 6 (nI T.length), r, T.length, j, T[j], hjl, by omega, rfl, hb _ (List.getElem_mem hjl), ?_, rfl, rfl, ?_⟩
          · have := zwr_get T (α 14) 0 j hjl
            rw [Nat.zero_add] at this
            exact this
          · (conv => whnf)
            exact h5
        · rw [if_neg (show ¬ nI j < nI T.length from g)] at h5
          (conv => whnf)
          exact h5
  · (conv => whnf)
    exact h1 (Or.inl cc)
def sp_X4_name : zSpec := fun args w Q X => ∃ α ν r x y m n, args = [.ref 0, .int x, .int y, .int m, .int n] ∧ w = WX α ν r ∧ (¬ vp_in x 4 ∨ ¬ vp_in y 96 → X zIOO (WX α ν r)) ∧
  ∀ d k, d < 4 → k < 96 → x = nI d → y = nI k → ((m < nI 5 ∨ nI 60 < m) ∨ (n < nI 1 ∨ nI 3 < n) → X zIAE (WX α ν r)) ∧
    ∀ j, j ≤ 60 → m = nI j → ¬ m < nI 5 → ¬ nI 60 < m → ¬ n < nI 1 → ¬ nI 3 < n → (¬ zDv α ν d k j → X zISE (WX α ν r)) ∧ (zDv α ν d k j →
      Q (some (.int (znm (α 3) (upd (α 2) k (ν 1 + nI 1)) (upd (α 1) k n) (α 3 k) 96).2)) (WX (zu (zu (zu (zu α 6 (upd (α 6) d (α 6 d - nI (j * zau k)))) 7 (upd (α 7) d (ν 0 + nI j + nI (j * (10 * (k / 12 + 1)) / 20)))) 1 (upd (α 1) k n)) 2 (upd (α 2) k (ν 1 + nI 1))) (zu ν 1 (ν 1 + nI 1)) r))
theorem nI_le_of5 {m : Int32} {a b : Nat} (ha : 0 < a) (ha2 : a < 2 ^ 31) (hb : b < 2 ^ 31) (h1 : ¬ m < nI a) (h2 : ¬ nI b < m) : ∃ n, n ≤ b ∧ m = nI n := by
  have h0 : ¬ m < nI 1 := fun h => h1 (by
    have q := Int32.lt_iff_toInt_lt.mp h
    apply Int32.lt_iff_toInt_lt.mpr
    rw [nI_toInt (by decide)] at q
    rw [nI_toInt ha2]
    omega)
  obtain ⟨n, e, h⟩ := nI_le_of hb h0 h2
  exact ⟨n, h, e⟩
def pg_X4_name : List zE := [(0, .iload_n 1, 1, []), (1, .invokestatic 106, 3, []), (4, .iload_n 2, 1, []), (5, .invokestatic 48, 3, []), (8, .iload_n 3, 1, []), (9, .iconst 5, 1, [5]), (10, .bipush 60, 2, [60]), (12, .invokestatic 69, 3, []), (15, .iload 4, 2, []), (17, .iconst 1, 1, [1]), (18, .iconst 3, 1, [3]), (19, .invokestatic 69, 3, []), (22, .aload_n 0, 1, []), (23, .iload_n 1, 1, []), (24, .iload_n 2, 1, []), (25, .iload_n 3, 1, []), (26, .invokevirtual 109, 3, []), (29, .aload_n 0, 1, []), (30, .getfield 19, 3, []), (33, .iload_n 1, 1, []), (34, .iload_n 2, 1, []), (35, .iload_n 3, 1, []), (36, .aload_n 0, 1, []), (37, .getfield 44, 3, []), (40, .invokevirtual 112, 3, []), (43, .aload_n 0, 1, []), (44, .getfield 12, 3, []), (47, .iload_n 2, 1, []), (48, .iload 4, 2, []), (50, .invokevirtual 116, 3, []), (53, .aload_n 0, 1, []), (54, .getfield 12, 3, []), (57, .aload_n 0, 1, []), (58, .getfield 12, 3, []), (61, .iload_n 2, 1, []), (62, .invokevirtual 77, 3, []), (65, .invokevirtual 86, 3, []), (68, .ireturn, 1, [])]
theorem hp_X4_name : ∀ q ∈ pg_X4_name, decode cX4_name q.1 = .ok (q.2.1, q.2.2.1) ∧ ztg q.2.1 q.1 q.2.2.1 q.2.2.2 = true := zpg_of (by decide +kernel)
def cs_X4_name : List (Nat × zCall) := [(106, 1, 1, none, 1, 6, false, sp_X4_requireDiver), (48, 1, 1, none, 1, 6, false, sp_X4_requireCell), (69, 1, 3, none, 1, 6, false, sp_X4_requireWithin), (109, 0, 4, some 5, 2, 12, false, sp_X4_requireDive), (112, 0, 5, some 3, 0, 0, false, sp_X2_dive), (116, 0, 3, some 1, 0, 0, false, sp_X0_layMark), (77, 0, 2, some 1, 0, 0, false, sp_X0_shapeAt), (86, 0, 2, some 1, 0, 0, false, sp_X0_nameOfShape)]
theorem hcs_X4_name {l : Launch} (hl0 : l.stackTraces = false) : ∀ q ∈ cs_X4_name, zCallable l RX4 6 q := List.forall_mem_cons.mpr ⟨zcS (ps := [350, 351, 14, 352]) (c_X4_requireDiver hl0) (by decide +kernel) ⟨by decide +kernel, by decide +kernel, by decide +kernel⟩ (by decide) (by decide), List.forall_mem_cons.mpr ⟨zcS (ps := [190, 191, 14, 192]) (c_X4_requireCell hl0) (by decide +kernel) ⟨by decide +kernel, by decide +kernel, by decide +kernel⟩ (by decide) (by decide), List.forall_mem_cons.mpr ⟨zcS (ps := [266, 267, 14, 268]) (c_X4_requireWithin hl0) (by decide +kernel) ⟨by decide +kernel, by decide +kernel, by decide +kernel⟩ (by decide) (by decide), List.forall_mem_cons.mpr ⟨zcV (C := (RX4, TX4, 6)) (ps := [512, 514, 8, 14, 515]) (c_X4_requireDive hl0) (by decide +kernel) rfl ⟨rfl, by decide +kernel, by decide +kernel, by decide +kernel⟩ (by decide) (by decide), List.forall_mem_cons.mpr ⟨zcV (C := (RX2, TX2, 2)) (ps := [528, 529, 530, 17, 531]) (c_X2_dive hl0) (by decide +kernel) rfl ⟨rfl, by decide +kernel, by decide +kernel, by decide +kernel⟩ (by decide) (by decide), List.forall_mem_cons.mpr ⟨zcV (C := (RX0, TX0, 8)) (ps := [532, 533, 534, 15, 535]) (c_X0_layMark hl0) (by decide +kernel) rfl ⟨rfl, by decide +kernel, by decide +kernel, by decide +kernel⟩ (by decide) (by decide), List.forall_mem_cons.mpr ⟨zcV (C := (RX0, TX0, 8)) (ps := [330, 331, 332, 15, 333]) (c_X0_shapeAt hl0) (by decide +kernel) rfl ⟨rfl, by decide +kernel, by decide +kernel, by decide +kernel⟩ (by decide) (by decide), List.forall_mem_cons.mpr ⟨zcV (C := (RX0, TX0, 8)) (ps := [338, 339, 340, 15, 341]) (c_X0_nameOfShape hl0) (by decide +kernel) rfl ⟨rfl, by decide +kernel, by decide +kernel, by decide +kernel⟩ (by decide) (by decide), fun _ h => absurd h List.not_mem_nil⟩⟩⟩⟩⟩⟩⟩⟩
def th_X4_name : List (Nat × String) := []
theorem hth_X4_name : ∀ q ∈ th_X4_name, zThrow cX4_name RX4 q := fun _ h => absurd h List.not_mem_nil
def kc_X4_name : List (Nat × Int32) := []
theorem hkc_X4_name : ∀ q ∈ kc_X4_name, Cond.constant RX4 q.1 q.2 ∈ zTs := fun _ h => absurd h List.not_mem_nil
def nw_X4_name : List (Nat × Nat × Nat × List Value) := []
theorem hnw_X4_name : ∀ q ∈ nw_X4_name, zNew RX4 q := fun _ h => absurd h List.not_mem_nil
set_option maxHeartbeats 4000000 in
set_option maxRecDepth 20000 in
theorem c_X4_name {l : Launch} (hl0 : l.stackTraces = false) : CT l yX4_name (.code yX4_name cX4_name 5 (some .int)) 6 6 36 false sp_X4_name := by
  refine zCT_of hl0 (own := RX4) fl_RX4 cs_X4_name nw_X4_name th_X4_name kc_X4_name (fun _ => []) false pg_X4_name rfl (by decide +kernel) hp_X4_name ⟨_, _, rfl, rfl⟩ hfl_RX4 (fun h => nomatch h) (hcs_X4_name hl0) hnw_X4_name hth_X4_name (fun _ _ h => absurd h List.not_mem_nil) hkc_X4_name (fun args w Q X v0 hv0 h => ?_)
  obtain ⟨α, ν, r, x, y, m, n, rfl, rfl, h1, h2⟩ := h
  refine ⟨Nat.le_of_ble_eq_true rfl, 60, [], ?_, fun q hq => absurd hq List.not_mem_nil⟩
  (conv => whnf)
  refine ⟨_, rfl, fun c => ?_, fun c => ?_⟩
  · obtain ⟨d, hd, rfl⟩ := vp_in_of c (by decide)
    (conv => whnf)
    refine ⟨_, rfl, fun c => ?_, fun c => ?_⟩
    · obtain ⟨k, hk, rfl⟩ := vp_in_of c (by decide)
      obtain ⟨h3, h4⟩ := h2 d k hd hk rfl rfl
      (conv => whnf)
      refine ⟨m, nI 5, nI 60, rfl, fun a b => ?_, fun a => ?_⟩
      · obtain ⟨j, hj, rfl⟩ := nI_le_of5 (by decide) (by decide) (by decide) a b
        (conv => whnf)
        refine ⟨n, nI 1, nI 3, rfl, fun a' b' => ?_, fun a' => ?_⟩
        · obtain ⟨h5, h6⟩ := h4 j hj rfl a b a' b'
          (conv => whnf)
          refine ⟨α, ν, r, d, k, j, hd, hk, hj, rfl, rfl, fun e => ?_, fun e => ?_⟩
          · (conv => whnf)
            refine ⟨α, ν, r, d, k, j, ν 0, hd, hk, hj, rfl, rfl, ?_⟩
            (conv => whnf)
            refine ⟨_, ν, r, k, n, hk, rfl, rfl, ?_⟩
            (conv => whnf)
            refine ⟨_, _, r, k, hk, rfl, rfl, ?_⟩
            (conv => whnf)
            refine ⟨_, _, r, _, rfl, rfl, ?_⟩
            (conv => whnf)
            exact h6 e
          · (conv => whnf)
            exact h5 e
        · (conv => whnf)
          exact h3 (Or.inr a')
      · (conv => whnf)
        exact h3 (Or.inl a)
    · (conv => whnf)
      exact h1 (Or.inr c)
  · (conv => whnf)
    exact h1 (Or.inl c)
def sp_X4_fill : zSpec := fun args w Q X => ∃ α ν r x, args = [.ref 0, .int x] ∧ w = WX α ν r ∧ (¬ vp_in x 4 → X zIOO (WX α ν r)) ∧
  ∀ d, d < 4 → x = nI d → (¬ zrst (α 7 d) (ν 0) = 0 → X zISE (WX α ν r)) ∧ (zrst (α 7 d) (ν 0) = 0 → Q (some (.int (nI 200 - α 6 d))) (WX (zu α 6 (upd (α 6) d (nI 200))) ν r))
def pg_X4_fill : List zE := [(0, .iload_n 1, 1, []), (1, .invokestatic 106, 3, []), (4, .aload_n 0, 1, []), (5, .iload_n 1, 1, []), (6, .invokevirtual 139, 3, []), (9, .aload_n 0, 1, []), (10, .getfield 19, 3, []), (13, .iload_n 1, 1, []), (14, .invokevirtual 142, 3, []), (17, .ireturn, 1, [])]
theorem hp_X4_fill : ∀ q ∈ pg_X4_fill, decode cX4_fill q.1 = .ok (q.2.1, q.2.2.1) ∧ ztg q.2.1 q.1 q.2.2.1 q.2.2.2 = true := zpg_of (by decide +kernel)
def cs_X4_fill : List (Nat × zCall) := [(106, 1, 1, none, 1, 6, false, sp_X4_requireDiver), (139, 0, 2, some 5, 1, 6, false, sp_X4_requireFree), (142, 0, 2, some 3, 0, 0, false, sp_X2_fillBottle)]
theorem hcs_X4_fill {l : Launch} (hl0 : l.stackTraces = false) : ∀ q ∈ cs_X4_fill, zCallable l RX4 5 q := List.forall_mem_cons.mpr ⟨zcS (ps := [350, 351, 14, 352]) (c_X4_requireDiver hl0) (by decide +kernel) ⟨by decide +kernel, by decide +kernel, by decide +kernel⟩ (by decide) (by decide), List.forall_mem_cons.mpr ⟨zcV (C := (RX4, TX4, 6)) (ps := [516, 518, 9, 14, 519]) (c_X4_requireFree hl0) (by decide +kernel) rfl ⟨rfl, by decide +kernel, by decide +kernel, by decide +kernel⟩ (by decide) (by decide), List.forall_mem_cons.mpr ⟨zcV (C := (RX2, TX2, 2)) (ps := [577, 578, 579, 17, 580]) (c_X2_fillBottle hl0) (by decide +kernel) rfl ⟨rfl, by decide +kernel, by decide +kernel, by decide +kernel⟩ (by decide) (by decide), fun _ h => absurd h List.not_mem_nil⟩⟩⟩
def th_X4_fill : List (Nat × String) := []
theorem hth_X4_fill : ∀ q ∈ th_X4_fill, zThrow cX4_fill RX4 q := fun _ h => absurd h List.not_mem_nil
def kc_X4_fill : List (Nat × Int32) := []
theorem hkc_X4_fill : ∀ q ∈ kc_X4_fill, Cond.constant RX4 q.1 q.2 ∈ zTs := fun _ h => absurd h List.not_mem_nil
def nw_X4_fill : List (Nat × Nat × Nat × List Value) := []
theorem hnw_X4_fill : ∀ q ∈ nw_X4_fill, zNew RX4 q := fun _ h => absurd h List.not_mem_nil
set_option maxHeartbeats 4000000 in
set_option maxRecDepth 20000 in
theorem c_X4_fill {l : Launch} (hl0 : l.stackTraces = false) : CT l yX4_fill (.code yX4_fill cX4_fill 2 (some .int)) 5 2 12 false sp_X4_fill := by
  refine zCT_of hl0 (own := RX4) fl_RX4 cs_X4_fill nw_X4_fill th_X4_fill kc_X4_fill (fun _ => []) false pg_X4_fill rfl (by decide +kernel) hp_X4_fill ⟨_, _, rfl, rfl⟩ hfl_RX4 (fun h => nomatch h) (hcs_X4_fill hl0) hnw_X4_fill hth_X4_fill (fun _ _ h => absurd h List.not_mem_nil) hkc_X4_fill (fun args w Q X v0 hv0 h => ?_)
  obtain ⟨α, ν, r, x, rfl, rfl, h1, h2⟩ := h
  refine ⟨Nat.le_of_ble_eq_true rfl, 20, [], ?_, fun q hq => absurd hq List.not_mem_nil⟩
  (conv => whnf)
  refine ⟨_, rfl, fun c => ?_, fun c => ?_⟩
  · obtain ⟨d, hd, rfl⟩ := vp_in_of c (by decide)
    obtain ⟨h3, h4⟩ := h2 d hd rfl
    (conv => whnf)
    refine ⟨α, ν, r, d, hd, rfl, rfl, fun e => ?_, fun e => ?_⟩
    · (conv => whnf)
      refine ⟨α, ν, r, d, hd, rfl, rfl, ?_⟩
      (conv => whnf)
      exact h4 e
    · (conv => whnf)
      exact h3 e
  · (conv => whnf)
    exact h1 c
def sp_X4_air : zSpec := fun args w Q X => ∃ α ν r x, args = [.ref 0, .int x] ∧ w = WX α ν r ∧ (¬ vp_in x 4 → X zIOO (WX α ν r)) ∧ ∀ d, d < 4 → x = nI d → Q (some (.int (α 6 d))) (WX α ν r)
def pg_X4_air : List zE := [(0, .iload_n 1, 1, []), (1, .invokestatic 106, 3, []), (4, .aload_n 0, 1, []), (5, .getfield 19, 3, []), (8, .iload_n 1, 1, []), (9, .invokevirtual 145, 3, []), (12, .ireturn, 1, [])]
theorem hp_X4_air : ∀ q ∈ pg_X4_air, decode cX4_air q.1 = .ok (q.2.1, q.2.2.1) ∧ ztg q.2.1 q.1 q.2.2.1 q.2.2.2 = true := zpg_of (by decide +kernel)
def cs_X4_air : List (Nat × zCall) := [(106, 1, 1, none, 1, 6, false, sp_X4_requireDiver), (145, 0, 2, some 3, 0, 0, false, sp_X2_airOf)]
theorem hcs_X4_air {l : Launch} (hl0 : l.stackTraces = false) : ∀ q ∈ cs_X4_air, zCallable l RX4 3 q := List.forall_mem_cons.mpr ⟨zcS (ps := [350, 351, 14, 352]) (c_X4_requireDiver hl0) (by decide +kernel) ⟨by decide +kernel, by decide +kernel, by decide +kernel⟩ (by decide) (by decide), List.forall_mem_cons.mpr ⟨zcV (C := (RX2, TX2, 2)) (ps := [354, 355, 356, 17, 357]) (c_X2_airOf hl0) (by decide +kernel) rfl ⟨rfl, by decide +kernel, by decide +kernel, by decide +kernel⟩ (by decide) (by decide), fun _ h => absurd h List.not_mem_nil⟩⟩
def th_X4_air : List (Nat × String) := []
theorem hth_X4_air : ∀ q ∈ th_X4_air, zThrow cX4_air RX4 q := fun _ h => absurd h List.not_mem_nil
def kc_X4_air : List (Nat × Int32) := []
theorem hkc_X4_air : ∀ q ∈ kc_X4_air, Cond.constant RX4 q.1 q.2 ∈ zTs := fun _ h => absurd h List.not_mem_nil
def nw_X4_air : List (Nat × Nat × Nat × List Value) := []
theorem hnw_X4_air : ∀ q ∈ nw_X4_air, zNew RX4 q := fun _ h => absurd h List.not_mem_nil
set_option maxHeartbeats 4000000 in
set_option maxRecDepth 20000 in
theorem c_X4_air {l : Launch} (hl0 : l.stackTraces = false) : CT l yX4_air (.code yX4_air cX4_air 2 (some .int)) 3 1 6 false sp_X4_air := by
  refine zCT_of hl0 (own := RX4) fl_RX4 cs_X4_air nw_X4_air th_X4_air kc_X4_air (fun _ => []) false pg_X4_air rfl (by decide +kernel) hp_X4_air ⟨_, _, rfl, rfl⟩ hfl_RX4 (fun h => nomatch h) (hcs_X4_air hl0) hnw_X4_air hth_X4_air (fun _ _ h => absurd h List.not_mem_nil) hkc_X4_air (fun args w Q X v0 hv0 h => ?_)
  obtain ⟨α, ν, r, x, rfl, rfl, h1, h2⟩ := h
  refine ⟨Nat.le_of_ble_eq_true rfl, 20, [], ?_, fun q hq => absurd hq List.not_mem_nil⟩
  (conv => whnf)
  refine ⟨_, rfl, fun c => ?_, fun c => ?_⟩
  · obtain ⟨d, hd, rfl⟩ := vp_in_of c (by decide)
    (conv => whnf)
    refine ⟨α, ν, r, d, hd, rfl, rfl, ?_⟩
    (conv => whnf)
    exact h2 d hd rfl
  · (conv => whnf)
    exact h1 c
def sp_X4_rest : zSpec := fun args w Q X => ∃ α ν r x, args = [.ref 0, .int x] ∧ w = WX α ν r ∧ (¬ vp_in x 4 → X zIOO (WX α ν r)) ∧ ∀ d, d < 4 → x = nI d → Q (some (.int (zrst (α 7 d) (ν 0)))) (WX α ν r)
def pg_X4_rest : List zE := [(0, .iload_n 1, 1, []), (1, .invokestatic 106, 3, []), (4, .aload_n 0, 1, []), (5, .getfield 19, 3, []), (8, .iload_n 1, 1, []), (9, .aload_n 0, 1, []), (10, .getfield 44, 3, []), (13, .invokevirtual 148, 3, []), (16, .ireturn, 1, [])]
theorem hp_X4_rest : ∀ q ∈ pg_X4_rest, decode cX4_rest q.1 = .ok (q.2.1, q.2.2.1) ∧ ztg q.2.1 q.1 q.2.2.1 q.2.2.2 = true := zpg_of (by decide +kernel)
def cs_X4_rest : List (Nat × zCall) := [(106, 1, 1, none, 1, 6, false, sp_X4_requireDiver), (148, 0, 3, some 3, 0, 0, false, sp_X2_minutesUntilFree)]
theorem hcs_X4_rest {l : Launch} (hl0 : l.stackTraces = false) : ∀ q ∈ cs_X4_rest, zCallable l RX4 3 q := List.forall_mem_cons.mpr ⟨zcS (ps := [350, 351, 14, 352]) (c_X4_requireDiver hl0) (by decide +kernel) ⟨by decide +kernel, by decide +kernel, by decide +kernel⟩ (by decide) (by decide), List.forall_mem_cons.mpr ⟨zcV (C := (RX2, TX2, 2)) (ps := [365, 366, 367, 17, 368]) (c_X2_minutesUntilFree hl0) (by decide +kernel) rfl ⟨rfl, by decide +kernel, by decide +kernel, by decide +kernel⟩ (by decide) (by decide), fun _ h => absurd h List.not_mem_nil⟩⟩
def th_X4_rest : List (Nat × String) := []
theorem hth_X4_rest : ∀ q ∈ th_X4_rest, zThrow cX4_rest RX4 q := fun _ h => absurd h List.not_mem_nil
def kc_X4_rest : List (Nat × Int32) := []
theorem hkc_X4_rest : ∀ q ∈ kc_X4_rest, Cond.constant RX4 q.1 q.2 ∈ zTs := fun _ h => absurd h List.not_mem_nil
def nw_X4_rest : List (Nat × Nat × Nat × List Value) := []
theorem hnw_X4_rest : ∀ q ∈ nw_X4_rest, zNew RX4 q := fun _ h => absurd h List.not_mem_nil
set_option maxHeartbeats 4000000 in
set_option maxRecDepth 20000 in
theorem c_X4_rest {l : Launch} (hl0 : l.stackTraces = false) : CT l yX4_rest (.code yX4_rest cX4_rest 2 (some .int)) 3 1 6 false sp_X4_rest := by
  refine zCT_of hl0 (own := RX4) fl_RX4 cs_X4_rest nw_X4_rest th_X4_rest kc_X4_rest (fun _ => []) false pg_X4_rest rfl (by decide +kernel) hp_X4_rest ⟨_, _, rfl, rfl⟩ hfl_RX4 (fun h => nomatch h) (hcs_X4_rest hl0) hnw_X4_rest hth_X4_rest (fun _ _ h => absurd h List.not_mem_nil) hkc_X4_rest (fun args w Q X v0 hv0 h => ?_)
  obtain ⟨α, ν, r, x, rfl, rfl, h1, h2⟩ := h
  refine ⟨Nat.le_of_ble_eq_true rfl, 20, [], ?_, fun q hq => absurd hq List.not_mem_nil⟩
  (conv => whnf)
  refine ⟨_, rfl, fun c => ?_, fun c => ?_⟩
  · obtain ⟨d, hd, rfl⟩ := vp_in_of c (by decide)
    (conv => whnf)
    refine ⟨α, ν, r, d, ν 0, hd, rfl, rfl, ?_⟩
    (conv => whnf)
    exact h2 d hd rfl
  · (conv => whnf)
    exact h1 c
def sp_X4_longest : zSpec := fun args w Q X => ∃ α ν r x y, (∀ d, d < 4 → ∃ a, a ≤ 200 ∧ α 6 d = nI a) ∧ args = [.ref 0, .int x, .int y] ∧ w = WX α ν r ∧ (¬ vp_in x 4 ∨ ¬ vp_in y 96 → X zIOO (WX α ν r)) ∧
  ∀ d k a, d < 4 → k < 96 → x = nI d → y = nI k → a ≤ 200 → α 6 d = nI a → Q (some (.int (nI (min (a / zau k) 60)))) (WX α ν r)
def pg_X4_longest : List zE := [(0, .iload_n 1, 1, []), (1, .invokestatic 106, 3, []), (4, .iload_n 2, 1, []), (5, .invokestatic 48, 3, []), (8, .aload_n 0, 1, []), (9, .getfield 19, 3, []), (12, .iload_n 1, 1, []), (13, .iload_n 2, 1, []), (14, .invokevirtual 152, 3, []), (17, .ireturn, 1, [])]
theorem hp_X4_longest : ∀ q ∈ pg_X4_longest, decode cX4_longest q.1 = .ok (q.2.1, q.2.2.1) ∧ ztg q.2.1 q.1 q.2.2.1 q.2.2.2 = true := zpg_of (by decide +kernel)
def cs_X4_longest : List (Nat × zCall) := [(106, 1, 1, none, 1, 6, false, sp_X4_requireDiver), (48, 1, 1, none, 1, 6, false, sp_X4_requireCell), (152, 0, 3, some 3, 0, 0, false, sp_X2_longestDive)]
theorem hcs_X4_longest {l : Launch} (hl0 : l.stackTraces = false) : ∀ q ∈ cs_X4_longest, zCallable l RX4 4 q := List.forall_mem_cons.mpr ⟨zcS (ps := [350, 351, 14, 352]) (c_X4_requireDiver hl0) (by decide +kernel) ⟨by decide +kernel, by decide +kernel, by decide +kernel⟩ (by decide) (by decide), List.forall_mem_cons.mpr ⟨zcS (ps := [190, 191, 14, 192]) (c_X4_requireCell hl0) (by decide +kernel) ⟨by decide +kernel, by decide +kernel, by decide +kernel⟩ (by decide) (by decide), List.forall_mem_cons.mpr ⟨zcV (C := (RX2, TX2, 2)) (ps := [376, 377, 378, 17, 379]) (c_X2_longestDive hl0) (by decide +kernel) rfl ⟨rfl, by decide +kernel, by decide +kernel, by decide +kernel⟩ (by decide) (by decide), fun _ h => absurd h List.not_mem_nil⟩⟩⟩
def th_X4_longest : List (Nat × String) := []
theorem hth_X4_longest : ∀ q ∈ th_X4_longest, zThrow cX4_longest RX4 q := fun _ h => absurd h List.not_mem_nil
def kc_X4_longest : List (Nat × Int32) := []
theorem hkc_X4_longest : ∀ q ∈ kc_X4_longest, Cond.constant RX4 q.1 q.2 ∈ zTs := fun _ h => absurd h List.not_mem_nil
def nw_X4_longest : List (Nat × Nat × Nat × List Value) := []
theorem hnw_X4_longest : ∀ q ∈ nw_X4_longest, zNew RX4 q := fun _ h => absurd h List.not_mem_nil
set_option maxHeartbeats 4000000 in
set_option maxRecDepth 20000 in
theorem c_X4_longest {l : Launch} (hl0 : l.stackTraces = false) : CT l yX4_longest (.code yX4_longest cX4_longest 3 (some .int)) 4 2 12 false sp_X4_longest := by
  refine zCT_of hl0 (own := RX4) fl_RX4 cs_X4_longest nw_X4_longest th_X4_longest kc_X4_longest (fun _ => []) false pg_X4_longest rfl (by decide +kernel) hp_X4_longest ⟨_, _, rfl, rfl⟩ hfl_RX4 (fun h => nomatch h) (hcs_X4_longest hl0) hnw_X4_longest hth_X4_longest (fun _ _ h => absurd h List.not_mem_nil) hkc_X4_longest (fun args w Q X v0 hv0 h => ?_)
  obtain ⟨α, ν, r, x, y, ha, rfl, rfl, h1, h2⟩ := h
  refine ⟨Nat.le_of_ble_eq_true rfl, 20, [], ?_, fun q hq => absurd hq List.not_mem_nil⟩
  (conv => whnf)
  refine ⟨_, rfl, fun c => ?_, fun c => ?_⟩
  · obtain ⟨d, hd, rfl⟩ := vp_in_of c (by decide)
    obtain ⟨a, ha1, ha2⟩ := ha d hd
    (conv => whnf)
    refine ⟨_, rfl, fun c => ?_, fun c => ?_⟩
    · obtain ⟨k, hk, rfl⟩ := vp_in_of c (by decide)
      (conv => whnf)
      refine ⟨α, ν, r, d, k, a, hd, hk, ha1, ha2, rfl, rfl, ?_⟩
      (conv => whnf)
      exact h2 d k a hd hk rfl rfl ha1 ha2
    · (conv => whnf)
      exact h1 (Or.inr c)
  · (conv => whnf)
    exact h1 (Or.inl c)
def sp_X4_claim : zSpec := fun args w Q X => ∃ α ν r c x y, zCk α ν c ∧ (∀ j, j < c → ∃ f, f < 6 ∧ α 8 j = nI f) ∧ args = [.ref 0, .int x, .int y] ∧ w = WX α ν r ∧ (¬ vp_in x 6 ∨ ¬ vp_in y 96 → X zIOO (WX α ν r)) ∧
  ∀ f k, f < 6 → k < 96 → x = nI f → y = nI k → ∀ z, zHR α ν c (α 3 k) z → (zBad α (α 3 k) ∨ z ≠ -1 ∨ c = 40 → X zISE (WX α ν r)) ∧ (¬ zBad α (α 3 k) → z = -1 → c < 40 →
    Q (some (.int (nI c))) (WX (zu (zu (zu α 8 (upd (α 8) c (nI f))) 9 (upd (α 9) c (nI k))) 10 (upd (α 10) c (ν 0 + nI 28800))) (zu ν 3 (nI (c + 1))) r))
def pg_X4_claim : List zE := [(0, .iload_n 1, 1, []), (1, .invokestatic 155, 3, []), (4, .iload_n 2, 1, []), (5, .invokestatic 48, 3, []), (8, .aload_n 0, 1, []), (9, .getfield 12, 3, []), (12, .iload_n 2, 1, []), (13, .invokevirtual 77, 3, []), (16, .istore_n 3, 1, []), (17, .aload_n 0, 1, []), (18, .iload_n 3, 1, []), (19, .invokevirtual 120, 3, []), (22, .aload_n 0, 1, []), (23, .iload_n 3, 1, []), (24, .invokevirtual 132, 3, []), (27, .iconst (-1), 1, []), (28, .if_icmp .eq 13, 3, [41]), (31, .new 127, 3, []), (41, .aload_n 0, 1, []), (42, .getfield 26, 3, []), (45, .invokevirtual 160, 3, []), (48, .ifCond .eq 13, 3, [61]), (51, .new 127, 3, []), (61, .aload_n 0, 1, []), (62, .getfield 26, 3, []), (65, .iload_n 1, 1, []), (66, .iload_n 2, 1, []), (67, .aload_n 0, 1, []), (68, .getfield 44, 3, []), (71, .invokevirtual 163, 3, []), (74, .ireturn, 1, [])]
theorem hp_X4_claim : ∀ q ∈ pg_X4_claim, decode cX4_claim q.1 = .ok (q.2.1, q.2.2.1) ∧ ztg q.2.1 q.1 q.2.2.1 q.2.2.2 = true := zpg_of (by decide +kernel)
def cs_X4_claim : List (Nat × zCall) := [(155, 1, 1, none, 1, 6, false, sp_X4_requireFinder), (48, 1, 1, none, 1, 6, false, sp_X4_requireCell), (77, 0, 2, some 1, 0, 0, false, sp_X0_shapeAt), (120, 0, 2, some 5, 2, 12, false, sp_X4_requireOpenShape), (132, 0, 2, some 5, 0, 0, false, sp_X4_finderOfShape), (160, 0, 1, some 2, 0, 0, false, sp_X1_isFull), (163, 0, 4, some 2, 0, 0, false, sp_X1_enter)]
theorem hcs_X4_claim {l : Launch} (hl0 : l.stackTraces = false) : ∀ q ∈ cs_X4_claim, zCallable l RX4 6 q := List.forall_mem_cons.mpr ⟨zcS (ps := [588, 589, 14, 590]) (c_X4_requireFinder hl0) (by decide +kernel) ⟨by decide +kernel, by decide +kernel, by decide +kernel⟩ (by decide) (by decide), List.forall_mem_cons.mpr ⟨zcS (ps := [190, 191, 14, 192]) (c_X4_requireCell hl0) (by decide +kernel) ⟨by decide +kernel, by decide +kernel, by decide +kernel⟩ (by decide) (by decide), List.forall_mem_cons.mpr ⟨zcV (C := (RX0, TX0, 8)) (ps := [330, 331, 332, 15, 333]) (c_X0_shapeAt hl0) (by decide +kernel) rfl ⟨rfl, by decide +kernel, by decide +kernel, by decide +kernel⟩ (by decide) (by decide), List.forall_mem_cons.mpr ⟨zcV (C := (RX4, TX4, 6)) (ps := [544, 546, 10, 14, 547]) (c_X4_requireOpenShape hl0) (by decide +kernel) rfl ⟨rfl, by decide +kernel, by decide +kernel, by decide +kernel⟩ (by decide) (by decide), List.forall_mem_cons.mpr ⟨zcV (C := (RX4, TX4, 6)) (ps := [416, 418, 4, 14, 419]) (c_X4_finderOfShape hl0) (by decide +kernel) rfl ⟨rfl, by decide +kernel, by decide +kernel, by decide +kernel⟩ (by decide) (by decide), List.forall_mem_cons.mpr ⟨zcV (C := (RX1, TX1, 4)) (ps := [593, 594, 595, 18, 596]) (c_X1_isFull hl0) (by decide +kernel) rfl ⟨rfl, by decide +kernel, by decide +kernel, by decide +kernel⟩ (by decide) (by decide), List.forall_mem_cons.mpr ⟨zcV (C := (RX1, TX1, 4)) (ps := [598, 599, 600, 18, 601]) (c_X1_enter hl0) (by decide +kernel) rfl ⟨rfl, by decide +kernel, by decide +kernel, by decide +kernel⟩ (by decide) (by decide), fun _ h => absurd h List.not_mem_nil⟩⟩⟩⟩⟩⟩⟩
def th_X4_claim : List (Nat × String) := [(31, "java/lang/IllegalStateException"), (51, "java/lang/IllegalStateException")]
theorem hth_X4_claim : ∀ q ∈ th_X4_claim, zThrow cX4_claim RX4 q := List.forall_mem_cons.mpr ⟨⟨"the shape has a finder", 127, 158, 131, [392, 30], by decide +kernel, by decide +kernel, by decide +kernel, thw_RX4_131, by decide +kernel, by decide +kernel, Or.inl ⟨by decide +kernel, by decide +kernel, by decide +kernel⟩⟩, List.forall_mem_cons.mpr ⟨⟨"no room for a claim", 127, 161, 131, [392, 30], by decide +kernel, by decide +kernel, by decide +kernel, thw_RX4_131, by decide +kernel, by decide +kernel, Or.inl ⟨by decide +kernel, by decide +kernel, by decide +kernel⟩⟩, fun _ h => absurd h List.not_mem_nil⟩⟩
def kc_X4_claim : List (Nat × Int32) := []
theorem hkc_X4_claim : ∀ q ∈ kc_X4_claim, Cond.constant RX4 q.1 q.2 ∈ zTs := fun _ h => absurd h List.not_mem_nil
def nw_X4_claim : List (Nat × Nat × Nat × List Value) := []
theorem hnw_X4_claim : ∀ q ∈ nw_X4_claim, zNew RX4 q := fun _ h => absurd h List.not_mem_nil
set_option maxHeartbeats 4000000 in
set_option maxRecDepth 20000 in
theorem c_X4_claim {l : Launch} (hl0 : l.stackTraces = false) : CT l yX4_claim (.code yX4_claim cX4_claim 4 (some .int)) 6 6 36 false sp_X4_claim := by
  refine zCT_of hl0 (own := RX4) fl_RX4 cs_X4_claim nw_X4_claim th_X4_claim kc_X4_claim (fun _ => []) false pg_X4_claim rfl (by decide +kernel) hp_X4_claim ⟨_, _, rfl, rfl⟩ hfl_RX4 (fun h => nomatch h) (hcs_X4_claim hl0) hnw_X4_claim hth_X4_claim (fun _ _ h => absurd h List.not_mem_nil) hkc_X4_claim (fun args w Q X v0 hv0 h => ?_)
  obtain ⟨α, ν, r, c, x, y, hc, hf8, rfl, rfl, h1, h2⟩ := h
  refine ⟨Nat.le_of_ble_eq_true rfl, 60, [], ?_, fun q hq => absurd hq List.not_mem_nil⟩
  (conv => whnf)
  refine ⟨_, rfl, fun q => ?_, fun q => ?_⟩
  · obtain ⟨f, hf, rfl⟩ := vp_in_of q (by decide)
    (conv => whnf)
    refine ⟨_, rfl, fun q => ?_, fun q => ?_⟩
    · obtain ⟨k, hk, rfl⟩ := vp_in_of q (by decide)
      have h3 := h2 f k hf hk rfl rfl
      (conv => whnf)
      refine ⟨α, ν, r, k, hk, rfl, rfl, ?_⟩
      (conv => whnf)
      refine ⟨α, ν, r, α 3 k, rfl, rfl, fun b => ?_, fun b => ?_⟩
      · (conv => whnf)
        refine ⟨α, ν, r, c, α 3 k, hc, rfl, rfl, fun z hz => ?_⟩
        obtain ⟨h4, h5⟩ := h3 z hz
        have hz1 : zfd (α 8) z = -1 ↔ z = -1 := by
          rcases zHr_of hz with rfl | ⟨j, hj, rfl⟩
          · exact ⟨fun _ => rfl, fun _ => rfl⟩
          · have hj2 : j < 2 ^ 31 := by have := hc.1; omega
            obtain ⟨g, g1, g2⟩ := hf8 j hj
            rw [zfd_j _ hj2, g2]
            exact ⟨fun e => absurd e (nI_ne_m1 (by omega)), fun e => absurd e (nI_ne_m1 hj2)⟩
        (conv => whnf)
        refine And.intro (fun e => ?_) (fun e => ?_)
        · have e2 : z = -1 := hz1.mp e
          (conv => whnf)
          refine ⟨α, ν, r, c, hc.1, hc.2.1, rfl, rfl, fun g => ?_, fun g => ?_⟩
          · (conv => whnf)
            refine And.intro (fun c => absurd c (show ¬ _ from (by decide))) (fun _ => ?_)
            (conv => whnf)
            exact h4 (Or.inr (Or.inr g))
          · (conv => whnf)
            refine And.intro (fun _ => ?_) (fun c => absurd (show _ from rfl) c)
            (conv => whnf)
            refine ⟨α, ν, r, c, nI f, nI k, ν 0, by have := hc.1; omega, hc.2.1, rfl, rfl, ?_⟩
            (conv => whnf)
            exact h5 b e2 (by have := hc.1; omega)
        · (conv => whnf)
          exact h4 (Or.inr (Or.inl (fun g => e (hz1.mpr g))))
      · obtain ⟨z, hz⟩ : ∃ z, zHR α ν c (α 3 k) z := ⟨-1, Or.inl ⟨b, rfl⟩⟩
        (conv => whnf)
        exact (h3 z hz).1 (Or.inl b)
    · (conv => whnf)
      exact h1 (Or.inr q)
  · (conv => whnf)
    exact h1 (Or.inl q)
def sp_X4_renew : zSpec := fun args w Q X => ∃ α ν r c x, c ≤ 40 ∧ ν 3 = nI c ∧ args = [.ref 0, .int x] ∧ w = WX α ν r ∧ (¬ vp_in x c → X zIOO (WX α ν r)) ∧
  ∀ j, j < c → x = nI j → (¬ ν 0 < α 10 j → X zISE (WX α ν r)) ∧ (ν 0 < α 10 j → Q (some (.int (α 10 j - ν 0))) (WX (zu α 10 (upd (α 10) j (ν 0 + nI 28800))) ν r))
def pg_X4_renew : List zE := [(0, .aload_n 0, 1, []), (1, .iload_n 1, 1, []), (2, .invokevirtual 166, 3, []), (5, .aload_n 0, 1, []), (6, .getfield 26, 3, []), (9, .iload_n 1, 1, []), (10, .aload_n 0, 1, []), (11, .getfield 44, 3, []), (14, .invokevirtual 169, 3, []), (17, .ifCond .ne 13, 3, [30]), (20, .new 127, 3, []), (30, .aload_n 0, 1, []), (31, .getfield 26, 3, []), (34, .iload_n 1, 1, []), (35, .aload_n 0, 1, []), (36, .getfield 44, 3, []), (39, .invokevirtual 175, 3, []), (42, .ireturn, 1, [])]
theorem hp_X4_renew : ∀ q ∈ pg_X4_renew, decode cX4_renew q.1 = .ok (q.2.1, q.2.2.1) ∧ ztg q.2.1 q.1 q.2.2.1 q.2.2.2 = true := zpg_of (by decide +kernel)
def cs_X4_renew : List (Nat × zCall) := [(166, 0, 2, some 5, 1, 6, false, sp_X4_requireClaim), (169, 0, 3, some 2, 0, 0, false, sp_X1_isRunning), (175, 0, 3, some 2, 0, 0, false, sp_X1_startTerm)]
theorem hcs_X4_renew {l : Launch} (hl0 : l.stackTraces = false) : ∀ q ∈ cs_X4_renew, zCallable l RX4 3 q := List.forall_mem_cons.mpr ⟨zcV (C := (RX4, TX4, 6)) (ps := [452, 454, 6, 14, 455]) (c_X4_requireClaim hl0) (by decide +kernel) rfl ⟨rfl, by decide +kernel, by decide +kernel, by decide +kernel⟩ (by decide) (by decide), List.forall_mem_cons.mpr ⟨zcV (C := (RX1, TX1, 4)) (ps := [428, 429, 430, 18, 431]) (c_X1_isRunning hl0) (by decide +kernel) rfl ⟨rfl, by decide +kernel, by decide +kernel, by decide +kernel⟩ (by decide) (by decide), List.forall_mem_cons.mpr ⟨zcV (C := (RX1, TX1, 4)) (ps := [611, 612, 613, 18, 614]) (c_X1_startTerm hl0) (by decide +kernel) rfl ⟨rfl, by decide +kernel, by decide +kernel, by decide +kernel⟩ (by decide) (by decide), fun _ h => absurd h List.not_mem_nil⟩⟩⟩
def th_X4_renew : List (Nat × String) := [(20, "java/lang/IllegalStateException")]
theorem hth_X4_renew : ∀ q ∈ th_X4_renew, zThrow cX4_renew RX4 q := List.forall_mem_cons.mpr ⟨⟨"the claim does not run", 127, 173, 131, [392, 30], by decide +kernel, by decide +kernel, by decide +kernel, thw_RX4_131, by decide +kernel, by decide +kernel, Or.inl ⟨by decide +kernel, by decide +kernel, by decide +kernel⟩⟩, fun _ h => absurd h List.not_mem_nil⟩
def kc_X4_renew : List (Nat × Int32) := []
theorem hkc_X4_renew : ∀ q ∈ kc_X4_renew, Cond.constant RX4 q.1 q.2 ∈ zTs := fun _ h => absurd h List.not_mem_nil
def nw_X4_renew : List (Nat × Nat × Nat × List Value) := []
theorem hnw_X4_renew : ∀ q ∈ nw_X4_renew, zNew RX4 q := fun _ h => absurd h List.not_mem_nil
set_option maxHeartbeats 4000000 in
set_option maxRecDepth 20000 in
theorem c_X4_renew {l : Launch} (hl0 : l.stackTraces = false) : CT l yX4_renew (.code yX4_renew cX4_renew 2 (some .int)) 3 2 12 false sp_X4_renew := by
  refine zCT_of hl0 (own := RX4) fl_RX4 cs_X4_renew nw_X4_renew th_X4_renew kc_X4_renew (fun _ => []) false pg_X4_renew rfl (by decide +kernel) hp_X4_renew ⟨_, _, rfl, rfl⟩ hfl_RX4 (fun h => nomatch h) (hcs_X4_renew hl0) hnw_X4_renew hth_X4_renew (fun _ _ h => absurd h List.not_mem_nil) hkc_X4_renew (fun args w Q X v0 hv0 h => ?_)
  obtain ⟨α, ν, r, c, x, hc, hν, rfl, rfl, h1, h2⟩ := h
  refine ⟨Nat.le_of_ble_eq_true rfl, 60, [], ?_, fun q hq => absurd hq List.not_mem_nil⟩
  (conv => whnf)
  refine ⟨α, ν, r, c, x, hc, hν, rfl, rfl, fun q => ?_, fun q => ?_⟩
  · obtain ⟨j, hj, rfl⟩ := vp_in_of q (by omega)
    obtain ⟨h3, h4⟩ := h2 j hj rfl
    (conv => whnf)
    refine ⟨α, ν, r, c, j, ν 0, hc, hν, hj, rfl, rfl, fun e => ?_, fun e => ?_⟩
    · (conv => whnf)
      refine And.intro (fun c => absurd c (show ¬ _ from (by decide))) (fun _ => ?_)
      (conv => whnf)
      refine ⟨α, ν, r, c, j, ν 0, hc, hν, hj, rfl, rfl, ?_⟩
      (conv => whnf)
      exact h4 e
    · (conv => whnf)
      refine And.intro (fun _ => ?_) (fun c => absurd (show _ from rfl) c)
      (conv => whnf)
      exact h3 e
  · (conv => whnf)
    exact h1 q
def sp_X4_advance : zSpec := fun args w Q X => ∃ α ν r t x, t ≤ 1000000 ∧ ν 0 = nI t ∧ args = [.ref 0, .int x] ∧ w = WX α ν r ∧ (x < nI 1 ∨ nI 14400 < x → X zIAE (WX α ν r)) ∧
  ∀ j, j ≤ 14400 → x = nI j → ¬ x < nI 1 → ¬ nI 14400 < x → (1000000 < t + j → X zISE (WX α ν r)) ∧ (¬ 1000000 < t + j → Q (some (.int (nI (t + j)))) (WX α (zu ν 0 (nI (t + j))) r))
def pg_X4_advance : List zE := [(0, .iload_n 1, 1, []), (1, .iconst 1, 1, [1]), (2, .sipush 14400, 3, [14400]), (5, .invokestatic 69, 3, []), (8, .iload_n 1, 1, []), (9, .ldc 178, 2, []), (11, .aload_n 0, 1, []), (12, .getfield 44, 3, []), (15, .isub, 1, []), (16, .if_icmp .le 13, 3, [29]), (19, .new 127, 3, []), (29, .aload_n 0, 1, []), (30, .dup, 1, []), (31, .getfield 44, 3, []), (34, .iload_n 1, 1, []), (35, .iadd, 1, []), (36, .putfield 44, 3, []), (39, .aload_n 0, 1, []), (40, .getfield 44, 3, []), (43, .ireturn, 1, [])]
theorem hp_X4_advance : ∀ q ∈ pg_X4_advance, decode cX4_advance q.1 = .ok (q.2.1, q.2.2.1) ∧ ztg q.2.1 q.1 q.2.2.1 q.2.2.2 = true := zpg_of (by decide +kernel)
def cs_X4_advance : List (Nat × zCall) := [(69, 1, 3, none, 1, 6, false, sp_X4_requireWithin)]
theorem hcs_X4_advance {l : Launch} (hl0 : l.stackTraces = false) : ∀ q ∈ cs_X4_advance, zCallable l RX4 3 q := List.forall_mem_cons.mpr ⟨zcS (ps := [266, 267, 14, 268]) (c_X4_requireWithin hl0) (by decide +kernel) ⟨by decide +kernel, by decide +kernel, by decide +kernel⟩ (by decide) (by decide), fun _ h => absurd h List.not_mem_nil⟩
def th_X4_advance : List (Nat × String) := [(19, "java/lang/IllegalStateException")]
theorem hth_X4_advance : ∀ q ∈ th_X4_advance, zThrow cX4_advance RX4 q := List.forall_mem_cons.mpr ⟨⟨"behind the last minute", 127, 179, 131, [392, 30], by decide +kernel, by decide +kernel, by decide +kernel, thw_RX4_131, by decide +kernel, by decide +kernel, Or.inl ⟨by decide +kernel, by decide +kernel, by decide +kernel⟩⟩, fun _ h => absurd h List.not_mem_nil⟩
def kc_X4_advance : List (Nat × Int32) := [(178, 1000000)]
theorem hkc_X4_advance : ∀ q ∈ kc_X4_advance, Cond.constant RX4 q.1 q.2 ∈ zTs := List.forall_mem_cons.mpr ⟨zmem (i := 391) (by decide +kernel) rfl, fun _ h => absurd h List.not_mem_nil⟩
def nw_X4_advance : List (Nat × Nat × Nat × List Value) := []
theorem hnw_X4_advance : ∀ q ∈ nw_X4_advance, zNew RX4 q := fun _ h => absurd h List.not_mem_nil
set_option maxHeartbeats 4000000 in
set_option maxRecDepth 20000 in
theorem c_X4_advance {l : Launch} (hl0 : l.stackTraces = false) : CT l yX4_advance (.code yX4_advance cX4_advance 2 (some .int)) 3 2 12 false sp_X4_advance := by
  refine zCT_of hl0 (own := RX4) fl_RX4 cs_X4_advance nw_X4_advance th_X4_advance kc_X4_advance (fun _ => []) false pg_X4_advance rfl (by decide +kernel) hp_X4_advance ⟨_, _, rfl, rfl⟩ hfl_RX4 (fun h => nomatch h) (hcs_X4_advance hl0) hnw_X4_advance hth_X4_advance (fun _ _ h => absurd h List.not_mem_nil) hkc_X4_advance (fun args w Q X v0 hv0 h => ?_)
  obtain ⟨α, ν, r, t, x, ht, hν, rfl, rfl, h1, h2⟩ := h
  refine ⟨Nat.le_of_ble_eq_true rfl, 60, [], ?_, fun q hq => absurd hq List.not_mem_nil⟩
  (conv => whnf)
  refine ⟨x, nI 1, nI 14400, rfl, fun a b => ?_, fun a => ?_⟩
  · obtain ⟨j, hj, rfl⟩ := nI_le_of5 (by decide) (by decide) (by decide) a b
    obtain ⟨h3, h4⟩ := h2 j hj rfl a b
    (conv => whnf)
    rw [hν]
    have e0 : (1000000 : Int32) - nI t = nI (1000000 - t) := pk_sub (a := 1000000) ht
    refine And.intro (fun e => ?_) (fun e => ?_)
    · have e1 : nI (1000000 - t) < nI j := by rw [← e0]; exact e
      have e2 := (nI_ltI (by omega) (by omega)).mp e1
      (conv => whnf)
      exact h3 (by omega)
    · have e2 : ¬ 1000000 - t < j := fun h => e (by
        show (1000000 : Int32) - nI t < nI j
        rw [e0]; exact nI_lt h (by omega))
      (conv => whnf)
      dsimp only [zkon]
      rw [hν, nI_add]
      exact h4 (by omega)
  · (conv => whnf)
    exact h1 a
def sp_X4_minute : zSpec := fun args w Q _ => ∃ α ν r, args = [.ref 0] ∧ w = WX α ν r ∧ Q (some (.int (ν 0))) (WX α ν r)
def pg_X4_minute : List zE := [(0, .aload_n 0, 1, []), (1, .getfield 44, 3, []), (4, .ireturn, 1, [])]
theorem hp_X4_minute : ∀ q ∈ pg_X4_minute, decode cX4_minute q.1 = .ok (q.2.1, q.2.2.1) ∧ ztg q.2.1 q.1 q.2.2.1 q.2.2.2 = true := zpg_of (by decide +kernel)
def cs_X4_minute : List (Nat × zCall) := []
theorem hcs_X4_minute {l : Launch} (hl0 : l.stackTraces = false) : ∀ q ∈ cs_X4_minute, zCallable l RX4 1 q := fun _ h => absurd h List.not_mem_nil
def th_X4_minute : List (Nat × String) := []
theorem hth_X4_minute : ∀ q ∈ th_X4_minute, zThrow cX4_minute RX4 q := fun _ h => absurd h List.not_mem_nil
def kc_X4_minute : List (Nat × Int32) := []
theorem hkc_X4_minute : ∀ q ∈ kc_X4_minute, Cond.constant RX4 q.1 q.2 ∈ zTs := fun _ h => absurd h List.not_mem_nil
def nw_X4_minute : List (Nat × Nat × Nat × List Value) := []
theorem hnw_X4_minute : ∀ q ∈ nw_X4_minute, zNew RX4 q := fun _ h => absurd h List.not_mem_nil
set_option maxHeartbeats 4000000 in
set_option maxRecDepth 20000 in
theorem c_X4_minute {l : Launch} (hl0 : l.stackTraces = false) : CT l yX4_minute (.code yX4_minute cX4_minute 1 (some .int)) 1 0 0 false sp_X4_minute := by
  refine zCT_of hl0 (own := RX4) fl_RX4 cs_X4_minute nw_X4_minute th_X4_minute kc_X4_minute (fun _ => []) false pg_X4_minute rfl (by decide +kernel) hp_X4_minute ⟨_, _, rfl, rfl⟩ hfl_RX4 (fun h => nomatch h) (hcs_X4_minute hl0) hnw_X4_minute hth_X4_minute (fun _ _ h => absurd h List.not_mem_nil) hkc_X4_minute (fun args w Q X v0 hv0 h => ?_)
  obtain ⟨α, ν, r, rfl, rfl, hQ⟩ := h
  refine ⟨Nat.le_of_ble_eq_true rfl, 20, [], ?_, fun q hq => absurd hq List.not_mem_nil⟩
  (conv => whnf)
  exact hQ
def sp_X4_finder : zSpec := fun args w Q X => ∃ α ν r c x, zCk α ν c ∧ args = [.ref 0, .int x] ∧ w = WX α ν r ∧ (¬ vp_in x 96 → X zIOO (WX α ν r)) ∧ ∀ k, k < 96 → x = nI k → ∀ z, zHR α ν c (α 3 k) z → Q (some (.int (zfd (α 8) z))) (WX α ν r)
def pg_X4_finder : List zE := [(0, .iload_n 1, 1, []), (1, .invokestatic 48, 3, []), (4, .aload_n 0, 1, []), (5, .aload_n 0, 1, []), (6, .getfield 12, 3, []), (9, .iload_n 1, 1, []), (10, .invokevirtual 77, 3, []), (13, .invokevirtual 132, 3, []), (16, .ireturn, 1, [])]
theorem hp_X4_finder : ∀ q ∈ pg_X4_finder, decode cX4_finder q.1 = .ok (q.2.1, q.2.2.1) ∧ ztg q.2.1 q.1 q.2.2.1 q.2.2.2 = true := zpg_of (by decide +kernel)
def cs_X4_finder : List (Nat × zCall) := [(48, 1, 1, none, 1, 6, false, sp_X4_requireCell), (77, 0, 2, some 1, 0, 0, false, sp_X0_shapeAt), (132, 0, 2, some 5, 0, 0, false, sp_X4_finderOfShape)]
theorem hcs_X4_finder {l : Launch} (hl0 : l.stackTraces = false) : ∀ q ∈ cs_X4_finder, zCallable l RX4 6 q := List.forall_mem_cons.mpr ⟨zcS (ps := [190, 191, 14, 192]) (c_X4_requireCell hl0) (by decide +kernel) ⟨by decide +kernel, by decide +kernel, by decide +kernel⟩ (by decide) (by decide), List.forall_mem_cons.mpr ⟨zcV (C := (RX0, TX0, 8)) (ps := [330, 331, 332, 15, 333]) (c_X0_shapeAt hl0) (by decide +kernel) rfl ⟨rfl, by decide +kernel, by decide +kernel, by decide +kernel⟩ (by decide) (by decide), List.forall_mem_cons.mpr ⟨zcV (C := (RX4, TX4, 6)) (ps := [416, 418, 4, 14, 419]) (c_X4_finderOfShape hl0) (by decide +kernel) rfl ⟨rfl, by decide +kernel, by decide +kernel, by decide +kernel⟩ (by decide) (by decide), fun _ h => absurd h List.not_mem_nil⟩⟩⟩
def th_X4_finder : List (Nat × String) := []
theorem hth_X4_finder : ∀ q ∈ th_X4_finder, zThrow cX4_finder RX4 q := fun _ h => absurd h List.not_mem_nil
def kc_X4_finder : List (Nat × Int32) := []
theorem hkc_X4_finder : ∀ q ∈ kc_X4_finder, Cond.constant RX4 q.1 q.2 ∈ zTs := fun _ h => absurd h List.not_mem_nil
def nw_X4_finder : List (Nat × Nat × Nat × List Value) := []
theorem hnw_X4_finder : ∀ q ∈ nw_X4_finder, zNew RX4 q := fun _ h => absurd h List.not_mem_nil
set_option maxHeartbeats 4000000 in
set_option maxRecDepth 20000 in
theorem c_X4_finder {l : Launch} (hl0 : l.stackTraces = false) : CT l yX4_finder (.code yX4_finder cX4_finder 2 (some .int)) 6 1 6 false sp_X4_finder := by
  refine zCT_of hl0 (own := RX4) fl_RX4 cs_X4_finder nw_X4_finder th_X4_finder kc_X4_finder (fun _ => []) false pg_X4_finder rfl (by decide +kernel) hp_X4_finder ⟨_, _, rfl, rfl⟩ hfl_RX4 (fun h => nomatch h) (hcs_X4_finder hl0) hnw_X4_finder hth_X4_finder (fun _ _ h => absurd h List.not_mem_nil) hkc_X4_finder (fun args w Q X v0 hv0 h => ?_)
  obtain ⟨α, ν, r, c, x, hc, rfl, rfl, h1, h2⟩ := h
  refine ⟨Nat.le_of_ble_eq_true rfl, 20, [], ?_, fun q hq => absurd hq List.not_mem_nil⟩
  (conv => whnf)
  refine ⟨_, rfl, fun q => ?_, fun q => ?_⟩
  · obtain ⟨k, hk, rfl⟩ := vp_in_of q (by decide)
    (conv => whnf)
    refine ⟨α, ν, r, k, hk, rfl, rfl, ?_⟩
    (conv => whnf)
    refine ⟨α, ν, r, c, _, hc, rfl, rfl, fun z hz => ?_⟩
    (conv => whnf)
    exact h2 k hk rfl z hz
  · (conv => whnf)
    exact h1 q
def sp_X4_claims : zSpec := fun args w Q _ => ∃ α ν r, args = [.ref 0] ∧ w = WX α ν r ∧ Q (some (.int (ν 3))) (WX α ν r)
def pg_X4_claims : List zE := [(0, .aload_n 0, 1, []), (1, .getfield 26, 3, []), (4, .invokevirtual 187, 3, []), (7, .ireturn, 1, [])]
theorem hp_X4_claims : ∀ q ∈ pg_X4_claims, decode cX4_claims q.1 = .ok (q.2.1, q.2.2.1) ∧ ztg q.2.1 q.1 q.2.2.1 q.2.2.2 = true := zpg_of (by decide +kernel)
def cs_X4_claims : List (Nat × zCall) := [(187, 0, 1, some 2, 0, 0, false, sp_X1_count)]
theorem hcs_X4_claims {l : Launch} (hl0 : l.stackTraces = false) : ∀ q ∈ cs_X4_claims, zCallable l RX4 2 q := List.forall_mem_cons.mpr ⟨zcV (C := (RX1, TX1, 4)) (ps := [424, 425, 426, 18, 427]) (c_X1_count hl0) (by decide +kernel) rfl ⟨rfl, by decide +kernel, by decide +kernel, by decide +kernel⟩ (by decide) (by decide), fun _ h => absurd h List.not_mem_nil⟩
def th_X4_claims : List (Nat × String) := []
theorem hth_X4_claims : ∀ q ∈ th_X4_claims, zThrow cX4_claims RX4 q := fun _ h => absurd h List.not_mem_nil
def kc_X4_claims : List (Nat × Int32) := []
theorem hkc_X4_claims : ∀ q ∈ kc_X4_claims, Cond.constant RX4 q.1 q.2 ∈ zTs := fun _ h => absurd h List.not_mem_nil
def nw_X4_claims : List (Nat × Nat × Nat × List Value) := []
theorem hnw_X4_claims : ∀ q ∈ nw_X4_claims, zNew RX4 q := fun _ h => absurd h List.not_mem_nil
set_option maxHeartbeats 4000000 in
set_option maxRecDepth 20000 in
theorem c_X4_claims {l : Launch} (hl0 : l.stackTraces = false) : CT l yX4_claims (.code yX4_claims cX4_claims 1 (some .int)) 2 0 0 false sp_X4_claims := by
  refine zCT_of hl0 (own := RX4) fl_RX4 cs_X4_claims nw_X4_claims th_X4_claims kc_X4_claims (fun _ => []) false pg_X4_claims rfl (by decide +kernel) hp_X4_claims ⟨_, _, rfl, rfl⟩ hfl_RX4 (fun h => nomatch h) (hcs_X4_claims hl0) hnw_X4_claims hth_X4_claims (fun _ _ h => absurd h List.not_mem_nil) hkc_X4_claims (fun args w Q X v0 hv0 h => ?_)
  obtain ⟨α, ν, r, rfl, rfl, hQ⟩ := h
  refine ⟨Nat.le_of_ble_eq_true rfl, 20, [], ?_, fun q hq => absurd hq List.not_mem_nil⟩
  (conv => whnf)
  refine ⟨α, ν, r, rfl, rfl, ?_⟩
  (conv => whnf)
  exact hQ
def sp_X4_runs : zSpec := fun args w Q X => ∃ α ν r c x, c ≤ 40 ∧ ν 3 = nI c ∧ args = [.ref 0, .int x] ∧ w = WX α ν r ∧ (¬ vp_in x c → X zIOO (WX α ν r)) ∧ ∀ j, j < c → x = nI j → zB Q (ν 0 < α 10 j) (WX α ν r)
def pg_X4_runs : List zE := [(0, .aload_n 0, 1, []), (1, .iload_n 1, 1, []), (2, .invokevirtual 166, 3, []), (5, .aload_n 0, 1, []), (6, .getfield 26, 3, []), (9, .iload_n 1, 1, []), (10, .aload_n 0, 1, []), (11, .getfield 44, 3, []), (14, .invokevirtual 169, 3, []), (17, .ireturn, 1, [])]
theorem hp_X4_runs : ∀ q ∈ pg_X4_runs, decode cX4_runs q.1 = .ok (q.2.1, q.2.2.1) ∧ ztg q.2.1 q.1 q.2.2.1 q.2.2.2 = true := zpg_of (by decide +kernel)
def cs_X4_runs : List (Nat × zCall) := [(166, 0, 2, some 5, 1, 6, false, sp_X4_requireClaim), (169, 0, 3, some 2, 0, 0, false, sp_X1_isRunning)]
theorem hcs_X4_runs {l : Launch} (hl0 : l.stackTraces = false) : ∀ q ∈ cs_X4_runs, zCallable l RX4 3 q := List.forall_mem_cons.mpr ⟨zcV (C := (RX4, TX4, 6)) (ps := [452, 454, 6, 14, 455]) (c_X4_requireClaim hl0) (by decide +kernel) rfl ⟨rfl, by decide +kernel, by decide +kernel, by decide +kernel⟩ (by decide) (by decide), List.forall_mem_cons.mpr ⟨zcV (C := (RX1, TX1, 4)) (ps := [428, 429, 430, 18, 431]) (c_X1_isRunning hl0) (by decide +kernel) rfl ⟨rfl, by decide +kernel, by decide +kernel, by decide +kernel⟩ (by decide) (by decide), fun _ h => absurd h List.not_mem_nil⟩⟩
def th_X4_runs : List (Nat × String) := []
theorem hth_X4_runs : ∀ q ∈ th_X4_runs, zThrow cX4_runs RX4 q := fun _ h => absurd h List.not_mem_nil
def kc_X4_runs : List (Nat × Int32) := []
theorem hkc_X4_runs : ∀ q ∈ kc_X4_runs, Cond.constant RX4 q.1 q.2 ∈ zTs := fun _ h => absurd h List.not_mem_nil
def nw_X4_runs : List (Nat × Nat × Nat × List Value) := []
theorem hnw_X4_runs : ∀ q ∈ nw_X4_runs, zNew RX4 q := fun _ h => absurd h List.not_mem_nil
set_option maxHeartbeats 4000000 in
set_option maxRecDepth 20000 in
theorem c_X4_runs {l : Launch} (hl0 : l.stackTraces = false) : CT l yX4_runs (.code yX4_runs cX4_runs 2 (some .boolean)) 3 1 6 false sp_X4_runs := by
  refine zCT_of hl0 (own := RX4) fl_RX4 cs_X4_runs nw_X4_runs th_X4_runs kc_X4_runs (fun _ => []) false pg_X4_runs rfl (by decide +kernel) hp_X4_runs ⟨_, _, rfl, rfl⟩ hfl_RX4 (fun h => nomatch h) (hcs_X4_runs hl0) hnw_X4_runs hth_X4_runs (fun _ _ h => absurd h List.not_mem_nil) hkc_X4_runs (fun args w Q X v0 hv0 h => ?_)
  obtain ⟨α, ν, r, c, x, hc, hν, rfl, rfl, h1, h2⟩ := h
  refine ⟨Nat.le_of_ble_eq_true rfl, 20, [], ?_, fun q hq => absurd hq List.not_mem_nil⟩
  (conv => whnf)
  refine ⟨α, ν, r, c, x, hc, hν, rfl, rfl, fun q => ?_, fun q => ?_⟩
  · obtain ⟨j, hj, rfl⟩ := vp_in_of q (by omega)
    obtain ⟨h3, h4⟩ := h2 j hj rfl
    (conv => whnf)
    refine ⟨α, ν, r, c, j, ν 0, hc, hν, hj, rfl, rfl, fun e => ?_, fun e => ?_⟩
    · (conv => whnf)
      exact ⟨Or.inr rfl, h3 e⟩
    · (conv => whnf)
      exact ⟨Or.inl rfl, h4 e⟩
  · (conv => whnf)
    exact h1 q
def sp_X4_holds : zSpec := fun args w Q X => ∃ α ν r c x, zCk α ν c ∧ args = [.ref 0, .int x] ∧ w = WX α ν r ∧ (¬ vp_in x c → X zIOO (WX α ν r)) ∧ ∀ j k, j < c → k < 96 → x = nI j → α 9 j = nI k → ∀ z, zHR α ν c (α 3 k) z → zB Q (z = nI j) (WX α ν r)
def pg_X4_holds : List zE := [(0, .aload_n 0, 1, []), (1, .iload_n 1, 1, []), (2, .invokevirtual 166, 3, []), (5, .aload_n 0, 1, []), (6, .aload_n 0, 1, []), (7, .getfield 12, 3, []), (10, .aload_n 0, 1, []), (11, .getfield 26, 3, []), (14, .iload_n 1, 1, []), (15, .invokevirtual 190, 3, []), (18, .invokevirtual 77, 3, []), (21, .invokevirtual 199, 3, []), (24, .iload_n 1, 1, []), (25, .if_icmp .ne 7, 3, [32]), (28, .iconst 1, 1, [1]), (29, .goto 4, 3, [33]), (32, .iconst 0, 1, [0]), (33, .ireturn, 1, [])]
theorem hp_X4_holds : ∀ q ∈ pg_X4_holds, decode cX4_holds q.1 = .ok (q.2.1, q.2.2.1) ∧ ztg q.2.1 q.1 q.2.2.1 q.2.2.2 = true := zpg_of (by decide +kernel)
def cs_X4_holds : List (Nat × zCall) := [(166, 0, 2, some 5, 1, 6, false, sp_X4_requireClaim), (190, 0, 2, some 2, 0, 0, false, sp_X1_cellOf), (77, 0, 2, some 1, 0, 0, false, sp_X0_shapeAt), (199, 0, 2, some 5, 0, 0, false, sp_X4_claimOnShape)]
theorem hcs_X4_holds {l : Launch} (hl0 : l.stackTraces = false) : ∀ q ∈ cs_X4_holds, zCallable l RX4 5 q := List.forall_mem_cons.mpr ⟨zcV (C := (RX4, TX4, 6)) (ps := [452, 454, 6, 14, 455]) (c_X4_requireClaim hl0) (by decide +kernel) rfl ⟨rfl, by decide +kernel, by decide +kernel, by decide +kernel⟩ (by decide) (by decide), List.forall_mem_cons.mpr ⟨zcV (C := (RX1, TX1, 4)) (ps := [436, 437, 438, 18, 439]) (c_X1_cellOf hl0) (by decide +kernel) rfl ⟨rfl, by decide +kernel, by decide +kernel, by decide +kernel⟩ (by decide) (by decide), List.forall_mem_cons.mpr ⟨zcV (C := (RX0, TX0, 8)) (ps := [330, 331, 332, 15, 333]) (c_X0_shapeAt hl0) (by decide +kernel) rfl ⟨rfl, by decide +kernel, by decide +kernel, by decide +kernel⟩ (by decide) (by decide), List.forall_mem_cons.mpr ⟨zcV (C := (RX4, TX4, 6)) (ps := [420, 422, 5, 14, 423]) (c_X4_claimOnShape hl0) (by decide +kernel) rfl ⟨rfl, by decide +kernel, by decide +kernel, by decide +kernel⟩ (by decide) (by decide), fun _ h => absurd h List.not_mem_nil⟩⟩⟩⟩
def th_X4_holds : List (Nat × String) := []
theorem hth_X4_holds : ∀ q ∈ th_X4_holds, zThrow cX4_holds RX4 q := fun _ h => absurd h List.not_mem_nil
def kc_X4_holds : List (Nat × Int32) := []
theorem hkc_X4_holds : ∀ q ∈ kc_X4_holds, Cond.constant RX4 q.1 q.2 ∈ zTs := fun _ h => absurd h List.not_mem_nil
def nw_X4_holds : List (Nat × Nat × Nat × List Value) := []
theorem hnw_X4_holds : ∀ q ∈ nw_X4_holds, zNew RX4 q := fun _ h => absurd h List.not_mem_nil
set_option maxHeartbeats 4000000 in
set_option maxRecDepth 20000 in
theorem c_X4_holds {l : Launch} (hl0 : l.stackTraces = false) : CT l yX4_holds (.code yX4_holds cX4_holds 2 (some .boolean)) 5 1 6 false sp_X4_holds := by
  refine zCT_of hl0 (own := RX4) fl_RX4 cs_X4_holds nw_X4_holds th_X4_holds kc_X4_holds (fun _ => []) false pg_X4_holds rfl (by decide +kernel) hp_X4_holds ⟨_, _, rfl, rfl⟩ hfl_RX4 (fun h => nomatch h) (hcs_X4_holds hl0) hnw_X4_holds hth_X4_holds (fun _ _ h => absurd h List.not_mem_nil) hkc_X4_holds (fun args w Q X v0 hv0 h => ?_)
  obtain ⟨α, ν, r, c, x, hc, rfl, rfl, h1, h2⟩ := h
  refine ⟨Nat.le_of_ble_eq_true rfl, 60, [], ?_, fun q hq => absurd hq List.not_mem_nil⟩
  (conv => whnf)
  refine ⟨α, ν, r, c, x, hc.1, hc.2.1, rfl, rfl, fun q => ?_, fun q => ?_⟩
  · obtain ⟨j, hj, rfl⟩ := vp_in_of q (by have := hc.1; omega)
    obtain ⟨k, hk, e⟩ := hc.2.2 j hj
    (conv => whnf)
    refine ⟨α, ν, r, c, j, hc.1, hc.2.1, hj, rfl, rfl, ?_⟩
    (conv => whnf)
    refine ⟨α, ν, r, k, hk, by rw [e], rfl, ?_⟩
    (conv => whnf)
    refine ⟨α, ν, r, c, _, hc, rfl, rfl, fun z hz => ?_⟩
    obtain ⟨h3, h4⟩ := h2 j k hj hk rfl e z hz
    (conv => whnf)
    refine And.intro (fun g => ?_) (fun g => ?_)
    · (conv => whnf)
      exact ⟨Or.inr rfl, h3 g⟩
    · (conv => whnf)
      exact ⟨Or.inl rfl, h4 g⟩
  · (conv => whnf)
    exact h1 q
def sp_X4_things : zSpec := fun args w Q _ => ∃ α ν r, args = [.ref 0] ∧ w = WX α ν r ∧ Q (some (.int (ν 4))) (WX α ν r)
def pg_X4_things : List zE := [(0, .aload_n 0, 1, []), (1, .getfield 33, 3, []), (4, .invokevirtual 202, 3, []), (7, .ireturn, 1, [])]
theorem hp_X4_things : ∀ q ∈ pg_X4_things, decode cX4_things q.1 = .ok (q.2.1, q.2.2.1) ∧ ztg q.2.1 q.1 q.2.2.1 q.2.2.2 = true := zpg_of (by decide +kernel)
def cs_X4_things : List (Nat × zCall) := [(202, 0, 1, some 4, 0, 0, false, sp_X3_count)]
theorem hcs_X4_things {l : Launch} (hl0 : l.stackTraces = false) : ∀ q ∈ cs_X4_things, zCallable l RX4 2 q := List.forall_mem_cons.mpr ⟨zcV (C := (RX3, TX3, 5)) (ps := [466, 467, 468, 19, 469]) (c_X3_count hl0) (by decide +kernel) rfl ⟨rfl, by decide +kernel, by decide +kernel, by decide +kernel⟩ (by decide) (by decide), fun _ h => absurd h List.not_mem_nil⟩
def th_X4_things : List (Nat × String) := []
theorem hth_X4_things : ∀ q ∈ th_X4_things, zThrow cX4_things RX4 q := fun _ h => absurd h List.not_mem_nil
def kc_X4_things : List (Nat × Int32) := []
theorem hkc_X4_things : ∀ q ∈ kc_X4_things, Cond.constant RX4 q.1 q.2 ∈ zTs := fun _ h => absurd h List.not_mem_nil
def nw_X4_things : List (Nat × Nat × Nat × List Value) := []
theorem hnw_X4_things : ∀ q ∈ nw_X4_things, zNew RX4 q := fun _ h => absurd h List.not_mem_nil
set_option maxHeartbeats 4000000 in
set_option maxRecDepth 20000 in
theorem c_X4_things {l : Launch} (hl0 : l.stackTraces = false) : CT l yX4_things (.code yX4_things cX4_things 1 (some .int)) 2 0 0 false sp_X4_things := by
  refine zCT_of hl0 (own := RX4) fl_RX4 cs_X4_things nw_X4_things th_X4_things kc_X4_things (fun _ => []) false pg_X4_things rfl (by decide +kernel) hp_X4_things ⟨_, _, rfl, rfl⟩ hfl_RX4 (fun h => nomatch h) (hcs_X4_things hl0) hnw_X4_things hth_X4_things (fun _ _ h => absurd h List.not_mem_nil) hkc_X4_things (fun args w Q X v0 hv0 h => ?_)
  obtain ⟨α, ν, r, rfl, rfl, hQ⟩ := h
  refine ⟨Nat.le_of_ble_eq_true rfl, 20, [], ?_, fun q hq => absurd hq List.not_mem_nil⟩
  (conv => whnf)
  refine ⟨α, ν, r, rfl, rfl, ?_⟩
  (conv => whnf)
  exact hQ
def zThg (i : Nat) : zSpec := fun args w Q X => ∃ α ν r c x, c ≤ 60 ∧ ν 4 = nI c ∧ args = [.ref 0, .int x] ∧ w = WX α ν r ∧ (¬ vp_in x c → X zIOO (WX α ν r)) ∧ ∀ j, j < c → x = nI j → Q (some (.int (α i j))) (WX α ν r)
def sp_X4_shapeOfThing : zSpec := zThg 11
def pg_X4_shapeOfThing : List zE := [(0, .aload_n 0, 1, []), (1, .iload_n 1, 1, []), (2, .invokevirtual 203, 3, []), (5, .aload_n 0, 1, []), (6, .getfield 33, 3, []), (9, .iload_n 1, 1, []), (10, .invokevirtual 206, 3, []), (13, .ireturn, 1, [])]
theorem hp_X4_shapeOfThing : ∀ q ∈ pg_X4_shapeOfThing, decode cX4_shapeOfThing q.1 = .ok (q.2.1, q.2.2.1) ∧ ztg q.2.1 q.1 q.2.2.1 q.2.2.2 = true := zpg_of (by decide +kernel)
def cs_X4_shapeOfThing : List (Nat × zCall) := [(203, 0, 2, some 5, 1, 6, false, sp_X4_requireThing), (206, 0, 2, some 4, 0, 0, false, sp_X3_shapeBehind)]
theorem hcs_X4_shapeOfThing {l : Launch} (hl0 : l.stackTraces = false) : ∀ q ∈ cs_X4_shapeOfThing, zCallable l RX4 3 q := List.forall_mem_cons.mpr ⟨zcV (C := (RX4, TX4, 6)) (ps := [474, 476, 7, 14, 477]) (c_X4_requireThing hl0) (by decide +kernel) rfl ⟨rfl, by decide +kernel, by decide +kernel, by decide +kernel⟩ (by decide) (by decide), List.forall_mem_cons.mpr ⟨zcV (C := (RX3, TX3, 5)) (ps := [483, 484, 485, 19, 486]) (c_X3_shapeBehind hl0) (by decide +kernel) rfl ⟨rfl, by decide +kernel, by decide +kernel, by decide +kernel⟩ (by decide) (by decide), fun _ h => absurd h List.not_mem_nil⟩⟩
def th_X4_shapeOfThing : List (Nat × String) := []
theorem hth_X4_shapeOfThing : ∀ q ∈ th_X4_shapeOfThing, zThrow cX4_shapeOfThing RX4 q := fun _ h => absurd h List.not_mem_nil
def kc_X4_shapeOfThing : List (Nat × Int32) := []
theorem hkc_X4_shapeOfThing : ∀ q ∈ kc_X4_shapeOfThing, Cond.constant RX4 q.1 q.2 ∈ zTs := fun _ h => absurd h List.not_mem_nil
def nw_X4_shapeOfThing : List (Nat × Nat × Nat × List Value) := []
theorem hnw_X4_shapeOfThing : ∀ q ∈ nw_X4_shapeOfThing, zNew RX4 q := fun _ h => absurd h List.not_mem_nil
set_option maxHeartbeats 4000000 in
set_option maxRecDepth 20000 in
theorem c_X4_shapeOfThing {l : Launch} (hl0 : l.stackTraces = false) : CT l yX4_shapeOfThing (.code yX4_shapeOfThing cX4_shapeOfThing 2 (some .int)) 3 1 6 false sp_X4_shapeOfThing := by
  refine zCT_of hl0 (own := RX4) fl_RX4 cs_X4_shapeOfThing nw_X4_shapeOfThing th_X4_shapeOfThing kc_X4_shapeOfThing (fun _ => []) false pg_X4_shapeOfThing rfl (by decide +kernel) hp_X4_shapeOfThing ⟨_, _, rfl, rfl⟩ hfl_RX4 (fun h => nomatch h) (hcs_X4_shapeOfThing hl0) hnw_X4_shapeOfThing hth_X4_shapeOfThing (fun _ _ h => absurd h List.not_mem_nil) hkc_X4_shapeOfThing (fun args w Q X v0 hv0 h => ?_)
  obtain ⟨α, ν, r, c, x, hc, hν, rfl, rfl, h1, h2⟩ := h
  refine ⟨Nat.le_of_ble_eq_true rfl, 20, [], ?_, fun q hq => absurd hq List.not_mem_nil⟩
  (conv => whnf)
  refine ⟨α, ν, r, c, x, hc, hν, rfl, rfl, fun q => ?_, fun q => ?_⟩
  · obtain ⟨j, hj, rfl⟩ := vp_in_of q (by omega)
    (conv => whnf)
    refine ⟨α, ν, r, c, j, hc, hν, hj, rfl, rfl, ?_⟩
    (conv => whnf)
    exact h2 j hj rfl
  · (conv => whnf)
    exact h1 q
def sp_X4_finderOfThing : zSpec := zThg 12
def pg_X4_finderOfThing : List zE := [(0, .aload_n 0, 1, []), (1, .iload_n 1, 1, []), (2, .invokevirtual 203, 3, []), (5, .aload_n 0, 1, []), (6, .getfield 33, 3, []), (9, .iload_n 1, 1, []), (10, .invokevirtual 209, 3, []), (13, .ireturn, 1, [])]
theorem hp_X4_finderOfThing : ∀ q ∈ pg_X4_finderOfThing, decode cX4_finderOfThing q.1 = .ok (q.2.1, q.2.2.1) ∧ ztg q.2.1 q.1 q.2.2.1 q.2.2.2 = true := zpg_of (by decide +kernel)
def cs_X4_finderOfThing : List (Nat × zCall) := [(203, 0, 2, some 5, 1, 6, false, sp_X4_requireThing), (209, 0, 2, some 4, 0, 0, false, sp_X3_finderBehind)]
theorem hcs_X4_finderOfThing {l : Launch} (hl0 : l.stackTraces = false) : ∀ q ∈ cs_X4_finderOfThing, zCallable l RX4 3 q := List.forall_mem_cons.mpr ⟨zcV (C := (RX4, TX4, 6)) (ps := [474, 476, 7, 14, 477]) (c_X4_requireThing hl0) (by decide +kernel) rfl ⟨rfl, by decide +kernel, by decide +kernel, by decide +kernel⟩ (by decide) (by decide), List.forall_mem_cons.mpr ⟨zcV (C := (RX3, TX3, 5)) (ps := [492, 493, 494, 19, 495]) (c_X3_finderBehind hl0) (by decide +kernel) rfl ⟨rfl, by decide +kernel, by decide +kernel, by decide +kernel⟩ (by decide) (by decide), fun _ h => absurd h List.not_mem_nil⟩⟩
def th_X4_finderOfThing : List (Nat × String) := []
theorem hth_X4_finderOfThing : ∀ q ∈ th_X4_finderOfThing, zThrow cX4_finderOfThing RX4 q := fun _ h => absurd h List.not_mem_nil
def kc_X4_finderOfThing : List (Nat × Int32) := []
theorem hkc_X4_finderOfThing : ∀ q ∈ kc_X4_finderOfThing, Cond.constant RX4 q.1 q.2 ∈ zTs := fun _ h => absurd h List.not_mem_nil
def nw_X4_finderOfThing : List (Nat × Nat × Nat × List Value) := []
theorem hnw_X4_finderOfThing : ∀ q ∈ nw_X4_finderOfThing, zNew RX4 q := fun _ h => absurd h List.not_mem_nil
set_option maxHeartbeats 4000000 in
set_option maxRecDepth 20000 in
theorem c_X4_finderOfThing {l : Launch} (hl0 : l.stackTraces = false) : CT l yX4_finderOfThing (.code yX4_finderOfThing cX4_finderOfThing 2 (some .int)) 3 1 6 false sp_X4_finderOfThing := by
  refine zCT_of hl0 (own := RX4) fl_RX4 cs_X4_finderOfThing nw_X4_finderOfThing th_X4_finderOfThing kc_X4_finderOfThing (fun _ => []) false pg_X4_finderOfThing rfl (by decide +kernel) hp_X4_finderOfThing ⟨_, _, rfl, rfl⟩ hfl_RX4 (fun h => nomatch h) (hcs_X4_finderOfThing hl0) hnw_X4_finderOfThing hth_X4_finderOfThing (fun _ _ h => absurd h List.not_mem_nil) hkc_X4_finderOfThing (fun args w Q X v0 hv0 h => ?_)
  obtain ⟨α, ν, r, c, x, hc, hν, rfl, rfl, h1, h2⟩ := h
  refine ⟨Nat.le_of_ble_eq_true rfl, 20, [], ?_, fun q hq => absurd hq List.not_mem_nil⟩
  (conv => whnf)
  refine ⟨α, ν, r, c, x, hc, hν, rfl, rfl, fun q => ?_, fun q => ?_⟩
  · obtain ⟨j, hj, rfl⟩ := vp_in_of q (by omega)
    (conv => whnf)
    refine ⟨α, ν, r, c, j, hc, hν, hj, rfl, rfl, ?_⟩
    (conv => whnf)
    exact h2 j hj rfl
  · (conv => whnf)
    exact h1 q
def sp_X4_reward : zSpec := fun args w Q X => ∃ α ν r x, args = [.ref 0, .int x] ∧ w = WX α ν r ∧ (¬ vp_in x 6 → X zIOO (WX α ν r)) ∧ ∀ j, j < 6 → x = nI j → Q (some (.int (α 13 j))) (WX α ν r)
def pg_X4_reward : List zE := [(0, .iload_n 1, 1, []), (1, .invokestatic 155, 3, []), (4, .aload_n 0, 1, []), (5, .getfield 33, 3, []), (8, .iload_n 1, 1, []), (9, .invokevirtual 212, 3, []), (12, .ireturn, 1, [])]
theorem hp_X4_reward : ∀ q ∈ pg_X4_reward, decode cX4_reward q.1 = .ok (q.2.1, q.2.2.1) ∧ ztg q.2.1 q.1 q.2.2.1 q.2.2.2 = true := zpg_of (by decide +kernel)
def cs_X4_reward : List (Nat × zCall) := [(155, 1, 1, none, 1, 6, false, sp_X4_requireFinder), (212, 0, 2, some 4, 0, 0, false, sp_X3_rewardOf)]
theorem hcs_X4_reward {l : Launch} (hl0 : l.stackTraces = false) : ∀ q ∈ cs_X4_reward, zCallable l RX4 3 q := List.forall_mem_cons.mpr ⟨zcS (ps := [588, 589, 14, 590]) (c_X4_requireFinder hl0) (by decide +kernel) ⟨by decide +kernel, by decide +kernel, by decide +kernel⟩ (by decide) (by decide), List.forall_mem_cons.mpr ⟨zcV (C := (RX3, TX3, 5)) (ps := [844, 845, 846, 19, 847]) (c_X3_rewardOf hl0) (by decide +kernel) rfl ⟨rfl, by decide +kernel, by decide +kernel, by decide +kernel⟩ (by decide) (by decide), fun _ h => absurd h List.not_mem_nil⟩⟩
def th_X4_reward : List (Nat × String) := []
theorem hth_X4_reward : ∀ q ∈ th_X4_reward, zThrow cX4_reward RX4 q := fun _ h => absurd h List.not_mem_nil
def kc_X4_reward : List (Nat × Int32) := []
theorem hkc_X4_reward : ∀ q ∈ kc_X4_reward, Cond.constant RX4 q.1 q.2 ∈ zTs := fun _ h => absurd h List.not_mem_nil
def nw_X4_reward : List (Nat × Nat × Nat × List Value) := []
theorem hnw_X4_reward : ∀ q ∈ nw_X4_reward, zNew RX4 q := fun _ h => absurd h List.not_mem_nil
set_option maxHeartbeats 4000000 in
set_option maxRecDepth 20000 in
theorem c_X4_reward {l : Launch} (hl0 : l.stackTraces = false) : CT l yX4_reward (.code yX4_reward cX4_reward 2 (some .int)) 3 1 6 false sp_X4_reward := by
  refine zCT_of hl0 (own := RX4) fl_RX4 cs_X4_reward nw_X4_reward th_X4_reward kc_X4_reward (fun _ => []) false pg_X4_reward rfl (by decide +kernel) hp_X4_reward ⟨_, _, rfl, rfl⟩ hfl_RX4 (fun h => nomatch h) (hcs_X4_reward hl0) hnw_X4_reward hth_X4_reward (fun _ _ h => absurd h List.not_mem_nil) hkc_X4_reward (fun args w Q X v0 hv0 h => ?_)
  obtain ⟨α, ν, r, x, rfl, rfl, h1, h2⟩ := h
  refine ⟨Nat.le_of_ble_eq_true rfl, 20, [], ?_, fun q hq => absurd hq List.not_mem_nil⟩
  (conv => whnf)
  refine ⟨_, rfl, fun q => ?_, fun q => ?_⟩
  · obtain ⟨j, hj, rfl⟩ := vp_in_of q (by decide)
    (conv => whnf)
    refine ⟨α, ν, r, j, hj, rfl, rfl, ?_⟩
    (conv => whnf)
    exact h2 j hj rfl
  · (conv => whnf)
    exact h1 q
def sp_X4_kept : zSpec := fun args w Q _ => ∃ α ν r, args = [.ref 0] ∧ w = WX α ν r ∧ Q (some (.int (ν 5))) (WX α ν r)
def pg_X4_kept : List zE := [(0, .aload_n 0, 1, []), (1, .getfield 33, 3, []), (4, .invokevirtual 215, 3, []), (7, .ireturn, 1, [])]
theorem hp_X4_kept : ∀ q ∈ pg_X4_kept, decode cX4_kept q.1 = .ok (q.2.1, q.2.2.1) ∧ ztg q.2.1 q.1 q.2.2.1 q.2.2.2 = true := zpg_of (by decide +kernel)
def cs_X4_kept : List (Nat × zCall) := [(215, 0, 1, some 4, 0, 0, false, sp_X3_keptByLaw)]
theorem hcs_X4_kept {l : Launch} (hl0 : l.stackTraces = false) : ∀ q ∈ cs_X4_kept, zCallable l RX4 2 q := List.forall_mem_cons.mpr ⟨zcV (C := (RX3, TX3, 5)) (ps := [836, 837, 838, 19, 839]) (c_X3_keptByLaw hl0) (by decide +kernel) rfl ⟨rfl, by decide +kernel, by decide +kernel, by decide +kernel⟩ (by decide) (by decide), fun _ h => absurd h List.not_mem_nil⟩
def th_X4_kept : List (Nat × String) := []
theorem hth_X4_kept : ∀ q ∈ th_X4_kept, zThrow cX4_kept RX4 q := fun _ h => absurd h List.not_mem_nil
def kc_X4_kept : List (Nat × Int32) := []
theorem hkc_X4_kept : ∀ q ∈ kc_X4_kept, Cond.constant RX4 q.1 q.2 ∈ zTs := fun _ h => absurd h List.not_mem_nil
def nw_X4_kept : List (Nat × Nat × Nat × List Value) := []
theorem hnw_X4_kept : ∀ q ∈ nw_X4_kept, zNew RX4 q := fun _ h => absurd h List.not_mem_nil
set_option maxHeartbeats 4000000 in
set_option maxRecDepth 20000 in
theorem c_X4_kept {l : Launch} (hl0 : l.stackTraces = false) : CT l yX4_kept (.code yX4_kept cX4_kept 1 (some .int)) 2 0 0 false sp_X4_kept := by
  refine zCT_of hl0 (own := RX4) fl_RX4 cs_X4_kept nw_X4_kept th_X4_kept kc_X4_kept (fun _ => []) false pg_X4_kept rfl (by decide +kernel) hp_X4_kept ⟨_, _, rfl, rfl⟩ hfl_RX4 (fun h => nomatch h) (hcs_X4_kept hl0) hnw_X4_kept hth_X4_kept (fun _ _ h => absurd h List.not_mem_nil) hkc_X4_kept (fun args w Q X v0 hv0 h => ?_)
  obtain ⟨α, ν, r, rfl, rfl, hQ⟩ := h
  refine ⟨Nat.le_of_ble_eq_true rfl, 20, [], ?_, fun q hq => absurd hq List.not_mem_nil⟩
  (conv => whnf)
  refine ⟨α, ν, r, rfl, rfl, ?_⟩
  (conv => whnf)
  exact hQ
