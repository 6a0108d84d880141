/-! ===== EchoRegistry$Chart: the outing, the shapes found anew ===== -/
/-- what one reach does -/
def zRch (h : Nat → Int32) (o x : Int32) (n : Nat) (a4 a5 : Nat → Int32) (n' : Nat) (b4 b5 : Nat → Int32) : Prop :=
  (∃ c, c < 96 ∧ x = nI c ∧ n < 96 ∧ ¬ h c = 0 ∧ ¬ a5 c = o ∧ n' = n + 1 ∧ b4 = upd a4 n (nI c) ∧ b5 = upd a5 c o) ∨
  ((¬ ∃ c, c < 96 ∧ x = nI c ∧ n < 96 ∧ ¬ h c = 0 ∧ ¬ a5 c = o) ∧ n' = n ∧ b4 = a4 ∧ b5 = a5)
def sp_X0_reach : zSpec := fun args w Q _ => ∃ α ν r x n, n ≤ 96 ∧ args = [.ref 1, .int x, .int (nI n)] ∧ w = WX α ν r ∧ ∀ n' b4 b5, zRch (α 0) (ν 2) x n (α 4) (α 5) n' b4 b5 → Q (some (.int (nI n'))) (WX (zu (zu α 5 b5) 4 b4) ν r)
theorem zWX_45 (α : Nat → Nat → Int32) (ν : Nat → Int32) (r : zW) : WX (zu (zu α 5 (α 5)) 4 (α 4)) ν r = WX α ν r := rfl
def pg_X0_reach : List zE := [(0, .iload_n 1, 1, []), (1, .invokestatic 43, 3, []), (4, .ifCond .eq 31, 3, [35]), (7, .iload_n 2, 1, []), (8, .bipush 96, 2, [96]), (10, .if_icmp .ge 25, 3, [35]), (13, .aload_n 0, 1, []), (14, .getfield 9, 3, []), (17, .iload_n 1, 1, []), (18, .iaload, 1, []), (19, .ifCond .eq 16, 3, [35]), (22, .aload_n 0, 1, []), (23, .getfield 33, 3, []), (26, .iload_n 1, 1, []), (27, .iaload, 1, []), (28, .aload_n 0, 1, []), (29, .getfield 40, 3, []), (32, .if_icmp .ne 5, 3, [37]), (35, .iload_n 2, 1, []), (36, .ireturn, 1, []), (37, .aload_n 0, 1, []), (38, .getfield 33, 3, []), (41, .iload_n 1, 1, []), (42, .aload_n 0, 1, []), (43, .getfield 40, 3, []), (46, .iastore, 1, []), (47, .aload_n 0, 1, []), (48, .getfield 30, 3, []), (51, .iload_n 2, 1, []), (52, .iload_n 1, 1, []), (53, .iastore, 1, []), (54, .iload_n 2, 1, []), (55, .iconst 1, 1, [1]), (56, .iadd, 1, []), (57, .ireturn, 1, [])]
theorem hp_X0_reach : ∀ q ∈ pg_X0_reach, decode cX0_reach q.1 = .ok (q.2.1, q.2.2.1) ∧ ztg q.2.1 q.1 q.2.2.1 q.2.2.2 = true := zpg_of (by decide +kernel)
def cs_X0_reach : List (Nat × zCall) := [(43, 1, 1, none, 0, 0, false, sp_X4_isCell)]
theorem hcs_X0_reach {l : Launch} (hl0 : l.stackTraces = false) : ∀ q ∈ cs_X0_reach, zCallable l RX0 2 q := List.forall_mem_cons.mpr ⟨zcN (ps := [194, 14, 195]) (host := RX4) (c_X4_isCell hl0) (by decide +kernel) (by decide +kernel) ⟨by decide +kernel, by decide +kernel, by decide +kernel⟩ (by decide) (by decide), fun _ h => absurd h List.not_mem_nil⟩
def th_X0_reach : List (Nat × String) := []
theorem hth_X0_reach : ∀ q ∈ th_X0_reach, zThrow cX0_reach RX0 q := fun _ h => absurd h List.not_mem_nil
def kc_X0_reach : List (Nat × Int32) := []
theorem hkc_X0_reach : ∀ q ∈ kc_X0_reach, Cond.constant RX0 q.1 q.2 ∈ zTs := fun _ h => absurd h List.not_mem_nil
def nw_X0_reach : List (Nat × Nat × Nat × List Value) := []
theorem hnw_X0_reach : ∀ q ∈ nw_X0_reach, zNew RX0 q := fun _ h => absurd h List.not_mem_nil
set_option maxHeartbeats 4000000 in
set_option maxRecDepth 20000 in
theorem c_X0_reach {l : Launch} (hl0 : l.stackTraces = false) : CT l yX0_reach (.code yX0_reach cX0_reach 3 (some .int)) 2 0 0 false sp_X0_reach := by
  refine zCT_of hl0 (own := RX0) fl_RX0 cs_X0_reach nw_X0_reach th_X0_reach kc_X0_reach (fun _ => []) false pg_X0_reach rfl (by decide +kernel) hp_X0_reach ⟨_, _, rfl, rfl⟩ hfl_RX0 (fun h => nomatch h) (hcs_X0_reach hl0) hnw_X0_reach hth_X0_reach (fun _ _ h => absurd h List.not_mem_nil) hkc_X0_reach (fun args w Q X v0 hv0 h => ?_)
  obtain ⟨α, ν, r, x, n, hn, rfl, rfl, hQ⟩ := h
  refine ⟨Nat.le_of_ble_eq_true rfl, 60, [], ?_, fun q hq => absurd hq List.not_mem_nil⟩
  (conv => whnf)
  refine ⟨_, rfl, fun c => ?_, fun c => ?_⟩
  · obtain ⟨k, hk, rfl⟩ := vp_in_of c (by decide)
    (conv => whnf)
    refine And.intro (fun c => absurd c (show ¬ _ from (by decide))) (fun _ => ?_)
    (conv => whnf)
    refine And.intro (fun d => ?_) (fun d => ?_)
    · have hlt : n < 96 := (nI_ltI (by omega) (by omega)).mp d
      (conv => whnf)
      refine ⟨vp_in_nI hk (by decide), ?_⟩
      (conv => whnf)
      rw [nI_clamp (by omega)]
      refine And.intro (fun e => ?_) (fun e => ?_)
      · (conv => whnf)
        exact hQ n (α 4) (α 5) (Or.inr ⟨fun ⟨c', h1, h2, h3, h4, h5⟩ => h4 (by rw [← nI_inj (by omega) (by omega) h2]; exact e), rfl, rfl, rfl⟩)
      · (conv => whnf)
        refine ⟨vp_in_nI hk (by decide), ?_⟩
        (conv => whnf)
        rw [nI_clamp (by omega)]
        refine And.intro (fun f => ?_) (fun f => ?_)
        · (conv => whnf)
          exact hQ n (α 4) (α 5) (Or.inr ⟨fun ⟨c', h1, h2, h3, h4, h5⟩ => h5 (by rw [← nI_inj (by omega) (by omega) h2]; exact f), rfl, rfl, rfl⟩)
        · (conv => whnf)
          refine ⟨vp_in_nI hk (by decide), ?_⟩
          (conv => whnf)
          refine ⟨vp_in_nI hlt (by decide), ?_⟩
          (conv => whnf)
          rw [nI_clamp (by omega), nI_clamp (by omega)]
          dsimp only [zkon]
          rw [nI_add]
          exact hQ (n + 1) _ _ (Or.inl ⟨k, hk, rfl, hlt, e, f, rfl, rfl, rfl⟩)
    · (conv => whnf)
      exact hQ n (α 4) (α 5) (Or.inr ⟨fun ⟨c', h1, h2, h3, h4, h5⟩ => d (nI_lt h3 (by decide)), rfl, rfl, rfl⟩)
  · (conv => whnf)
    refine And.intro (fun _ => ?_) (fun c => absurd (show _ from rfl) c)
    (conv => whnf)
    exact hQ n (α 4) (α 5) (Or.inr ⟨fun ⟨c', h1, h2, h3, h4, h5⟩ => c (by rw [h2]; exact vp_in_nI h1 (by decide)), rfl, rfl, rfl⟩)
theorem pk_addsub (a b : Int32) : a + b - b = a := by
  rw [Int32.sub_eq_add_neg, Int32.add_assoc, Int32.add_right_neg, Int32.add_zero]
/-- the state of an outing from k, with o its number -/
def zGO (h : Nat → Int32) (k o n i : Nat) (a4 a5 : Nat → Int32) : Prop := ∃ ρ : Nat → Nat, zBF h k n i ρ ∧ (∀ j, j < n → a4 j = nI (ρ j)) ∧ (∀ c, c < 96 → (a5 c = nI o ↔ ∃ j, j < n ∧ ρ j = c)) ∧ ∀ c, c < 96 → ∃ t, a5 c = nI t ∧ t ≤ o
theorem zGO_vis {h : Nat → Int32} {k o n i : Nat} {a4 a5 : Nat → Int32} (q : zGO h k o n i a4 a5) : n ≤ 96 ∧ i ≤ n := by
  obtain ⟨ρ, q1, -⟩ := q
  exact ⟨zBF_le q1, q1.1⟩
/-- a reach keeps the outing, forgets no cell, and takes the cell that it is told -/
theorem zGO_reach {h : Nat → Int32} {k o n i n' : Nat} {a4 a5 b4 b5 : Nat → Int32} {x : Int32} (q : zGO h k o n i a4 a5) (hr : zRch h (nI o) x n a4 a5 n' b4 b5) (hx : ∀ c, c < 96 → x = nI c → h c ≠ 0 → zcon h k c) :
    zGO h k o n' i b4 b5 ∧ n ≤ n' ∧ (∀ j, j < n → b4 j = a4 j) ∧ (∀ c, c < 96 → a5 c = nI o → b5 c = nI o) ∧ (∀ c, c < 96 → x = nI c → h c ≠ 0 → b5 c = nI o) := by
  obtain ⟨ρ, q1, q2, q3, q4⟩ := q
  rcases hr with ⟨c, hc, rfl, hn, h0, h5, rfl, rfl, rfl⟩ | ⟨hno, rfl, rfl, rfl⟩
  · have hv : ∀ j, j < n → ρ j ≠ c := fun j hj e => h5 ((q3 c hc).mpr ⟨j, hj, e⟩)
    have hlo : ∀ j, j < n → va_up ρ n c j = ρ j := fun j hj => by
      have : j ≠ n := by omega
      simp [va_up, this]
    have hhi : va_up ρ n c n = c := by simp [va_up]
    refine ⟨⟨va_up ρ n c, zBF_add q1 (hx c hc rfl h0) hv, fun j hj => ?_, fun d hd => ?_, fun d hd => ?_⟩, by omega, fun j hj => ?_, fun d hd e => ?_, fun d hd e h0' => ?_⟩
    · by_cases e : j < n
      · rw [hlo j e, pk_un (by omega)]
        exact q2 j e
      · have : j = n := by omega
        subst this
        rw [hhi, pk_us]
    · by_cases e : d = c
      · subst e
        rw [pk_us]
        exact ⟨fun _ => ⟨n, by omega, hhi⟩, fun _ => rfl⟩
      · rw [pk_un e, q3 d hd]
        constructor
        · rintro ⟨j, hj, e2⟩
          exact ⟨j, by omega, by rw [hlo j hj]; exact e2⟩
        · rintro ⟨j, hj, e2⟩
          by_cases e3 : j < n
          · exact ⟨j, e3, by rw [← hlo j e3]; exact e2⟩
          · have : j = n := by omega
            subst this
            rw [hhi] at e2
            exact absurd e2.symm e
    · by_cases e : d = c
      · subst e
        rw [pk_us]
        exact ⟨o, rfl, Nat.le_refl o⟩
      · rw [pk_un e]
        exact q4 d hd
    · rw [pk_un (by omega)]
    · by_cases e2 : d = c
      · subst e2
        rw [pk_us]
      · rw [pk_un e2]
        exact e
    · have e2 : c = d := nI_inj (by omega) (by omega) e
      subst e2
      rw [pk_us]
  · refine ⟨⟨ρ, q1, q2, q3, q4⟩, Nat.le_refl _, fun _ _ => rfl, fun _ _ e => e, fun c hc e h0 => ?_⟩
    apply Classical.byContradiction
    intro h5
    refine hno ⟨c, hc, e, ?_, h0, h5⟩
    exact zBF_lt q1 hc (fun j hj e2 => h5 ((q3 c hc).mpr ⟨j, hj, e2⟩))
def sp_X0_goOut : zSpec := fun args w Q _ => ∃ α ν r k o, k < 96 ∧ o + 1 < 2 ^ 31 ∧ ν 2 = nI o ∧ (∀ c, c < 96 → ∃ t, α 5 c = nI t ∧ t ≤ o) ∧ args = [.ref 1, .int (nI k)] ∧ w = WX α ν r ∧
  ∀ n a4 a5, zGO (α 0) k (o + 1) n n a4 a5 → Q (some (.int (nI n))) (WX (zu (zu α 5 a5) 4 a4) (zu ν 2 (nI (o + 1))) r)
theorem zGO_start {h : Nat → Int32} {k o n' : Nat} {a4 a5 b4 b5 : Nat → Int32} (hk : k < 96) (ho : o + 1 < 2 ^ 31) (h5 : ∀ c, c < 96 → ∃ t, a5 c = nI t ∧ t ≤ o) (hr : zRch h (nI (o + 1)) (nI k) 0 a4 a5 n' b4 b5) : zGO h k (o + 1) n' 0 b4 b5 := by
  have hne : ∀ c, c < 96 → ¬ a5 c = nI (o + 1) := fun c hc e => by
    obtain ⟨t, e1, e2⟩ := h5 c hc
    have := nI_inj (by omega) (by omega) (e1.symm.trans e)
    omega
  rcases hr with ⟨c, hc, e, hn, h0, hv, rfl, rfl, rfl⟩ | ⟨hno, rfl, rfl, rfl⟩
  · have e2 : k = c := nI_inj (by omega) (by omega) e
    subst e2
    refine ⟨fun _ => k, zBF_1 hk h0 rfl, fun j hj => ?_, fun d hd => ?_, fun d hd => ?_⟩
    · have : j = 0 := by omega
      subst this
      rw [pk_us]
    · by_cases e3 : d = k
      · subst e3
        rw [pk_us]
        exact ⟨fun _ => ⟨0, by omega, rfl⟩, fun _ => rfl⟩
      · rw [pk_un e3]
        exact ⟨fun x => absurd x (hne d hd), fun ⟨_, _, x⟩ => absurd x.symm e3⟩
    · by_cases e3 : d = k
      · subst e3
        rw [pk_us]
        exact ⟨_, rfl, Nat.le_refl _⟩
      · rw [pk_un e3]
        obtain ⟨t, e1, e2⟩ := h5 d hd
        exact ⟨t, e1, by omega⟩
  · have h0 : h k = 0 := by
      apply Classical.byContradiction
      intro x
      exact hno ⟨k, hk, rfl, by decide, x, hne k hk⟩
    refine ⟨fun _ => 0, zBF_0 _ h0, fun j hj => absurd hj (Nat.not_lt_zero j), fun c hc => ⟨fun e => absurd e (hne c hc), fun ⟨j, hj, _⟩ => absurd hj (Nat.not_lt_zero j)⟩, fun c hc => ?_⟩
    obtain ⟨t, e1, e2⟩ := h5 c hc
    exact ⟨t, e1, by omega⟩
theorem nI_sub12 {f c : Nat} (hf : f < 96) (hc : c < 96) (e : nI f - nI 12 = nI c) : c + 12 = f := by
  have h := congrArg Int32.toInt e
  rw [pk_sub_toInt (by omega) (by decide), nI_toInt (by omega)] at h
  omega
theorem nI_sub1 {f c : Nat} (hf : f < 96) (hc : c < 96) (e : nI f - nI 1 = nI c) : c + 1 = f := by
  have h := congrArg Int32.toInt e
  rw [pk_sub_toInt (by omega) (by decide), nI_toInt (by omega)] at h
  omega
theorem nI_addc {f d c : Nat} (hf : f < 96) (hd : d < 96) (hc : c < 96) (e : nI f + nI d = nI c) : f + d = c := by
  rw [nI_add] at e
  exact nI_inj (by omega) (by omega) e
/-- within the outing: the cell f at place i has neighbours, seen so far those that P tells -/
def zGI (h : Nat → Int32) (k o n i f : Nat) (P : Nat → Prop) (a4 a5 : Nat → Int32) : Prop := zGO h k o n i a4 a5 ∧ i < n ∧ f < 96 ∧ zcon h k f ∧ a4 i = nI f ∧ ∀ c, c < 96 → P c → h c ≠ 0 → a5 c = nI o
theorem zGI_reach {h : Nat → Int32} {k o n i f n' : Nat} {P : Nat → Prop} {a4 a5 b4 b5 : Nat → Int32} {x : Int32} (q : zGI h k o n i f P a4 a5) (hr : zRch h (nI o) x n a4 a5 n' b4 b5) (hx : ∀ c, c < 96 → x = nI c → zadj f c) : zGI h k o n' i f (fun c => P c ∨ x = nI c) b4 b5 := by
  obtain ⟨q1, q2, q3, q4, q5, q6⟩ := q
  obtain ⟨r1, r2, r3, r4, r5⟩ := zGO_reach q1 hr (fun c hc e h0 => zcon_step q4 (hx c hc e) hc h0)
  refine ⟨r1, by omega, q3, q4, by rw [r3 i q2]; exact q5, fun c hc hp h0 => ?_⟩
  rcases hp with hp | hp
  · exact r4 c hc (q6 c hc hp h0)
  · exact r5 c hc hp h0
theorem zGI_mono {h : Nat → Int32} {k o n i f : Nat} {P P' : Nat → Prop} {a4 a5 : Nat → Int32} (q : zGI h k o n i f P a4 a5) (hp : ∀ c, c < 96 → P' c → P c) : zGI h k o n i f P' a4 a5 := by
  obtain ⟨q1, q2, q3, q4, q5, q6⟩ := q
  exact ⟨q1, q2, q3, q4, q5, fun c hc p h0 => q6 c hc (hp c hc p) h0⟩
theorem zGI_next {h : Nat → Int32} {k o n i f : Nat} {P : Nat → Prop} {a4 a5 : Nat → Int32} (q : zGI h k o n i f P a4 a5) (hp : ∀ c, zadj f c → c < 96 → P c) : zGO h k o n (i + 1) a4 a5 := by
  obtain ⟨⟨ρ, q1, q2, q3, q4⟩, q5, q6, q7, q8, q9⟩ := q
  have e : ρ i = f := nI_inj (by have := (zcon_end (q1.2.1 i q5)).1; omega) (by omega) ((q2 i q5).symm.trans q8)
  refine ⟨ρ, zBF_next q1 q5 (fun b hb hadj h0 => ?_), q2, q3, q4⟩
  rw [e] at hadj
  exact (q3 b hb).mp (q9 b hb (hp b hadj hb) h0)
def pg_X0_goOut : List zE := [(0, .aload_n 0, 1, []), (1, .dup, 1, []), (2, .getfield 40, 3, []), (5, .iconst 1, 1, [1]), (6, .iadd, 1, []), (7, .putfield 40, 3, []), (10, .aload_n 0, 1, []), (11, .iload_n 1, 1, []), (12, .iconst 0, 1, [0]), (13, .invokevirtual 55, 3, []), (16, .istore_n 2, 1, []), (17, .iconst 0, 1, [0]), (18, .istore_n 3, 1, []), (19, .iload_n 3, 1, []), (20, .iload_n 2, 1, []), (21, .if_icmp .ge 84, 3, [105]), (24, .iload_n 3, 1, []), (25, .bipush 96, 2, [96]), (27, .if_icmp .ge 78, 3, [105]), (30, .aload_n 0, 1, []), (31, .getfield 30, 3, []), (34, .iload_n 3, 1, []), (35, .iaload, 1, []), (36, .istore 4, 2, []), (38, .iload 4, 2, []), (40, .invokestatic 59, 3, []), (43, .istore 5, 2, []), (45, .aload_n 0, 1, []), (46, .iload 4, 2, []), (48, .bipush 12, 2, [12]), (50, .isub, 1, []), (51, .iload_n 2, 1, []), (52, .invokevirtual 55, 3, []), (55, .istore_n 2, 1, []), (56, .aload_n 0, 1, []), (57, .iload 4, 2, []), (59, .bipush 12, 2, [12]), (61, .iadd, 1, []), (62, .iload_n 2, 1, []), (63, .invokevirtual 55, 3, []), (66, .istore_n 2, 1, []), (67, .iload 5, 2, []), (69, .ifCond .le 13, 3, [82]), (72, .aload_n 0, 1, []), (73, .iload 4, 2, []), (75, .iconst 1, 1, [1]), (76, .isub, 1, []), (77, .iload_n 2, 1, []), (78, .invokevirtual 55, 3, []), (81, .istore_n 2, 1, []), (82, .iload 5, 2, []), (84, .bipush 11, 2, [11]), (86, .if_icmp .ge 13, 3, [99]), (89, .aload_n 0, 1, []), (90, .iload 4, 2, []), (92, .iconst 1, 1, [1]), (93, .iadd, 1, []), (94, .iload_n 2, 1, []), (95, .invokevirtual 55, 3, []), (98, .istore_n 2, 1, []), (99, .iinc 3 1, 3, [1]), (102, .goto (-83), 3, [19]), (105, .iload_n 2, 1, []), (106, .ireturn, 1, [])]
theorem hp_X0_goOut : ∀ q ∈ pg_X0_goOut, decode cX0_goOut q.1 = .ok (q.2.1, q.2.2.1) ∧ ztg q.2.1 q.1 q.2.2.1 q.2.2.2 = true := zpg_of (by decide +kernel)
def cs_X0_goOut : List (Nat × zCall) := [(55, 0, 3, some 1, 0, 0, false, sp_X0_reach), (59, 1, 1, none, 0, 0, false, sp_X4_columnOf)]
theorem hcs_X0_goOut {l : Launch} (hl0 : l.stackTraces = false) : ∀ q ∈ cs_X0_goOut, zCallable l RX0 3 q := List.forall_mem_cons.mpr ⟨zcV (C := (RX0, TX0, 8)) (ps := [302, 304, 1, 15, 305]) (c_X0_reach hl0) (by decide +kernel) rfl ⟨rfl, by decide +kernel, by decide +kernel, by decide +kernel⟩ (by decide) (by decide), List.forall_mem_cons.mpr ⟨zcN (ps := [307, 14, 308]) (host := RX4) (c_X4_columnOf hl0) (by decide +kernel) (by decide +kernel) ⟨by decide +kernel, by decide +kernel, by decide +kernel⟩ (by decide) (by decide), fun _ h => absurd h List.not_mem_nil⟩⟩
def th_X0_goOut : List (Nat × String) := []
theorem hth_X0_goOut : ∀ q ∈ th_X0_goOut, zThrow cX0_goOut RX0 q := fun _ h => absurd h List.not_mem_nil
def kc_X0_goOut : List (Nat × Int32) := []
theorem hkc_X0_goOut : ∀ q ∈ kc_X0_goOut, Cond.constant RX0 q.1 q.2 ∈ zTs := fun _ h => absurd h List.not_mem_nil
def nw_X0_goOut : List (Nat × Nat × Nat × List Value) := []
theorem hnw_X0_goOut : ∀ q ∈ nw_X0_goOut, zNew RX0 q := fun _ h => absurd h List.not_mem_nil
set_option maxHeartbeats 4000000 in
set_option maxRecDepth 20000 in
theorem c_X0_goOut {l : Launch} (hl0 : l.stackTraces = false) : CT l yX0_goOut (.code yX0_goOut cX0_goOut 6 (some .int)) 3 0 0 false sp_X0_goOut := by
  refine zCT_of hl0 (own := RX0) fl_RX0 cs_X0_goOut nw_X0_goOut th_X0_goOut kc_X0_goOut (fun _ => []) false pg_X0_goOut rfl (by decide +kernel) hp_X0_goOut ⟨_, _, rfl, rfl⟩ hfl_RX0 (fun h => nomatch h) (hcs_X0_goOut hl0) hnw_X0_goOut hth_X0_goOut (fun _ _ h => absurd h List.not_mem_nil) hkc_X0_goOut (fun args w Q X v0 hv0 h => ?_)
  obtain ⟨α, ν, r, k, o, hk, ho, hν, h5, rfl, rfl, hQ⟩ := h
  refine ⟨Nat.le_of_ble_eq_true rfl, 80, [
    (19, fun m L S w' cu su => ∃ n i a4 a5, zsub [(0, .ref 1), (2, .int (nI n)), (3, .int (nI i))] L ∧ S = [] ∧ w' = WX (zu (zu α 5 a5) 4 a4) (zu ν 2 (nI (o + 1))) r ∧ zGO (α 0) k (o + 1) n i a4 a5 ∧ m = 3 * (97 - i) + 2 ∧ cu = 0 ∧ su = 0),
    (82, fun m L S w' cu su => ∃ n i f a4 a5, zsub [(0, .ref 1), (2, .int (nI n)), (3, .int (nI i)), (4, .int (nI f)), (5, .int (nI (f % 12)))] L ∧ S = [] ∧ w' = WX (zu (zu α 5 a5) 4 a4) (zu ν 2 (nI (o + 1))) r ∧ zGI (α 0) k (o + 1) n i f (fun c => c + 12 = f ∨ f + 12 = c ∨ (f % 12 > 0 ∧ c + 1 = f)) a4 a5 ∧ m = 3 * (97 - i) + 1 ∧ cu = 0 ∧ su = 0),
    (99, fun m L S w' cu su => ∃ n i f a4 a5, zsub [(0, .ref 1), (2, .int (nI n)), (3, .int (nI i))] L ∧ S = [] ∧ w' = WX (zu (zu α 5 a5) 4 a4) (zu ν 2 (nI (o + 1))) r ∧ zGI (α 0) k (o + 1) n i f (zadj f) a4 a5 ∧ m = 3 * (97 - i) ∧ cu = 0 ∧ su = 0)], ?_, ?_⟩
  · (conv => whnf)
    refine ⟨α, zu ν 2 (nI (o + 1)), r, nI k, 0, by decide, rfl, ?_, fun n' b4 b5 hr => ?_⟩
    · dsimp only [zkon]
      rw [hν, nI_add]
      rfl
    · (conv => whnf)
      exact ⟨_, n', 0, b4, b5, ⟨rfl, rfl, rfl, trivial⟩, rfl, rfl, zGO_start hk ho h5 hr, rfl, rfl, rfl⟩
  · intro q hq
    rcases List.mem_cons.mp hq with rfl | hq
    · rintro m L S w' cu su ⟨n, i, a4, a5, hL, rfl, rfl, hg, rfl, rfl, rfl⟩
      refine ⟨_, hL, ?_⟩
      obtain ⟨hn, hi⟩ := zGO_vis hg
      (conv => whnf)
      refine And.intro (fun c => ?_) (fun c => ?_)
      · have hlt : i < n := (nI_ltI (by omega) (by omega)).mp c
        obtain ⟨ρ, g1, g2, g3, g4⟩ := id hg
        have hf := zcon_end (g1.2.1 i hlt)
        (conv => whnf)
        refine And.intro (fun _ => ?_) (fun c => absurd (show _ from (nI_lt (show i < 96 by omega) (by decide))) c)
        (conv => whnf)
        refine ⟨vp_in_nI (show i < 96 by omega) (by decide), ?_⟩
        (conv => whnf)
        rw [nI_clamp (by omega)]
        refine ⟨ρ i, hf.1, by rw [← g2 i hlt]; rfl, ?_⟩
        have hgi : zGI (α 0) k (o + 1) n i (ρ i) (fun _ => False) a4 a5 := ⟨hg, hlt, hf.1, g1.2.1 i hlt, g2 i hlt, fun _ _ x _ => x.elim⟩
        have e4 : (zu (zu α 5 a5) 4 a4) 4 i = nI (ρ i) := g2 i hlt
        rw [e4]
        generalize ρ i = f at hgi hf ⊢
        (conv => whnf)
        refine ⟨zu (zu α 5 a5) 4 a4, zu ν 2 (nI (o + 1)), r, nI f - nI 12, n, hn, rfl, rfl, fun n1 b4 b5 hr => ?_⟩
        have h1 := zGI_reach hgi hr (fun c hc e => Or.inl (nI_sub12 hf.1 hc e))
        obtain ⟨hn1, -⟩ := zGO_vis h1.1
        (conv => whnf)
        refine ⟨zu (zu α 5 b5) 4 b4, zu ν 2 (nI (o + 1)), r, nI f + nI 12, n1, hn1, rfl, rfl, fun n2 c4 c5 hr2 => ?_⟩
        have h2 := zGI_reach h1 hr2 (fun c hc e => Or.inr (Or.inl (nI_addc hf.1 (by decide) hc e)))
        obtain ⟨hn2, -⟩ := zGO_vis h2.1
        (conv => whnf)
        refine And.intro (fun d => ?_) (fun d => ?_)
        · have hm : f % 12 > 0 := by
            have : (0 : Nat) < f % 12 := (nI_ltI (a := 0) (by decide) (by omega)).mp d
            exact this
          (conv => whnf)
          refine ⟨zu (zu α 5 c5) 4 c4, zu ν 2 (nI (o + 1)), r, nI f - nI 1, n2, hn2, rfl, rfl, fun n3 d4 d5 hr3 => ?_⟩
          have h3 := zGI_reach h2 hr3 (fun c hc e => Or.inr (Or.inr (Or.inl ⟨hm, nI_sub1 hf.1 hc e⟩)))
          (conv => whnf)
          refine ⟨_, by omega, n3, i, f, d4, d5, ⟨rfl, rfl, rfl, rfl, rfl, trivial⟩, rfl, rfl, zGI_mono h3 (fun c hc hp => ?_), rfl, rfl, rfl⟩
          rcases hp with hp | hp | hp
          · exact Or.inl (Or.inl (Or.inr (by rw [← hp, ← nI_add]; exact (pk_addsub _ _))))
          · exact Or.inl (Or.inr (by rw [nI_add, hp]))
          · exact Or.inr (by rw [← hp.2, ← nI_add]; exact (pk_addsub _ _))
        · have hm : ¬ f % 12 > 0 := fun x => d (nI_lt (a := 0) x (by omega))
          (conv => whnf)
          refine ⟨_, by omega, n2, i, f, c4, c5, ⟨rfl, rfl, rfl, rfl, rfl, trivial⟩, rfl, rfl, zGI_mono h2 (fun c hc hp => ?_), rfl, rfl, rfl⟩
          rcases hp with hp | hp | hp
          · exact Or.inl (Or.inr (by rw [← hp, ← nI_add]; exact (pk_addsub _ _)))
          · exact Or.inr (by rw [nI_add, hp])
          · exact absurd hp.1 hm
      · have hge : i = n := by
          have : ¬ i < n := fun h => c (nI_lt h (by omega))
          omega
        subst hge
        (conv => whnf)
        exact hQ i a4 a5 hg
    · rcases List.mem_cons.mp hq with rfl | hq
      · rintro m L S w' cu su ⟨n, i, f, a4, a5, hL, rfl, rfl, hg, rfl, rfl, rfl⟩
        refine ⟨_, hL, ?_⟩
        obtain ⟨hn, hi⟩ := zGO_vis hg.1
        have hf : f < 96 := hg.2.2.1
        (conv => whnf)
        refine And.intro (fun c => ?_) (fun c => ?_)
        · have hm : f % 12 < 11 := (nI_ltI (by omega) (by decide)).mp c
          (conv => whnf)
          refine ⟨zu (zu α 5 a5) 4 a4, zu ν 2 (nI (o + 1)), r, nI f + nI 1, n, hn, rfl, rfl, fun n1 b4 b5 hr => ?_⟩
          have h1 := zGI_reach hg hr (fun c hc e => Or.inr (Or.inr (Or.inr ⟨hm, (nI_addc hf (by decide) hc e).symm⟩)))
          (conv => whnf)
          refine ⟨_, by omega, n1, i, f, b4, b5, ⟨rfl, rfl, rfl, trivial⟩, rfl, rfl, zGI_mono h1 (fun c hc hp => ?_), rfl, rfl, rfl⟩
          rcases hp with hp | hp | hp | hp
          · exact Or.inl (Or.inl hp)
          · exact Or.inl (Or.inr (Or.inl hp))
          · exact Or.inl (Or.inr (Or.inr hp))
          · exact Or.inr (by rw [nI_add, hp.2])
        · have hm : ¬ f % 12 < 11 := fun x => c (nI_lt x (by decide))
          (conv => whnf)
          refine ⟨_, by omega, n, i, f, a4, a5, ⟨rfl, rfl, rfl, trivial⟩, rfl, rfl, zGI_mono hg (fun c hc hp => ?_), rfl, rfl, rfl⟩
          rcases hp with hp | hp | hp | hp
          · exact Or.inl hp
          · exact Or.inr (Or.inl hp)
          · exact Or.inr (Or.inr hp)
          · exact absurd hp.1 hm
      · rw [List.mem_singleton.mp hq]
        rintro m L S w' cu su ⟨n, i, f, a4, a5, hL, rfl, rfl, hg, rfl, rfl, rfl⟩
        refine ⟨_, hL, ?_⟩
        obtain ⟨hn, hi⟩ := zGO_vis hg.1
        have hi2 : i < n := hg.2.1
        (conv => whnf)
        exact ⟨_, by omega, n, i + 1, a4, a5, ⟨rfl, rfl, zi1 rfl, trivial⟩, rfl, rfl, zGI_next hg (fun c h _ => h), rfl, rfl, rfl⟩
def sp_X0_tellShape : zSpec := fun args w Q _ => ∃ α ν r s n, ∃ ρ : Nat → Nat, n ≤ 96 ∧ (∀ j, j < n → ρ j < 96 ∧ α 4 j = nI (ρ j)) ∧ args = [.ref 1, .int s, .int (nI n)] ∧ w = WX α ν r ∧ ∀ b, (∀ k, k < 96 → (∃ j, j < n ∧ ρ j = k) → b k = s) → (∀ k, k < 96 → (¬ ∃ j, j < n ∧ ρ j = k) → b k = α 3 k) → Q none (WX (zu α 3 b) ν r)
def pg_X0_tellShape : List zE := [(0, .iconst 0, 1, [0]), (1, .istore_n 3, 1, []), (2, .iload_n 3, 1, []), (3, .iload_n 2, 1, []), (4, .if_icmp .ge 39, 3, [43]), (7, .iload_n 3, 1, []), (8, .bipush 96, 2, [96]), (10, .if_icmp .ge 33, 3, [43]), (13, .aload_n 0, 1, []), (14, .getfield 30, 3, []), (17, .iload_n 3, 1, []), (18, .iaload, 1, []), (19, .istore 4, 2, []), (21, .iload 4, 2, []), (23, .invokestatic 43, 3, []), (26, .ifCond .eq 11, 3, [37]), (29, .aload_n 0, 1, []), (30, .getfield 21, 3, []), (33, .iload 4, 2, []), (35, .iload_n 1, 1, []), (36, .iastore, 1, []), (37, .iinc 3 1, 3, [1]), (40, .goto (-38), 3, [2]), (43, .return_, 1, [])]
theorem hp_X0_tellShape : ∀ q ∈ pg_X0_tellShape, decode cX0_tellShape q.1 = .ok (q.2.1, q.2.2.1) ∧ ztg q.2.1 q.1 q.2.2.1 q.2.2.2 = true := zpg_of (by decide +kernel)
def cs_X0_tellShape : List (Nat × zCall) := [(43, 1, 1, none, 0, 0, false, sp_X4_isCell)]
theorem hcs_X0_tellShape {l : Launch} (hl0 : l.stackTraces = false) : ∀ q ∈ cs_X0_tellShape, zCallable l RX0 2 q := List.forall_mem_cons.mpr ⟨zcN (ps := [194, 14, 195]) (host := RX4) (c_X4_isCell hl0) (by decide +kernel) (by decide +kernel) ⟨by decide +kernel, by decide +kernel, by decide +kernel⟩ (by decide) (by decide), fun _ h => absurd h List.not_mem_nil⟩
def th_X0_tellShape : List (Nat × String) := []
theorem hth_X0_tellShape : ∀ q ∈ th_X0_tellShape, zThrow cX0_tellShape RX0 q := fun _ h => absurd h List.not_mem_nil
def kc_X0_tellShape : List (Nat × Int32) := []
theorem hkc_X0_tellShape : ∀ q ∈ kc_X0_tellShape, Cond.constant RX0 q.1 q.2 ∈ zTs := fun _ h => absurd h List.not_mem_nil
def nw_X0_tellShape : List (Nat × Nat × Nat × List Value) := []
theorem hnw_X0_tellShape : ∀ q ∈ nw_X0_tellShape, zNew RX0 q := fun _ h => absurd h List.not_mem_nil
set_option maxHeartbeats 4000000 in
set_option maxRecDepth 20000 in
theorem c_X0_tellShape {l : Launch} (hl0 : l.stackTraces = false) : CT l yX0_tellShape (.code yX0_tellShape cX0_tellShape 5 none) 2 0 0 false sp_X0_tellShape := by
  refine zCT_of hl0 (own := RX0) fl_RX0 cs_X0_tellShape nw_X0_tellShape th_X0_tellShape kc_X0_tellShape (fun _ => []) false pg_X0_tellShape rfl (by decide +kernel) hp_X0_tellShape ⟨_, _, rfl, rfl⟩ hfl_RX0 (fun h => nomatch h) (hcs_X0_tellShape hl0) hnw_X0_tellShape hth_X0_tellShape (fun _ _ h => absurd h List.not_mem_nil) hkc_X0_tellShape (fun args w Q X v0 hv0 h => ?_)
  obtain ⟨α, ν, r, s, n, ρ, hn, hρ, rfl, rfl, hQ⟩ := h
  refine ⟨Nat.le_of_ble_eq_true rfl, 60, [(2, fun m L S w' cu su => ∃ i b, zsub [(0, .ref 1), (1, .int s), (2, .int (nI n)), (3, .int (nI i))] L ∧ S = [] ∧ w' = WX (zu α 3 b) ν r ∧ i ≤ n ∧ (∀ k, k < 96 → (∃ j, j < i ∧ ρ j = k) → b k = s) ∧ (∀ k, k < 96 → (¬ ∃ j, j < i ∧ ρ j = k) → b k = α 3 k) ∧ m = 96 - i ∧ cu = 0 ∧ su = 0)], ?_, zone ?_⟩
  · (conv => whnf)
    exact ⟨96, 0, α 3, ⟨rfl, rfl, rfl, rfl, trivial⟩, rfl, rfl, Nat.zero_le _, fun k _ ⟨j, hj, _⟩ => absurd hj (Nat.not_lt_zero j), fun _ _ _ => rfl, rfl, rfl, rfl⟩
  · rintro m L S w' cu su ⟨i, b, hL, rfl, rfl, hi, hb1, hb2, rfl, rfl, rfl⟩
    refine ⟨_, hL, ?_⟩
    (conv => whnf)
    refine And.intro (fun c => ?_) (fun c => ?_)
    · have hlt : i < n := (nI_ltI (by omega) (by omega)).mp c
      obtain ⟨r1, r2⟩ := hρ i hlt
      (conv => whnf)
      refine And.intro (fun _ => ?_) (fun c => absurd (show _ from (nI_lt (show i < 96 by omega) (by decide))) c)
      (conv => whnf)
      refine ⟨vp_in_nI (show i < 96 by omega) (by decide), ?_⟩
      (conv => whnf)
      have e4 : (zu α 3 b) 4 i = nI (ρ i) := r2
      rw [nI_clamp (by omega), e4]
      refine ⟨_, rfl, fun _ => ?_, fun c => absurd (vp_in_nI r1 (by decide)) c⟩
      (conv => whnf)
      refine And.intro (fun c => absurd c (show ¬ _ from (by decide))) (fun _ => ?_)
      (conv => whnf)
      refine ⟨vp_in_nI r1 (by decide), ?_⟩
      (conv => whnf)
      rw [nI_clamp (by omega)]
      refine ⟨96 - (i + 1), by omega, i + 1, upd b (ρ i) s, ⟨rfl, rfl, rfl, zi1 rfl, trivial⟩, rfl, rfl, by omega, fun k hk hx => ?_, fun k hk hx => ?_, rfl, rfl, rfl⟩
      · obtain ⟨j, hj, e⟩ := hx
        by_cases e2 : k = ρ i
        · rw [e2, pk_us]
        · rw [pk_un e2]
          refine hb1 k hk ⟨j, ?_, e⟩
          apply Classical.byContradiction
          intro x
          have : j = i := by omega
          subst this
          exact e2 e.symm
      · have e2 : k ≠ ρ i := fun e => hx ⟨i, by omega, e.symm⟩
        rw [pk_un e2]
        exact hb2 k hk (fun ⟨j, hj, e⟩ => hx ⟨j, by omega, e⟩)
    · have hge : i = n := by
        have : ¬ i < n := fun h => c (nI_lt h (by omega))
        omega
      subst hge
      (conv => whnf)
      exact hQ b hb1 hb2
def sp_X0_joinShapes : zSpec := fun args w Q _ => ∃ α ν r o, o + 97 < 2 ^ 31 ∧ ν 2 = nI o ∧ (∀ c, c < 96 → ∃ t, α 5 c = nI t ∧ t ≤ o) ∧ args = [.ref 1] ∧ w = WX α ν r ∧
  ∀ f a4 a5 o', zLow (α 0) f → o' ≤ o + 96 → (∀ c, c < 96 → ∃ t, a5 c = nI t ∧ t ≤ o') → Q none (WX (zu (zu (zu α 5 a5) 4 a4) 3 f) (zu ν 2 (nI o')) r)
theorem zLowTo_go {h f b : Nat → Int32} {c o n : Nat} {a4 a5 : Nat → Int32} {ρ : Nat → Nat} (hc : c < 96) (q : zLowTo h c f) (hf : f c = -1) (g1 : zBF h c n n ρ) (h1 : ∀ k, k < 96 → (∃ j, j < n ∧ ρ j = k) → b k = nI c) (h2 : ∀ k, k < 96 → (¬ ∃ j, j < n ∧ ρ j = k) → b k = f k) : zLowTo h (c + 1) b := by
  by_cases h0 : h c = 0
  · have hb : ∀ k, k < 96 → b k = f k := fun k hk => h2 k hk (fun ⟨j, hj, _⟩ => (zcon_beg (g1.2.1 j hj)).2 h0)
    have hs := zLowTo_skip hc q (Or.inr h0)
    intro k hk
    obtain ⟨s1, s2⟩ := hs k hk
    refine ⟨fun x => ?_, fun x => by rw [hb k hk]; exact s2 x⟩
    have s3 := s1 x
    unfold zlowAt at s3 ⊢
    rw [hb k hk]
    exact s3
  · exact zLowTo_put hc q hf h0 (fun k hk e => h1 k hk ((zBF_done g1 k).mp e)) (fun k hk e => h2 k hk (fun x => e ((zBF_done g1 k).mpr x)))
def pg_X0_joinShapes : List zE := [(0, .aload_n 0, 1, []), (1, .getfield 21, 3, []), (4, .iconst (-1), 1, []), (5, .invokestatic 24, 3, []), (8, .iconst 0, 1, [0]), (9, .istore_n 1, 1, []), (10, .iload_n 1, 1, []), (11, .bipush 96, 2, [96]), (13, .if_icmp .ge 29, 3, [42]), (16, .aload_n 0, 1, []), (17, .getfield 21, 3, []), (20, .iload_n 1, 1, []), (21, .iaload, 1, []), (22, .iconst (-1), 1, []), (23, .if_icmp .ne 13, 3, [36]), (26, .aload_n 0, 1, []), (27, .iload_n 1, 1, []), (28, .aload_n 0, 1, []), (29, .iload_n 1, 1, []), (30, .invokevirtual 47, 3, []), (33, .invokevirtual 51, 3, []), (36, .iinc 1 1, 3, [1]), (39, .goto (-29), 3, [10]), (42, .return_, 1, [])]
theorem hp_X0_joinShapes : ∀ q ∈ pg_X0_joinShapes, decode cX0_joinShapes q.1 = .ok (q.2.1, q.2.2.1) ∧ ztg q.2.1 q.1 q.2.2.1 q.2.2.2 = true := zpg_of (by decide +kernel)
def cs_X0_joinShapes : List (Nat × zCall) := [(24, 1, 2, none, 0, 0, false, sp_J7_fill_53178), (47, 0, 2, some 1, 0, 0, false, sp_X0_goOut), (51, 0, 3, some 1, 0, 0, false, sp_X0_tellShape)]
theorem hcs_X0_joinShapes {l : Launch} (hl0 : l.stackTraces = false) : ∀ q ∈ cs_X0_joinShapes, zCallable l RX0 4 q := List.forall_mem_cons.mpr ⟨zcS (ps := [51, 52, 16, 53]) (c_J7_fill_53178 hl0) (by decide +kernel) ⟨by decide +kernel, by decide +kernel, by decide +kernel⟩ (by decide) (by decide), List.forall_mem_cons.mpr ⟨zcV (C := (RX0, TX0, 8)) (ps := [298, 299, 300, 15, 301]) (c_X0_goOut hl0) (by decide +kernel) rfl ⟨rfl, by decide +kernel, by decide +kernel, by decide +kernel⟩ (by decide) (by decide), List.forall_mem_cons.mpr ⟨zcV (C := (RX0, TX0, 8)) (ps := [309, 311, 2, 15, 312]) (c_X0_tellShape hl0) (by decide +kernel) rfl ⟨rfl, by decide +kernel, by decide +kernel, by decide +kernel⟩ (by decide) (by decide), fun _ h => absurd h List.not_mem_nil⟩⟩⟩
def th_X0_joinShapes : List (Nat × String) := []
theorem hth_X0_joinShapes : ∀ q ∈ th_X0_joinShapes, zThrow cX0_joinShapes RX0 q := fun _ h => absurd h List.not_mem_nil
def kc_X0_joinShapes : List (Nat × Int32) := []
theorem hkc_X0_joinShapes : ∀ q ∈ kc_X0_joinShapes, Cond.constant RX0 q.1 q.2 ∈ zTs := fun _ h => absurd h List.not_mem_nil
def nw_X0_joinShapes : List (Nat × Nat × Nat × List Value) := []
theorem hnw_X0_joinShapes : ∀ q ∈ nw_X0_joinShapes, zNew RX0 q := fun _ h => absurd h List.not_mem_nil
set_option maxHeartbeats 4000000 in
set_option maxRecDepth 20000 in
theorem c_X0_joinShapes {l : Launch} (hl0 : l.stackTraces = false) : CT l yX0_joinShapes (.code yX0_joinShapes cX0_joinShapes 2 none) 4 0 0 false sp_X0_joinShapes := by
  refine zCT_of hl0 (own := RX0) fl_RX0 cs_X0_joinShapes nw_X0_joinShapes th_X0_joinShapes kc_X0_joinShapes (fun _ => []) false pg_X0_joinShapes rfl (by decide +kernel) hp_X0_joinShapes ⟨_, _, rfl, rfl⟩ hfl_RX0 (fun h => nomatch h) (hcs_X0_joinShapes hl0) hnw_X0_joinShapes hth_X0_joinShapes (fun _ _ h => absurd h List.not_mem_nil) hkc_X0_joinShapes (fun args w Q X v0 hv0 h => ?_)
  obtain ⟨α, ν, r, o, ho, hν, h5, rfl, rfl, hQ⟩ := h
  refine ⟨Nat.le_of_ble_eq_true rfl, 60, [(10, fun m L S w' cu su => ∃ i f a4 a5 o', zsub [(0, .ref 1), (1, .int (nI i))] L ∧ S = [] ∧ w' = WX (zu (zu (zu α 5 a5) 4 a4) 3 f) (zu ν 2 (nI o')) r ∧ i ≤ 96 ∧ o' ≤ o + i ∧ zLowTo (α 0) i f ∧ (∀ c, c < 96 → ∃ t, a5 c = nI t ∧ t ≤ o') ∧ m = 96 - i ∧ cu = 0 ∧ su = 0)], ?_, zone ?_⟩
  · (conv => whnf)
    refine ⟨5, -1, 96, α 3, rfl, by decide, rfl, by decide, ?_⟩
    (conv => whnf)
    refine ⟨96, 0, zfl (-1) (α 3) 96, α 4, α 5, o, ⟨rfl, rfl, trivial⟩, rfl, ?_, Nat.zero_le _, Nat.le_refl _, zLowTo_0 (fun k hk => if_pos hk), h5, rfl, rfl, rfl⟩
    rw [← hν]
    rfl
  · rintro m L S w' cu su ⟨i, f, a4, a5, o', hL, rfl, rfl, hi, ho', hlow, h5', rfl, rfl, rfl⟩
    refine ⟨_, hL, ?_⟩
    (conv => whnf)
    refine And.intro (fun c => ?_) (fun c => ?_)
    · have hlt : i < 96 := (nI_ltI (by omega) (by omega)).mp c
      (conv => whnf)
      refine ⟨vp_in_nI hlt (by decide), ?_⟩
      (conv => whnf)
      rw [nI_clamp (by omega)]
      refine And.intro (fun d => ?_) (fun d => ?_)
      · have hd : f i = -1 := d
        (conv => whnf)
        refine ⟨zu (zu (zu α 5 a5) 4 a4) 3 f, zu ν 2 (nI o'), r, i, o', hlt, by omega, rfl, h5', rfl, rfl, fun n b4 b5 hg => ?_⟩
        obtain ⟨ρ, g1, g2, g3, g4⟩ := hg
        (conv => whnf)
        refine ⟨zu (zu (zu (zu (zu α 5 a5) 4 a4) 3 f) 5 b5) 4 b4, zu (zu ν 2 (nI o')) 2 (nI (o' + 1)), r, nI i, n, ρ, zBF_le g1, fun j hj => ⟨(zcon_end (g1.2.1 j hj)).1, g2 j hj⟩, rfl, rfl, fun b hb1 hb2 => ?_⟩
        (conv => whnf)
        refine ⟨96 - (i + 1), by omega, i + 1, b, b4, b5, o' + 1, ⟨rfl, zi1 rfl, trivial⟩, rfl, rfl, by omega, by omega, zLowTo_go (a4 := a4) (a5 := a5) (o := o) hlt hlow hd g1 hb1 hb2, g4, rfl, rfl, rfl⟩
      · (conv => whnf)
        exact ⟨96 - (i + 1), by omega, i + 1, f, a4, a5, o', ⟨rfl, zi1 rfl, trivial⟩, rfl, rfl, by omega, by omega, zLowTo_skip hlt hlow (Or.inl d), h5', rfl, rfl, rfl⟩
    · have hge : i = 96 := by
        have : ¬ i < 96 := fun h => c (nI_lt h (by decide))
        omega
      subst hge
      (conv => whnf)
      exact hQ f a4 a5 o' (zLowTo_all hlow) ho' h5'
