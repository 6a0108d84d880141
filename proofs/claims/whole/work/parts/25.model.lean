/-! ===== EchoRegistryModel: its world; the shapes ===== -/
/-- the cells of a model (from place 21 on), and others behind them -/
def ZM (β : Nat → Nat → Int32) (μ : Nat → Int32) (r : zW) : zW :=
  .inr (6, [.ref 22, .ref 23, .ref 24, .int (μ 1), .ref 25, .ref 26, .int (μ 0), .ref 27, .ref 28, .int (μ 3), .ref 29, .ref 30, .ref 31, .int (μ 4), .ref 32, .ref 33, .ref 34, .int (μ 5), .ref 35, .int (μ 6), .int (μ 7)]) ::
  .inl (0, 96, .inl (β 0)) :: .inl (0, 96, .inl (β 1)) :: .inl (0, 96, .inl (β 2)) :: .inl (0, 96, .inl (β 3)) :: .inl (0, 96, .inl (β 4)) ::
  .inl (0, 4, .inl (β 6)) :: .inl (0, 4, .inl (β 7)) :: .inl (0, 40, .inl (β 8)) :: .inl (0, 40, .inl (β 9)) :: .inl (0, 40, .inl (β 10)) ::
  .inl (0, 60, .inl (β 11)) :: .inl (0, 60, .inl (β 12)) :: .inl (0, 6, .inl (β 13)) :: .inl (0, 12, .inl (β 14)) :: r
def W2 (α : Nat → Nat → Int32) (ν : Nat → Int32) (β : Nat → Nat → Int32) (μ : Nat → Int32) (r : zW) : zW := WX α ν (ZM β μ r)
def sp_X5_in : zSpec := fun args w Q _ => ∃ x lo hi, args = [.int x, .int lo, .int hi] ∧ zB Q (¬ x < lo ∧ ¬ hi < x) w
def fl_RX5 : List (Nat × Nat × Nat) := [(7, 6, 0), (13, 6, 1), (16, 6, 2), (19, 6, 4), (22, 6, 5), (25, 6, 7), (28, 6, 8), (31, 6, 10), (34, 6, 11), (37, 6, 12), (40, 6, 14), (43, 6, 15), (46, 6, 16), (49, 6, 18), (55, 6, 20), (85, 6, 19), (98, 6, 6), (114, 6, 3), (118, 6, 13), (121, 6, 17), (124, 6, 9)]
theorem hfl_RX5 : ∀ q ∈ fl_RX5, zFld RX5 q := zfld_of (ps := [1062, 1063, 1064, 1066, 1067, 1069, 1070, 1072, 1073, 1074, 1076, 1077, 1078, 1080, 1082, 1081, 1068, 1065, 1075, 1079, 1071]) (by decide +kernel)
def pg_X5_in : List zE := [(0, .iload_n 0, 1, []), (1, .iload_n 1, 1, []), (2, .if_icmp .lt 12, 3, [14]), (5, .iload_n 0, 1, []), (6, .iload_n 2, 1, []), (7, .if_icmp .gt 7, 3, [14]), (10, .iconst 1, 1, [1]), (11, .goto 4, 3, [15]), (14, .iconst 0, 1, [0]), (15, .ireturn, 1, [])]
theorem hp_X5_in : ∀ q ∈ pg_X5_in, decode cX5_in q.1 = .ok (q.2.1, q.2.2.1) ∧ ztg q.2.1 q.1 q.2.2.1 q.2.2.2 = true := zpg_of (by decide +kernel)
def cs_X5_in : List (Nat × zCall) := []
theorem hcs_X5_in {l : Launch} (hl0 : l.stackTraces = false) : ∀ q ∈ cs_X5_in, zCallable l RX5 1 q := fun _ h => absurd h List.not_mem_nil
def th_X5_in : List (Nat × String) := []
theorem hth_X5_in : ∀ q ∈ th_X5_in, zThrow cX5_in RX5 q := fun _ h => absurd h List.not_mem_nil
def kc_X5_in : List (Nat × Int32) := []
theorem hkc_X5_in : ∀ q ∈ kc_X5_in, Cond.constant RX5 q.1 q.2 ∈ zTs := fun _ h => absurd h List.not_mem_nil
def nw_X5_in : List (Nat × Nat × Nat × List Value) := []
theorem hnw_X5_in : ∀ q ∈ nw_X5_in, zNew RX5 q := fun _ h => absurd h List.not_mem_nil
set_option maxHeartbeats 4000000 in
set_option maxRecDepth 20000 in
theorem c_X5_in {l : Launch} (hl0 : l.stackTraces = false) : CT l yX5_in (.code yX5_in cX5_in 3 (some .boolean)) 1 0 0 false sp_X5_in := by
  refine zCT_of hl0 (own := RX5) fl_RX5 cs_X5_in nw_X5_in th_X5_in kc_X5_in (fun _ => []) false pg_X5_in rfl (by decide +kernel) hp_X5_in ⟨_, _, rfl, rfl⟩ hfl_RX5 (fun h => nomatch h) (hcs_X5_in hl0) hnw_X5_in hth_X5_in (fun _ _ h => absurd h List.not_mem_nil) hkc_X5_in (fun args w Q X v0 hv0 h => ?_)
  obtain ⟨x, lo, hi, rfl, h1, h2⟩ := h
  refine ⟨Nat.le_of_ble_eq_true rfl, 20, [], ?_, fun q hq => absurd hq List.not_mem_nil⟩
  (conv => whnf)
  refine And.intro (fun c => ?_) (fun c => ?_) <;> dsimp only at c
  · (conv => whnf)
    exact ⟨Or.inl rfl, h2 (fun q => q.1 c)⟩
  · (conv => whnf)
    refine And.intro (fun d => ?_) (fun d => ?_) <;> dsimp only at d
    · (conv => whnf)
      exact ⟨Or.inl rfl, h2 (fun q => q.2 d)⟩
    · (conv => whnf)
      exact ⟨Or.inr rfl, h1 ⟨c, d⟩⟩
theorem vp_in_le {x : Int32} {n : Nat} (hn : n + 1 < 2 ^ 31) : (¬ x < nI 0 ∧ ¬ nI n < x) ↔ vp_in x (n + 1) := by
  constructor
  · rintro ⟨a, b⟩
    obtain ⟨j, hj, rfl⟩ := nI_of (x := x) a
    refine vp_in_nI ?_ hn
    apply Classical.byContradiction
    intro h
    exact b (nI_lt (by omega) hj)
  · intro h
    obtain ⟨j, hj, rfl⟩ := vp_in_of h hn
    exact ⟨nI_pos (by omega), nI_nlt (by omega) (by omega)⟩
def sp_X5_isCell : zSpec := fun args w Q _ => ∃ x, args = [.int x] ∧ zB Q (vp_in x 96) w
def pg_X5_isCell : List zE := [(0, .iload_n 0, 1, []), (1, .iconst 0, 1, [0]), (2, .bipush 95, 2, [95]), (4, .invokestatic 59, 3, []), (7, .ireturn, 1, [])]
theorem hp_X5_isCell : ∀ q ∈ pg_X5_isCell, decode cX5_isCell q.1 = .ok (q.2.1, q.2.2.1) ∧ ztg q.2.1 q.1 q.2.2.1 q.2.2.2 = true := zpg_of (by decide +kernel)
def cs_X5_isCell : List (Nat × zCall) := [(59, 1, 3, none, 0, 0, false, sp_X5_in)]
theorem hcs_X5_isCell {l : Launch} (hl0 : l.stackTraces = false) : ∀ q ∈ cs_X5_isCell, zCallable l RX5 2 q := List.forall_mem_cons.mpr ⟨zcS (ps := [1137, 1138, 38, 1139]) (c_X5_in hl0) (by decide +kernel) ⟨by decide +kernel, by decide +kernel, by decide +kernel⟩ (by decide) (by decide), fun _ h => absurd h List.not_mem_nil⟩
def th_X5_isCell : List (Nat × String) := []
theorem hth_X5_isCell : ∀ q ∈ th_X5_isCell, zThrow cX5_isCell RX5 q := fun _ h => absurd h List.not_mem_nil
def kc_X5_isCell : List (Nat × Int32) := []
theorem hkc_X5_isCell : ∀ q ∈ kc_X5_isCell, Cond.constant RX5 q.1 q.2 ∈ zTs := fun _ h => absurd h List.not_mem_nil
def nw_X5_isCell : List (Nat × Nat × Nat × List Value) := []
theorem hnw_X5_isCell : ∀ q ∈ nw_X5_isCell, zNew RX5 q := fun _ h => absurd h List.not_mem_nil
set_option maxHeartbeats 4000000 in
set_option maxRecDepth 20000 in
theorem c_X5_isCell {l : Launch} (hl0 : l.stackTraces = false) : CT l yX5_isCell (.code yX5_isCell cX5_isCell 1 (some .boolean)) 2 0 0 false sp_X5_isCell := by
  refine zCT_of hl0 (own := RX5) fl_RX5 cs_X5_isCell nw_X5_isCell th_X5_isCell kc_X5_isCell (fun _ => []) false pg_X5_isCell rfl (by decide +kernel) hp_X5_isCell ⟨_, _, rfl, rfl⟩ hfl_RX5 (fun h => nomatch h) (hcs_X5_isCell hl0) hnw_X5_isCell hth_X5_isCell (fun _ _ h => absurd h List.not_mem_nil) hkc_X5_isCell (fun args w Q X v0 hv0 h => ?_)
  obtain ⟨x, rfl, h1, h2⟩ := h
  refine ⟨Nat.le_of_ble_eq_true rfl, 20, [], ?_, fun q hq => absurd hq List.not_mem_nil⟩
  (conv => whnf)
  refine ⟨_, _, _, rfl, fun c => ?_, fun c => ?_⟩
  · (conv => whnf)
    exact ⟨Or.inr rfl, h1 ((vp_in_le (n := 95) (by decide)).mp c)⟩
  · (conv => whnf)
    exact ⟨Or.inl rfl, h2 (fun q => c ((vp_in_le (n := 95) (by decide)).mpr q))⟩
/-- what one call of joins does -/
def zJn (h : Nat → Int32) (s : Int32) (k n : Nat) (a4 a3 : Nat → Int32) (n' : Nat) (b4 b3 : Nat → Int32) : Prop :=
  ((h k ≠ 0 ∧ a3 k = -1) ∧ n' = n + 1 ∧ b4 = upd a4 n (nI k) ∧ b3 = upd a3 k s) ∨ (¬ (h k ≠ 0 ∧ a3 k = -1) ∧ n' = n ∧ b4 = a4 ∧ b3 = a3)
def sp_X5_joins : zSpec := fun args w Q _ => ∃ α ν β μ r k s n, k < 96 ∧ (β 0 k ≠ 0 → β 3 k = -1 → n < 96) ∧ args = [.ref 21, .int (nI k), .int s, .int (nI n)] ∧ w = W2 α ν β μ r ∧ ∀ n' b4 b3, zJn (β 0) s k n (β 4) (β 3) n' b4 b3 → Q (some (.int (nI n'))) (W2 α ν (zu (zu β 3 b3) 4 b4) μ r)
def pg_X5_joins : List zE := [(0, .aload_n 0, 1, []), (1, .getfield 7, 3, []), (4, .iload_n 1, 1, []), (5, .iaload, 1, []), (6, .ifCond .eq 13, 3, [19]), (9, .aload_n 0, 1, []), (10, .getfield 19, 3, []), (13, .iload_n 1, 1, []), (14, .iaload, 1, []), (15, .iconst (-1), 1, []), (16, .if_icmp .eq 5, 3, [21]), (19, .iload_n 3, 1, []), (20, .ireturn, 1, []), (21, .aload_n 0, 1, []), (22, .getfield 19, 3, []), (25, .iload_n 1, 1, []), (26, .iload_n 2, 1, []), (27, .iastore, 1, []), (28, .aload_n 0, 1, []), (29, .getfield 22, 3, []), (32, .iload_n 3, 1, []), (33, .iload_n 1, 1, []), (34, .iastore, 1, []), (35, .iload_n 3, 1, []), (36, .iconst 1, 1, [1]), (37, .iadd, 1, []), (38, .ireturn, 1, [])]
theorem hp_X5_joins : ∀ q ∈ pg_X5_joins, decode cX5_joins q.1 = .ok (q.2.1, q.2.2.1) ∧ ztg q.2.1 q.1 q.2.2.1 q.2.2.2 = true := zpg_of (by decide +kernel)
def cs_X5_joins : List (Nat × zCall) := []
theorem hcs_X5_joins {l : Launch} (hl0 : l.stackTraces = false) : ∀ q ∈ cs_X5_joins, zCallable l RX5 1 q := fun _ h => absurd h List.not_mem_nil
def th_X5_joins : List (Nat × String) := []
theorem hth_X5_joins : ∀ q ∈ th_X5_joins, zThrow cX5_joins RX5 q := fun _ h => absurd h List.not_mem_nil
def kc_X5_joins : List (Nat × Int32) := []
theorem hkc_X5_joins : ∀ q ∈ kc_X5_joins, Cond.constant RX5 q.1 q.2 ∈ zTs := fun _ h => absurd h List.not_mem_nil
def nw_X5_joins : List (Nat × Nat × Nat × List Value) := []
theorem hnw_X5_joins : ∀ q ∈ nw_X5_joins, zNew RX5 q := fun _ h => absurd h List.not_mem_nil
set_option maxHeartbeats 4000000 in
set_option maxRecDepth 20000 in
theorem c_X5_joins {l : Launch} (hl0 : l.stackTraces = false) : CT l yX5_joins (.code yX5_joins cX5_joins 4 (some .int)) 1 0 0 false sp_X5_joins := by
  refine zCT_of hl0 (own := RX5) fl_RX5 cs_X5_joins nw_X5_joins th_X5_joins kc_X5_joins (fun _ => []) false pg_X5_joins rfl (by decide +kernel) hp_X5_joins ⟨_, _, rfl, rfl⟩ hfl_RX5 (fun h => nomatch h) (hcs_X5_joins hl0) hnw_X5_joins hth_X5_joins (fun _ _ h => absurd h List.not_mem_nil) hkc_X5_joins (fun args w Q X v0 hv0 h => ?_)
  obtain ⟨α, ν, β, μ, r, k, s, n, hk, hn, rfl, rfl, hQ⟩ := h
  refine ⟨Nat.le_of_ble_eq_true rfl, 60, [], ?_, fun q hq => absurd hq List.not_mem_nil⟩
  (conv => whnf)
  refine ⟨vp_in_nI hk (by decide), ?_⟩
  (conv => whnf)
  rw [nI_clamp (by omega)]
  refine And.intro (fun c => ?_) (fun c => ?_)
  · (conv => whnf)
    exact hQ n (β 4) (β 3) (Or.inr ⟨fun q => q.1 c, rfl, rfl, rfl⟩)
  · (conv => whnf)
    refine ⟨vp_in_nI hk (by decide), ?_⟩
    (conv => whnf)
    rw [nI_clamp (by omega)]
    refine And.intro (fun d => ?_) (fun d => ?_)
    · have hlt : n < 96 := hn c d
      (conv => whnf)
      refine ⟨vp_in_nI hk (by decide), ?_⟩
      (conv => whnf)
      refine ⟨vp_in_nI hlt (by decide), ?_⟩
      (conv => whnf)
      rw [nI_clamp (by omega), nI_clamp (by omega)]
      dsimp only [zkon]
      rw [nI_add]
      exact hQ (n + 1) _ _ (Or.inl ⟨⟨c, d⟩, rfl, rfl, rfl⟩)
    · (conv => whnf)
      exact hQ n (β 4) (β 3) (Or.inr ⟨fun q => d q.2, rfl, rfl, rfl⟩)
/-- within the search from c: rows seen so far -/
def zFG (h : Nat → Int32) (c : Nat) (f0 : Nat → Int32) (n i : Nat) (a4 a3 : Nat → Int32) : Prop := ∃ ρ : Nat → Nat, zBF h c n i ρ ∧ (∀ j, j < n → a4 j = nI (ρ j)) ∧ (∀ k, k < 96 → (∃ j, j < n ∧ ρ j = k) → a3 k = nI c) ∧ (∀ k, k < 96 → (¬ ∃ j, j < n ∧ ρ j = k) → a3 k = f0 k)
def zFI (h : Nat → Int32) (c : Nat) (f0 : Nat → Int32) (n i f : Nat) (P : Nat → Prop) (a4 a3 : Nat → Int32) : Prop := zLowTo h c f0 ∧ f0 c = -1 ∧ c < 96 ∧ zFG h c f0 n i a4 a3 ∧ i < n ∧ f < 96 ∧ zcon h c f ∧ a4 i = nI f ∧ ∀ k, k < 96 → P k → h k ≠ 0 → a3 k = nI c
/-- a cell that the search can reach is new, or seen -/
theorem zFG_new {h f0 : Nat → Int32} {c n i k : Nat} {a4 a3 : Nat → Int32} (hl : zLowTo h c f0) (h0 : f0 c = -1) (hc : c < 96) (q : zFG h c f0 n i a4 a3) (hk : k < 96) (hcon : zcon h c k) : a3 k = -1 ∨ a3 k = nI c := by
  obtain ⟨ρ, q1, q2, q3, q4⟩ := q
  by_cases e : ∃ j, j < n ∧ ρ j = k
  · exact Or.inr (q3 k hk e)
  · left
    rw [q4 k hk e]
    refine (hl k hk).2 (fun ⟨x, hx, hxk⟩ => ?_)
    have h1 : zcon h x c := zcon_trans hxk (zcon_symm hcon)
    rcases (hl c hc).1 ⟨x, hx, h1⟩ with ⟨a, _⟩ | ⟨_, j, e1, g, _⟩
    · exact (zcon_end h1).2 a
    · exact nI_ne_m1 (by have := (zcon_beg g).1; omega) (e1.symm.trans h0)
theorem zFG_lt {h f0 : Nat → Int32} {c n i k : Nat} {a4 a3 : Nat → Int32} (hc : c < 96) (q : zFG h c f0 n i a4 a3) (hk : k < 96) (h1 : a3 k = -1) : n < 96 := by
  obtain ⟨ρ, q1, q2, q3, q4⟩ := q
  exact zBF_lt q1 hk (fun j hj e => nI_ne_m1 (by omega) ((q3 k hk ⟨j, hj, e⟩).symm.trans h1))
theorem zFG_put {h f0 : Nat → Int32} {c n i k : Nat} {a4 a3 : Nat → Int32} (hc : c < 96) (q : zFG h c f0 n i a4 a3) (hk : k < 96) (hcon : zcon h c k) (h1 : a3 k = -1) : zFG h c f0 (n + 1) i (upd a4 n (nI k)) (upd a3 k (nI c)) := by
  obtain ⟨ρ, q1, q2, q3, q4⟩ := q
  have hv : ∀ j, j < n → ρ j ≠ k := fun j hj e => nI_ne_m1 (by omega) ((q3 k hk ⟨j, hj, e⟩).symm.trans h1)
  have hlo : ∀ j, j < n → va_up ρ n k j = ρ j := fun j hj => by
    have : j ≠ n := by omega
    simp [va_up, this]
  have hhi : va_up ρ n k n = k := by simp [va_up]
  refine ⟨va_up ρ n k, zBF_add q1 hcon hv, fun j hj => ?_, fun d hd e => ?_, fun d hd e => ?_⟩
  · by_cases e : j < n
    · rw [hlo j e, pk_un (by omega)]
      exact q2 j e
    · have : j = n := by omega
      subst this
      rw [hhi, pk_us]
  · by_cases e1 : d = k
    · rw [e1, pk_us]
    · rw [pk_un e1]
      obtain ⟨j, hj, e2⟩ := e
      by_cases e3 : j < n
      · exact q3 d hd ⟨j, e3, by rw [← hlo j e3]; exact e2⟩
      · have : j = n := by omega
        subst this
        rw [hhi] at e2
        exact absurd e2.symm e1
  · have e1 : d ≠ k := fun e1 => e ⟨n, by omega, by rw [hhi, e1]⟩
    rw [pk_un e1]
    exact q4 d hd (fun ⟨j, hj, e2⟩ => e ⟨j, by omega, by rw [hlo j hj]; exact e2⟩)
theorem zFI_join {h f0 : Nat → Int32} {c n i f n' k : Nat} {P : Nat → Prop} {a4 a3 b4 b3 : Nat → Int32} (q : zFI h c f0 n i f P a4 a3) (hr : zJn h (nI c) k n a4 a3 n' b4 b3) (hk : k < 96) (hadj : zadj f k) : zFI h c f0 n' i f (fun x => P x ∨ x = k) b4 b3 := by
  obtain ⟨q1, q2, q3, q4, q5, q6, q7, q8, q9⟩ := q
  rcases hr with ⟨⟨r1, r2⟩, rfl, rfl, rfl⟩ | ⟨r1, rfl, rfl, rfl⟩
  · refine ⟨q1, q2, q3, zFG_put q3 q4 hk (zcon_step q7 hadj hk r1) r2, by omega, q6, q7, by rw [pk_un (by omega)]; exact q8, fun x hx p h0 => ?_⟩
    by_cases e : x = k
    · rw [e, pk_us]
    · rw [pk_un e]
      exact q9 x hx (p.resolve_right e) h0
  · refine ⟨q1, q2, q3, q4, q5, q6, q7, q8, fun x hx p h0 => ?_⟩
    rcases p with p | rfl
    · exact q9 x hx p h0
    · rcases zFG_new q1 q2 q3 q4 hk (zcon_step q7 hadj hk h0) with e | e
      · exact absurd ⟨h0, e⟩ r1
      · exact e
theorem zFI_mono {h f0 : Nat → Int32} {c n i f : Nat} {P P' : Nat → Prop} {a4 a3 : Nat → Int32} (q : zFI h c f0 n i f P a4 a3) (hp : ∀ k, k < 96 → P' k → P k) : zFI h c f0 n i f P' a4 a3 := by
  obtain ⟨q1, q2, q3, q4, q5, q6, q7, q8, q9⟩ := q
  exact ⟨q1, q2, q3, q4, q5, q6, q7, q8, fun x hx p h0 => q9 x hx (hp x hx p) h0⟩
theorem zFI_next {h f0 : Nat → Int32} {c n i f : Nat} {P : Nat → Prop} {a4 a3 : Nat → Int32} (q : zFI h c f0 n i f P a4 a3) (hp : ∀ k, zadj f k → k < 96 → P k) : zFG h c f0 n (i + 1) a4 a3 := by
  obtain ⟨q1, q2, q3, ⟨ρ, g1, g2, g3, g4⟩, q5, q6, q7, q8, q9⟩ := q
  have e : ρ i = f := nI_inj (by have := (zcon_end (g1.2.1 i q5)).1; omega) (by omega) ((g2 i q5).symm.trans q8)
  refine ⟨ρ, zBF_next g1 q5 (fun b hb hadj h0 => ?_), g2, g3, g4⟩
  rw [e] at hadj
  apply Classical.byContradiction
  intro hno
  have h1 := g4 b hb hno
  rw [q9 b hb (hp b hadj hb) h0] at h1
  have h2 : f0 b = -1 := by
    refine (q1 b hb).2 (fun ⟨x, hx, hxk⟩ => ?_)
    have h3 : zcon h x c := zcon_trans hxk (zcon_symm (zcon_step q7 hadj hb h0))
    rcases (q1 c q3).1 ⟨x, hx, h3⟩ with ⟨a, _⟩ | ⟨_, j, e1, g, _⟩
    · exact (zcon_end h3).2 a
    · exact nI_ne_m1 (by have := (zcon_beg g).1; omega) (e1.symm.trans q2)
  exact nI_ne_m1 (show c < 2 ^ 31 by omega) (h1.trans h2)
/-- the state at the head of the inner loop -/
def zFS (h : Nat → Int32) (c n i : Nat) (a4 a3 : Nat → Int32) : Prop := (n = 0 ∧ i = 0 ∧ zLowTo h (c + 1) a3) ∨ ∃ f0, zLowTo h c f0 ∧ f0 c = -1 ∧ zFG h c f0 n i a4 a3
theorem zFS_le {h : Nat → Int32} {c n i : Nat} {a4 a3 : Nat → Int32} (q : zFS h c n i a4 a3) : n ≤ 96 ∧ i ≤ n := by
  rcases q with ⟨rfl, rfl, _⟩ | ⟨f0, _, _, ρ, g1, _⟩
  · exact ⟨by decide, by decide⟩
  · exact ⟨zBF_le g1, g1.1⟩
theorem zFS_start {h f0 : Nat → Int32} {c n' : Nat} {a4 b4 b3 : Nat → Int32} (hc : c < 96) (hl : zLowTo h c f0) (hr : zJn h (nI c) c 0 a4 f0 n' b4 b3) : zFS h c n' 0 b4 b3 := by
  rcases hr with ⟨⟨r1, r2⟩, rfl, rfl, rfl⟩ | ⟨r1, rfl, rfl, rfl⟩
  · right
    refine ⟨f0, hl, r2, fun _ => c, zBF_1 hc r1 rfl, fun j hj => ?_, fun k hk e => ?_, fun k hk e => ?_⟩
    · have : j = 0 := by omega
      subst this
      rw [pk_us]
    · obtain ⟨j, hj, e⟩ := e
      rw [← e, pk_us]
    · have e1 : k ≠ c := fun e1 => e ⟨0, by omega, e1.symm⟩
      rw [pk_un e1]
  · left
    refine ⟨rfl, rfl, zLowTo_skip hc hl ?_⟩
    by_cases e : h c = 0
    · exact Or.inr e
    · exact Or.inl (fun e2 => r1 ⟨e, e2⟩)
theorem zFS_end {h : Nat → Int32} {c n : Nat} {a4 a3 : Nat → Int32} (hc : c < 96) (q : zFS h c n n a4 a3) : zLowTo h (c + 1) a3 := by
  rcases q with ⟨_, _, q⟩ | ⟨f0, q1, q2, ρ, g1, g2, g3, g4⟩
  · exact q
  · exact zLowTo_go (a4 := a4) (a5 := a4) (o := 0) hc q1 q2 g1 g3 g4
def sp_X5_finds : zSpec := fun args w Q _ => ∃ α ν β μ r, args = [.ref 21] ∧ w = W2 α ν β μ r ∧ ∀ f a4, zLow (β 0) f → Q none (W2 α ν (zu (zu β 4 a4) 3 f) μ r)
def pg_X5_finds : List zE := [(0, .iconst 0, 1, [0]), (1, .istore_n 1, 1, []), (2, .iload_n 1, 1, []), (3, .bipush 96, 2, [96]), (5, .if_icmp .ge 16, 3, [21]), (8, .aload_n 0, 1, []), (9, .getfield 19, 3, []), (12, .iload_n 1, 1, []), (13, .iconst (-1), 1, []), (14, .iastore, 1, []), (15, .iinc 1 1, 3, [1]), (18, .goto (-16), 3, [2]), (21, .iconst 0, 1, [0]), (22, .istore_n 1, 1, []), (23, .iload_n 1, 1, []), (24, .bipush 96, 2, [96]), (26, .if_icmp .ge 132, 3, [158]), (29, .aload_n 0, 1, []), (30, .iload_n 1, 1, []), (31, .iload_n 1, 1, []), (32, .iconst 0, 1, [0]), (33, .invokevirtual 63, 3, []), (36, .istore_n 2, 1, []), (37, .iconst 0, 1, [0]), (38, .istore_n 3, 1, []), (39, .iload_n 3, 1, []), (40, .iload_n 2, 1, []), (41, .if_icmp .ge 111, 3, [152]), (44, .aload_n 0, 1, []), (45, .getfield 22, 3, []), (48, .iload_n 3, 1, []), (49, .iaload, 1, []), (50, .istore 4, 2, []), (52, .iload 4, 2, []), (54, .bipush 12, 2, [12]), (56, .irem, 1, []), (57, .ifCond .le 16, 3, [73]), (60, .aload_n 0, 1, []), (61, .iload 4, 2, []), (63, .iconst 1, 1, [1]), (64, .isub, 1, []), (65, .iload_n 1, 1, []), (66, .iload_n 2, 1, []), (67, .invokevirtual 63, 3, []), (70, .goto 4, 3, [74]), (73, .iload_n 2, 1, []), (74, .istore_n 2, 1, []), (75, .iload 4, 2, []), (77, .bipush 12, 2, [12]), (79, .irem, 1, []), (80, .bipush 11, 2, [11]), (82, .if_icmp .ge 16, 3, [98]), (85, .aload_n 0, 1, []), (86, .iload 4, 2, []), (88, .iconst 1, 1, [1]), (89, .iadd, 1, []), (90, .iload_n 1, 1, []), (91, .iload_n 2, 1, []), (92, .invokevirtual 63, 3, []), (95, .goto 4, 3, [99]), (98, .iload_n 2, 1, []), (99, .istore_n 2, 1, []), (100, .iload 4, 2, []), (102, .bipush 12, 2, [12]), (104, .if_icmp .lt 17, 3, [121]), (107, .aload_n 0, 1, []), (108, .iload 4, 2, []), (110, .bipush 12, 2, [12]), (112, .isub, 1, []), (113, .iload_n 1, 1, []), (114, .iload_n 2, 1, []), (115, .invokevirtual 63, 3, []), (118, .goto 4, 3, [122]), (121, .iload_n 2, 1, []), (122, .istore_n 2, 1, []), (123, .iload 4, 2, []), (125, .bipush 84, 2, [84]), (127, .if_icmp .ge 17, 3, [144]), (130, .aload_n 0, 1, []), (131, .iload 4, 2, []), (133, .bipush 12, 2, [12]), (135, .iadd, 1, []), (136, .iload_n 1, 1, []), (137, .iload_n 2, 1, []), (138, .invokevirtual 63, 3, []), (141, .goto 4, 3, [145]), (144, .iload_n 2, 1, []), (145, .istore_n 2, 1, []), (146, .iinc 3 1, 3, [1]), (149, .goto (-110), 3, [39]), (152, .iinc 1 1, 3, [1]), (155, .goto (-132), 3, [23]), (158, .return_, 1, [])]
theorem hp_X5_finds : ∀ q ∈ pg_X5_finds, decode cX5_finds q.1 = .ok (q.2.1, q.2.2.1) ∧ ztg q.2.1 q.1 q.2.2.1 q.2.2.2 = true := zpg_of (by decide +kernel)
def cs_X5_finds : List (Nat × zCall) := [(63, 0, 4, some 6, 0, 0, false, sp_X5_joins)]
theorem hcs_X5_finds {l : Launch} (hl0 : l.stackTraces = false) : ∀ q ∈ cs_X5_finds, zCallable l RX5 2 q := List.forall_mem_cons.mpr ⟨zcV (C := (RX5, TX5, 21)) (ps := [1058, 1060, 14, 38, 1061]) (c_X5_joins hl0) (by decide +kernel) rfl ⟨rfl, by decide +kernel, by decide +kernel, by decide +kernel⟩ (by decide) (by decide), fun _ h => absurd h List.not_mem_nil⟩
def th_X5_finds : List (Nat × String) := []
theorem hth_X5_finds : ∀ q ∈ th_X5_finds, zThrow cX5_finds RX5 q := fun _ h => absurd h List.not_mem_nil
def kc_X5_finds : List (Nat × Int32) := []
theorem hkc_X5_finds : ∀ q ∈ kc_X5_finds, Cond.constant RX5 q.1 q.2 ∈ zTs := fun _ h => absurd h List.not_mem_nil
def nw_X5_finds : List (Nat × Nat × Nat × List Value) := []
theorem hnw_X5_finds : ∀ q ∈ nw_X5_finds, zNew RX5 q := fun _ h => absurd h List.not_mem_nil
set_option maxHeartbeats 4000000 in
set_option maxRecDepth 20000 in
theorem c_X5_finds {l : Launch} (hl0 : l.stackTraces = false) : CT l yX5_finds (.code yX5_finds cX5_finds 5 none) 2 0 0 false sp_X5_finds := by
  refine zCT_of hl0 (own := RX5) fl_RX5 cs_X5_finds nw_X5_finds th_X5_finds kc_X5_finds (fun _ => []) false pg_X5_finds rfl (by decide +kernel) hp_X5_finds ⟨_, _, rfl, rfl⟩ hfl_RX5 (fun h => nomatch h) (hcs_X5_finds hl0) hnw_X5_finds hth_X5_finds (fun _ _ h => absurd h List.not_mem_nil) hkc_X5_finds (fun args w Q X v0 hv0 h => ?_)
  obtain ⟨α, ν, β, μ, r, rfl, rfl, hQ⟩ := h
  refine ⟨Nat.le_of_ble_eq_true rfl, 100, [
    (2, fun m L S w' cu su => ∃ k, zsub [(0, .ref 21), (1, .int (nI k))] L ∧ S = [] ∧ w' = W2 α ν (zu β 3 (zfl (-1) (β 3) k)) μ r ∧ k ≤ 96 ∧ m = 200000 + (96 - k) ∧ cu = 0 ∧ su = 0),
    (23, fun m L S w' cu su => ∃ c a4 a3, zsub [(0, .ref 21), (1, .int (nI c))] L ∧ S = [] ∧ w' = W2 α ν (zu (zu β 4 a4) 3 a3) μ r ∧ c ≤ 96 ∧ zLowTo (β 0) c a3 ∧ m = (97 - c) * 1000 ∧ cu = 0 ∧ su = 0),
    (39, fun m L S w' cu su => ∃ c n i a4 a3, zsub [(0, .ref 21), (1, .int (nI c)), (2, .int (nI n)), (3, .int (nI i))] L ∧ S = [] ∧ w' = W2 α ν (zu (zu β 4 a4) 3 a3) μ r ∧ c < 96 ∧ zFS (β 0) c n i a4 a3 ∧ m = (97 - c) * 1000 - 1 - i * 8 ∧ cu = 0 ∧ su = 0),
    (75, fun m L S w' cu su => ∃ c n i f f0 a4 a3, zsub [(0, .ref 21), (1, .int (nI c)), (2, .int (nI n)), (3, .int (nI i)), (4, .int (nI f))] L ∧ S = [] ∧ w' = W2 α ν (zu (zu β 4 a4) 3 a3) μ r ∧ i < 96 ∧ zFI (β 0) c f0 n i f (fun k => f % 12 > 0 ∧ k + 1 = f) a4 a3 ∧ m = (97 - c) * 1000 - 2 - i * 8 ∧ cu = 0 ∧ su = 0),
    (100, fun m L S w' cu su => ∃ c n i f f0 a4 a3, zsub [(0, .ref 21), (1, .int (nI c)), (2, .int (nI n)), (3, .int (nI i)), (4, .int (nI f))] L ∧ S = [] ∧ w' = W2 α ν (zu (zu β 4 a4) 3 a3) μ r ∧ i < 96 ∧ zFI (β 0) c f0 n i f (fun k => (f % 12 > 0 ∧ k + 1 = f) ∨ (f % 12 < 11 ∧ k = f + 1)) a4 a3 ∧ m = (97 - c) * 1000 - 3 - i * 8 ∧ cu = 0 ∧ su = 0),
    (123, fun m L S w' cu su => ∃ c n i f f0 a4 a3, zsub [(0, .ref 21), (1, .int (nI c)), (2, .int (nI n)), (3, .int (nI i)), (4, .int (nI f))] L ∧ S = [] ∧ w' = W2 α ν (zu (zu β 4 a4) 3 a3) μ r ∧ i < 96 ∧ zFI (β 0) c f0 n i f (fun k => k + 12 = f ∨ (f % 12 > 0 ∧ k + 1 = f) ∨ (f % 12 < 11 ∧ k = f + 1)) a4 a3 ∧ m = (97 - c) * 1000 - 4 - i * 8 ∧ cu = 0 ∧ su = 0),
    (146, fun m L S w' cu su => ∃ c n i f f0 a4 a3, zsub [(0, .ref 21), (1, .int (nI c)), (2, .int (nI n)), (3, .int (nI i)), (4, .int (nI f))] L ∧ S = [] ∧ w' = W2 α ν (zu (zu β 4 a4) 3 a3) μ r ∧ i < 96 ∧ zFI (β 0) c f0 n i f (zadj f) a4 a3 ∧ m = (97 - c) * 1000 - 5 - i * 8 ∧ cu = 0 ∧ su = 0)], ?_, ?_⟩
  · (conv => whnf)
    refine ⟨_, 0, ⟨rfl, rfl, trivial⟩, rfl, ?_, by decide, rfl, rfl, rfl⟩
    rw [zfl_0]
    rfl
  · intro q hq
    rcases List.mem_cons.mp hq with rfl | hq
    · rintro m L S w' cu su ⟨k, hL, rfl, rfl, hk, rfl, rfl, rfl⟩
      refine ⟨_, hL, ?_⟩
      (conv => whnf)
      refine And.intro (fun c => ?_) (fun c => ?_)
      · have hlt : k < 96 := (nI_ltI (by omega) (by omega)).mp c
        (conv => whnf)
        refine ⟨vp_in_nI hlt (by decide), ?_⟩
        (conv => whnf)
        refine ⟨_, by omega, k + 1, ⟨rfl, zi1 rfl, trivial⟩, rfl, ?_, hlt, rfl, rfl, rfl⟩
        rw [nI_clamp (by omega), ← zfl_s]
        rfl
      · have hge : k = 96 := by
          have : ¬ k < 96 := fun h => c (nI_lt h (by decide))
          omega
        subst hge
        (conv => whnf)
        exact ⟨_, by decide, 0, β 4, zfl (-1) (β 3) 96, ⟨rfl, rfl, trivial⟩, rfl, rfl, by decide, zLowTo_0 (fun k hk => if_pos hk), rfl, rfl, rfl⟩
    rcases List.mem_cons.mp hq with rfl | hq
    · rintro m L S w' cu su ⟨c, a4, a3, hL, rfl, rfl, hc, hl, rfl, rfl, rfl⟩
      refine ⟨_, hL, ?_⟩
      (conv => whnf)
      refine And.intro (fun q => ?_) (fun q => ?_)
      · have hlt : c < 96 := (nI_ltI (by omega) (by omega)).mp q
        (conv => whnf)
        refine ⟨α, ν, zu (zu β 4 a4) 3 a3, μ, r, c, nI c, 0, hlt, fun _ _ => by decide, rfl, rfl, fun n' b4 b3 hr => ?_⟩
        (conv => whnf)
        exact ⟨_, by omega, c, n', 0, b4, b3, ⟨rfl, rfl, rfl, rfl, trivial⟩, rfl, rfl, hlt, zFS_start hlt hl hr, rfl, rfl, rfl⟩
      · have hge : c = 96 := by
          have : ¬ c < 96 := fun h => q (nI_lt h (by decide))
          omega
        subst hge
        (conv => whnf)
        exact hQ a3 a4 (zLowTo_all hl)
    rcases List.mem_cons.mp hq with rfl | hq
    · rintro m L S w' cu su ⟨c, n, i, a4, a3, hL, rfl, rfl, hc, hs, rfl, rfl, rfl⟩
      refine ⟨_, hL, ?_⟩
      obtain ⟨hn, hi⟩ := zFS_le hs
      (conv => whnf)
      refine And.intro (fun q => ?_) (fun q => ?_)
      · have hlt : i < n := (nI_ltI (by omega) (by omega)).mp q
        rcases hs with ⟨e, _, _⟩ | ⟨f0, s1, s2, ρ, g1, g2, g3, g4⟩
        · omega
        have hf := zcon_end (g1.2.1 i hlt)
        have hg : zFI (β 0) c f0 n i (ρ i) (fun _ => False) a4 a3 := ⟨s1, s2, hc, ⟨ρ, g1, g2, g3, g4⟩, hlt, hf.1, g1.2.1 i hlt, g2 i hlt, fun _ _ x _ => x.elim⟩
        (conv => whnf)
        refine ⟨vp_in_nI (show i < 96 by omega) (by decide), ?_⟩
        have e4 : (zu (zu β 4 a4) 3 a3) 4 i = nI (ρ i) := g2 i hlt
        (conv => whnf)
        rw [nI_clamp (by omega), e4]
        generalize ρ i = f at hg hf
        refine ⟨by decide, ?_⟩
        (conv => whnf)
        dsimp only [zkon]
        rw [pk_rem (show f < 2 ^ 31 by omega) (by decide) (by decide)]
        refine And.intro (fun d => ?_) (fun d => ?_)
        · have hm : f % 12 > 0 := by
            have : (0 : Nat) < f % 12 := (nI_ltI (a := 0) (by decide) (by omega)).mp d
            exact this
          have hf1 : f - 1 + 1 = f := by omega
          (conv => whnf)
          refine ⟨α, ν, zu (zu β 4 a4) 3 a3, μ, r, f - 1, nI c, n, by omega, fun _ e => zFG_lt hc hg.2.2.2.1 (by omega) e, ?_, rfl, fun n1 b4 b3 hr => ?_⟩
          · rw [← pk_sub (show 1 ≤ f by omega)]
            rfl
          · (conv => whnf)
            exact ⟨_, by omega, c, n1, i, f, f0, b4, b3, ⟨rfl, rfl, rfl, rfl, rfl, trivial⟩, rfl, rfl, by omega, zFI_mono (zFI_join hg hr (by omega) (Or.inr (Or.inr (Or.inl ⟨hm, hf1⟩)))) (fun k _ e => Or.inr (by omega)), rfl, rfl, rfl⟩
        · have hm : ¬ f % 12 > 0 := fun x => d (nI_lt (a := 0) x (by omega))
          (conv => whnf)
          exact ⟨_, by omega, c, n, i, f, f0, a4, a3, ⟨rfl, rfl, rfl, rfl, rfl, trivial⟩, rfl, rfl, by omega, zFI_mono hg (fun k _ e => absurd e.1 hm), rfl, rfl, rfl⟩
      · have hge : i = n := by
          have : ¬ i < n := fun h => q (nI_lt h (by omega))
          omega
        subst hge
        (conv => whnf)
        exact ⟨_, by omega, c + 1, a4, a3, ⟨rfl, zi1 rfl, trivial⟩, rfl, rfl, hc, zFS_end hc hs, rfl, rfl, rfl⟩
    rcases List.mem_cons.mp hq with rfl | hq
    · rintro m L S w' cu su ⟨c, n, i, f, f0, a4, a3, hL, rfl, rfl, hi, hg, rfl, rfl, rfl⟩
      refine ⟨_, hL, ?_⟩
      have hc := hg.2.2.1
      have hf := hg.2.2.2.2.2.1
      (conv => whnf)
      refine ⟨by decide, ?_⟩
      (conv => whnf)
      dsimp only [zkon]
      rw [pk_rem (show f < 2 ^ 31 by omega) (by decide) (by decide)]
      refine And.intro (fun d => ?_) (fun d => ?_)
      · have hm : f % 12 < 11 := (nI_ltI (by omega) (by decide)).mp d
        (conv => whnf)
        refine ⟨α, ν, zu (zu β 4 a4) 3 a3, μ, r, f + 1, nI c, n, by omega, fun _ e => zFG_lt hc hg.2.2.2.1 (by omega) e, ?_, rfl, fun n1 b4 b3 hr => ?_⟩
        · rw [← nI_add]
          rfl
        · (conv => whnf)
          refine ⟨_, by omega, c, n1, i, f, f0, b4, b3, ⟨rfl, rfl, rfl, rfl, rfl, trivial⟩, rfl, rfl, hi, zFI_mono (zFI_join hg hr (by omega) (Or.inr (Or.inr (Or.inr ⟨hm, rfl⟩)))) (fun k _ e => ?_), rfl, rfl, rfl⟩
          rcases e with e | e
          · exact Or.inl e
          · exact Or.inr e.2
      · have hm : ¬ f % 12 < 11 := fun x => d (nI_lt x (by decide))
        (conv => whnf)
        refine ⟨_, by omega, c, n, i, f, f0, a4, a3, ⟨rfl, rfl, rfl, rfl, rfl, trivial⟩, rfl, rfl, hi, zFI_mono hg (fun k _ e => ?_), rfl, rfl, rfl⟩
        rcases e with e | e
        · exact e
        · exact absurd e.1 hm
    rcases List.mem_cons.mp hq with rfl | hq
    · rintro m L S w' cu su ⟨c, n, i, f, f0, a4, a3, hL, rfl, rfl, hi, hg, rfl, rfl, rfl⟩
      refine ⟨_, hL, ?_⟩
      have hc := hg.2.2.1
      have hf := hg.2.2.2.2.2.1
      (conv => whnf)
      refine And.intro (fun d => ?_) (fun d => ?_)
      · have hm : f < 12 := (nI_ltI (by omega) (by decide)).mp d
        (conv => whnf)
        refine ⟨_, by omega, c, n, i, f, f0, a4, a3, ⟨rfl, rfl, rfl, rfl, rfl, trivial⟩, rfl, rfl, hi, zFI_mono hg (fun k _ e => ?_), rfl, rfl, rfl⟩
        rcases e with e | e
        · omega
        · exact e
      · have hm : ¬ f < 12 := fun x => d (nI_lt x (by decide))
        (conv => whnf)
        refine ⟨α, ν, zu (zu β 4 a4) 3 a3, μ, r, f - 12, nI c, n, by omega, fun _ e => zFG_lt hc hg.2.2.2.1 (by omega) e, ?_, rfl, fun n1 b4 b3 hr => ?_⟩
        · rw [← pk_sub (show 12 ≤ f by omega)]
          rfl
        · (conv => whnf)
          refine ⟨_, by omega, c, n1, i, f, f0, b4, b3, ⟨rfl, rfl, rfl, rfl, rfl, trivial⟩, rfl, rfl, hi, zFI_mono (zFI_join hg hr (by omega) (Or.inl (by omega))) (fun k _ e => ?_), rfl, rfl, rfl⟩
          rcases e with e | e
          · exact Or.inr (by omega)
          · exact Or.inl e
    rcases List.mem_cons.mp hq with rfl | hq
    · rintro m L S w' cu su ⟨c, n, i, f, f0, a4, a3, hL, rfl, rfl, hi, hg, rfl, rfl, rfl⟩
      refine ⟨_, hL, ?_⟩
      have hc := hg.2.2.1
      have hf := hg.2.2.2.2.2.1
      (conv => whnf)
      refine And.intro (fun d => ?_) (fun d => ?_)
      · have hm : f < 84 := (nI_ltI (by omega) (by decide)).mp d
        (conv => whnf)
        refine ⟨α, ν, zu (zu β 4 a4) 3 a3, μ, r, f + 12, nI c, n, by omega, fun _ e => zFG_lt hc hg.2.2.2.1 (by omega) e, ?_, rfl, fun n1 b4 b3 hr => ?_⟩
        · rw [← nI_add]
          rfl
        · (conv => whnf)
          refine ⟨_, by omega, c, n1, i, f, f0, b4, b3, ⟨rfl, rfl, rfl, rfl, rfl, trivial⟩, rfl, rfl, hi, zFI_mono (zFI_join hg hr (by omega) (Or.inr (Or.inl rfl))) (fun k _ e => ?_), rfl, rfl, rfl⟩
          rcases e with e | e | e | e
          · exact Or.inl (Or.inl e)
          · exact Or.inr e.symm
          · exact Or.inl (Or.inr (Or.inl e))
          · exact Or.inl (Or.inr (Or.inr e))
      · have hm : ¬ f < 84 := fun x => d (nI_lt x (by decide))
        (conv => whnf)
        refine ⟨_, by omega, c, n, i, f, f0, a4, a3, ⟨rfl, rfl, rfl, rfl, rfl, trivial⟩, rfl, rfl, hi, zFI_mono hg (fun k hk e => ?_), rfl, rfl, rfl⟩
        rcases e with e | e | e | e
        · exact Or.inl e
        · omega
        · exact Or.inr (Or.inl e)
        · exact Or.inr (Or.inr e)
    rw [List.mem_singleton.mp hq]
    rintro m L S w' cu su ⟨c, n, i, f, f0, a4, a3, hL, rfl, rfl, hi, hg, rfl, rfl, rfl⟩
    refine ⟨_, hL, ?_⟩
    have hc := hg.2.2.1
    (conv => whnf)
    exact ⟨_, by omega, c, n, i + 1, a4, a3, ⟨rfl, rfl, rfl, zi1 rfl, trivial⟩, rfl, rfl, hc, Or.inr ⟨f0, hg.1, hg.2.1, zFI_next hg (fun k e _ => e)⟩, rfl, rfl, rfl⟩
