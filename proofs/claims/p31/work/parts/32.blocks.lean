/-! ===== THE LAW: entry, head of the loop, soundings ===== -/
section ZLV
variable {α α' : Nat → Nat → Int32} {ν ν' : Nat → Int32} {B k d j n : Nat} {w : zW} {x y z : Int32} {Q : Option Value → zW → Prop} {X : String → zW → Prop}
theorem k_lowE (e : y = nI n) (h0 : 0 < n) (hn : n < 2 ^ 31) (h : ∀ z, z < n → Q (some (.int (nI z))) w) : sp_L_low [.int x, .int y] w Q X := ⟨x, n, h0, hn, by rw [e], h _ (zlo_lt x h0)⟩
theorem k_lowA (h0 : 0 < n) (hn : n < 2 ^ 31) (h : ∀ z, z < n → Q (some (.int (nI z))) w) : sp_L_low [.int x, .int (nI n)] w Q X := k_lowE rfl h0 hn h
theorem k_sweepE {h : Nat} (e : y = nI n) (hv : zIv B α ν) (hB : B ≤ 900000) (hk : k < 96) (h1 : 1 ≤ n) (hn : n ≤ 12 - k % 12) (hh : h ≤ 9) (H : ∀ α' ν', zIv (B + 96) α' ν' → α' 13 = α 13 → ν' 5 = ν 5 → Q (some (.int (nI (zcs (α' 3) 96)))) (WX α' ν' [])) : sp_X4_sweep [.ref 0, .int (nI k), .int y, .int (nI h)] (WX α ν []) Q X := by
  subst e
  exact k_sweep hv hB hk h1 hn hh H
theorem k_nameE {m : Nat} (e1 : y = nI j) (e2 : z = nI m) (hv : zIv B α ν) (hB : B ≤ 900000) (hd : d < 4) (hk : k < 96) (j5 : 5 ≤ j) (hj : j ≤ 60) (m1 : 1 ≤ m) (m3 : m ≤ 3) (H1 : Q (some (.int (-nI 3))) (WX α ν []))
    (H2 : ∀ α' ν' v, zIv (B + 1) α' ν' → (∃ a a', α 6 d = nI a ∧ α' 6 d = nI a' ∧ a' < a ∧ a ≤ 200) → (∃ r, zrst (α' 7 d) (ν' 0) = nI r ∧ j ≤ r ∧ r ≤ 1000) → v = zNm α' (α' 3 k) → (v = 0 ∨ v = nI m) → α' 13 = α 13 → ν' 5 = ν 5 → Q (some (.int v)) (WX α' ν' [])) : sp_L_name [.ref 0, .int (nI d), .int (nI k), .int y, .int z] (WX α ν []) Q X := by
  subst e1; subst e2
  exact k_name hv hB hd hk j5 hj m1 m3 H1 H2
theorem k_raiseE {u : Nat} (e1 : y = nI j) (e2 : z = nI u) (hv : zIv B α ν) (hd : d < 4) (hk : k < 96) (j1 : 10 ≤ j) (hj : j ≤ 60) (u1 : 1 ≤ u) (hu : u ≤ 100000) (H1 : Q (some (.int (-nI 3))) (WX α ν []))
    (H2 : ∀ α' ν' h, h < 60 → ν 4 = nI h → zIv B α' ν' → ν' 4 = nI (h + 1) → α' 11 h = α' 3 k → α' 12 h = zFn α' ν' (α' 3 k) → zSu α' ν' 6 = zSu α ν 6 + nI u → Q (some (.int (nI h))) (WX α' ν' [])) : sp_L_raise [.ref 0, .int (nI d), .int (nI k), .int y, .int z] (WX α ν []) Q X := by
  subst e1; subst e2
  exact k_raise hv hd hk j1 hj u1 hu H1 H2
end ZLV
section ZLB
variable {T n k d s B cu su : Nat} {W v : Int32} {α : Nat → Nat → Int32} {ν : Nat → Int32} {K K1 K2 : zK}
set_option maxHeartbeats 8000000 in
set_option maxRecDepth 40000 in
theorem wp_A (hK : ∀ Lc T cu su, T ≤ 60 → zsub (zI0 T 0 (nI 0)) Lc → cu ≤ 100 → su ≤ 2000 → K Lc [] (WX zα0 zν0 []) cu su) : zwp zLT 14 pg_PA [(55, K)] 100 pg_PA [(0, .ref 1000)] [] [] 0 0 := by
  (conv => whnf)
  refine ⟨rfl, rfl, ?_⟩
  (conv => whnf)
  refine zmcI (k_shapes ?_)
  rw [zcs_none (f := zα0 3) 96 (Nat.le_refl _) (fun j hj => if_pos hj)]
  (conv => whnf)
  refine And.intro (fun _ => ?_) (fun c => absurd (show _ from rfl) c)
  (conv => whnf)
  refine zmcI (k_sum ?_)
  rw [show zSu zα0 zν0 6 = 0 from by decide]
  (conv => whnf)
  refine And.intro (fun _ => ?_) (fun c => absurd (show _ from rfl) c)
  (conv => whnf)
  refine zmcI (k_claims zIv_0 ?_)
  rw [show zc zν0 = 0 from by decide]
  (conv => whnf)
  refine And.intro (fun _ => ?_) (fun c => absurd (show _ from rfl) c)
  (conv => whnf)
  refine zmcI (k_cell (k := 0) rfl (by decide) (fun x => ?_))
  (conv => whnf)
  refine zmcI (k_lowA (n := 55) (by decide) (by decide) (fun z hz => ?_))
  (conv => whnf)
  refine hK _ (6 + z) _ _ (by omega) ⟨rfl, rfl, rfl, rfl, ?_, rfl, trivial⟩ (by decide) (by decide)
  exact congrArg (fun x => some (Value.int x)) (nI_add 6 z)
set_option maxHeartbeats 8000000 in
set_option maxRecDepth 40000 in
theorem wp_B (hT : T ≤ 60) (hn : n ≤ T) (hcu : cu ≤ 100000) (hsu : su ≤ 1000000)
    (hK1 : n = T → ∀ Lc cu' su', zsub (zI0 T n W) Lc → cu' ≤ cu → su' ≤ su → K1 Lc [] (WX α ν []) cu' su')
    (hK2 : n < T → ∀ Lc v k cu' su', k < 96 → zsub (zI6 T n W v) Lc → cu' ≤ cu → su' ≤ su → K2 Lc [.int (nI k)] (WX α ν []) cu' su') : zwp zLT 14 pg_PB [(922, K1), (102, K2)] 100 pg_PB (zI0 T n W) [] (WX α ν []) cu su := by
-- .
  (conv => whnf)
  refine And.intro (fun c => ?_) (fun c => ?_)
  · have hlt : n < T := (nI_ltI (by omega) (by omega)).mp c
    (conv => whnf)
    refine And.intro (fun c => absurd c (show ¬ _ from (by decide))) (fun _ => ?_)
    (conv => whnf)
    rw [zbl (show cu + 0 ≤ 600104 by omega)]
    (conv => whnf)
    rw [zbl (show su + 0 ≤ 7301313 by omega)]
    (conv => whnf)
    refine zmcI (k_cell (nI_add 1 n) (by omega) (fun v => ?_))
    (conv => whnf)
    rw [zbl (show cu + 0 + 0 ≤ 600104 by omega)]
    (conv => whnf)
    rw [zbl (show su + 0 + 0 ≤ 7301313 by omega)]
    (conv => whnf)
    refine zmcI (k_lowA (n := 2) (by decide) (by decide) (fun z hz => ?_))
-- .
    (conv => whnf)
    refine And.intro (fun c2 => ?_) (fun c2 => ?_)
    · (conv => whnf)
      rw [zbl (show cu + 0 + 0 + 0 ≤ 600104 by omega)]
      (conv => whnf)
      rw [zbl (show su + 0 + 0 + 0 ≤ 7301313 by omega)]
      (conv => whnf)
      refine zmcI (k_lowA (n := 96) (by decide) (by decide) (fun k hk => ?_))
      (conv => whnf)
      exact hK2 hlt _ v k _ _ hk ⟨rfl, rfl, rfl, rfl, rfl, rfl, rfl, trivial⟩ (by omega) (by omega)
    · -- the other way
-- .
      (conv => whnf)
      rw [zbl (show cu + 0 + 0 + 0 ≤ 600104 by omega)]
      (conv => whnf)
      rw [zbl (show su + 0 + 0 + 0 ≤ 7301313 by omega)]
      (conv => whnf)
      refine zmcI (k_lowA (n := 30) (by decide) (by decide) (fun k hk => ?_))
      (conv => whnf)
      exact hK2 hlt _ v k _ _ (by omega) ⟨rfl, rfl, rfl, rfl, rfl, rfl, rfl, trivial⟩ (by omega) (by omega)
  · have hge : n = T := by
      have : ¬ n < T := fun h => c (nI_lt h (by omega))
      omega
    (conv => whnf)
    exact hK1 hge _ _ _ ⟨rfl, rfl, rfl, rfl, rfl, rfl, trivial⟩ (Nat.le_refl _) (Nat.le_refl _)
set_option maxHeartbeats 8000000 in
set_option maxRecDepth 40000 in
theorem wp_B2 (hcu : cu ≤ 100000) (hsu : su ≤ 1000000)
    (hK : ∀ Lc d s cu' su', d < 4 → s < 18 → zsub (zI2 T n W v k d s) Lc → cu' ≤ cu → su' ≤ su → K Lc [] (WX α ν []) cu' su') : zwp zLT 14 pg_PB2 [(127, K)] 100 pg_PB2 (zI6 T n W v) [.int (nI k)] (WX α ν []) cu su := by
-- .
  (conv => whnf)
  rw [zbl (show cu + 0 ≤ 600104 by omega)]
  (conv => whnf)
  rw [zbl (show su + 0 ≤ 7301313 by omega)]
  (conv => whnf)
  refine zmcI (k_lowA (n := 4) (by decide) (by decide) (fun d hd => ?_))
  (conv => whnf)
  rw [zbl (show cu + 0 + 0 ≤ 600104 by omega)]
  (conv => whnf)
  rw [zbl (show su + 0 + 0 ≤ 7301313 by omega)]
  (conv => whnf)
  refine zmcI (k_lowA (n := 18) (by decide) (by decide) (fun s hs => ?_))
  (conv => whnf)
  exact hK _ d s _ _ hd hs ⟨rfl, rfl, rfl, rfl, rfl, rfl, rfl, rfl, rfl, rfl, trivial⟩ (by omega) (by omega)
set_option maxHeartbeats 8000000 in
set_option maxRecDepth 40000 in
theorem wp_C0 (hcu : cu ≤ 100000) (hsu : su ≤ 1000000)
    (hK1 : ∀ Lc cu' su', zsub (zI2 T n W v k d s) Lc → cu' ≤ cu + 2 → su' ≤ su + 12 → K1 Lc [] (WX α ν []) cu' su')
    (hK2 : ∀ Lc h cu' su', h ≤ 9 → zsub (zI1 T n W v k) Lc → cu' ≤ cu → su' ≤ su → K2 Lc [.int (nI h)] (WX α ν []) cu' su') : zwp zLT 14 pg_PC0 [(230, K1), (156, K2)] 100 pg_PC0 (zI2 T n W v k d s) [] (WX α ν []) cu su := by
-- .
  (conv => whnf)
  refine And.intro (fun c => ?_) (fun c => ?_)
  · (conv => whnf)
    rw [zbl (show cu + 0 ≤ 600104 by omega)]
    (conv => whnf)
    rw [zbl (show su + 0 ≤ 7301313 by omega)]
    (conv => whnf)
    refine zmcI (k_lowA (n := 3) (by decide) (by decide) (fun z hz => ?_))
    (conv => whnf)
    refine And.intro (fun c2 => ?_) (fun c2 => ?_)
    · (conv => whnf)
      exact hK2 _ 0 _ _ (by decide) ⟨rfl, rfl, rfl, rfl, rfl, rfl, rfl, rfl, trivial⟩ (by omega) (by omega)
    · (conv => whnf)
      rw [zbl (show cu + 0 + 0 ≤ 600104 by omega)]
      (conv => whnf)
      rw [zbl (show su + 0 + 0 ≤ 7301313 by omega)]
      (conv => whnf)
      refine zmcI (k_lowA (n := 10) (by decide) (by decide) (fun h hh => ?_))
      (conv => whnf)
      exact hK2 _ h _ _ (by omega) ⟨rfl, rfl, rfl, rfl, rfl, rfl, rfl, rfl, trivial⟩ (by omega) (by omega)
  · (conv => whnf)
    exact hK1 _ _ _ ⟨rfl, rfl, rfl, rfl, rfl, rfl, rfl, rfl, rfl, rfl, trivial⟩ (by omega) (by omega)
set_option maxHeartbeats 8000000 in
set_option maxRecDepth 40000 in
theorem wp_C0b {h : Nat} (hv : zIv B α ν) (hB : B ≤ 800000) (hW : zSu α ν 6 = W) (hk : k < 96) (hh : h ≤ 9) (hcu : cu ≤ 100000) (hsu : su ≤ 1000000)
    (hK2 : ∀ Lc W' α' ν' cu' su', zsub (zI1 T n W' v k) Lc → zIv (B + 200) α' ν' → zSu α' ν' 6 = W' → cu' ≤ cu + 20 → su' ≤ su + 120 → K Lc [] (WX α' ν' []) cu' su') : zwp zLT 14 pg_PC0b [(873, K)] 100 pg_PC0b (zI1 T n W v k) [.int (nI h)] (WX α ν []) cu su := by
  obtain ⟨h0, hh0, e0⟩ := hv.1.2 k hk
-- .
  (conv => whnf)
  rw [zbl (show cu + 2 ≤ 600104 by omega)]
  (conv => whnf)
  rw [zbl (show su + 12 ≤ 7301313 by omega)]
  (conv => whnf)
  refine zmcI (k_sound hv (by omega) hk hh (fun α1 ν1 hv1 h1 h13 h5 => ?_))
  rw [e0]
-- .
  (conv => whnf)
  refine And.intro (fun c => absurd c (show ¬ _ from (nI_pos (by omega)))) (fun _ => ?_)
  (conv => whnf)
  refine And.intro (fun c => absurd c (show ¬ _ from (nI_nlt hh0 (by decide)))) (fun _ => ?_)
  (conv => whnf)
  refine And.intro (fun c => ?_) (fun c => ?_)
  · have hne : ¬ α1 3 k = -1 := by
      rcases hv1.1.1 k hk with ⟨e, _⟩ | ⟨_, j, e, g, _⟩
      · have c' : (0 : Int32) < nI h := c
        rw [← h1, e] at c'
        exact absurd c' (i32_irrefl 0)
      · rw [e]
        exact nI_ne_m1 (by have := (zcon_beg g).1; omega)
    (conv => whnf)
    rw [zbl (show cu + 2 + 1 ≤ 600104 by omega)]
    (conv => whnf)
    rw [zbl (show su + 12 + 6 ≤ 7301313 by omega)]
    (conv => whnf)
    refine zmcI (k_shapeOf hk ?_)
    (conv => whnf)
    refine And.intro (fun c => absurd c (show ¬ _ from hne)) (fun _ => ?_)
    (conv => whnf)
    refine And.intro (fun _ => ?_) (fun c => absurd (show _ from rfl) c)
    (conv => whnf)
    rw [zbl (show cu + 2 + 1 + 2 ≤ 600104 by omega)]
    (conv => whnf)
    rw [zbl (show su + 12 + 6 + 12 ≤ 7301313 by omega)]
    (conv => whnf)
    refine zmcI (k_sound hv1 (by omega) hk hh (fun α2 ν2 hv2 g1 g13 g5 => ?_))
    rw [h1]
    (conv => whnf)
    refine And.intro (fun _ => ?_) (fun c => absurd (show _ from rfl) c)
    (conv => whnf)
    exact hK2 _ W α2 ν2 _ _ ⟨rfl, rfl, rfl, rfl, rfl, rfl, rfl, rfl, trivial⟩ (zIv_mono hv2 (by omega)) (by rw [zSu_cg g13 g5, zSu_cg h13 h5, hW]) (by omega) (by omega)
  · have hz : h = 0 := by
      apply Classical.byContradiction
      intro q
      exact c (nI_lt (a := 0) (by omega) (by omega))
    have he : α1 3 k = -1 := by
      rcases hv1.1.1 k hk with ⟨_, e⟩ | ⟨e, _⟩
      · exact e
      · rw [hz] at h1
        exact absurd h1 e
-- .
    (conv => whnf)
    rw [zbl (show cu + 2 + 1 ≤ 600104 by omega)]
    (conv => whnf)
    rw [zbl (show su + 12 + 6 ≤ 7301313 by omega)]
    (conv => whnf)
    refine zmcI (k_shapeOf hk ?_)
    rw [he]
    (conv => whnf)
    refine And.intro (fun _ => ?_) (fun c => absurd (show _ from rfl) c)
    (conv => whnf)
    refine And.intro (fun _ => ?_) (fun c => absurd (show _ from rfl) c)
    (conv => whnf)
    rw [zbl (show cu + 2 + 1 + 2 ≤ 600104 by omega)]
    (conv => whnf)
    rw [zbl (show su + 12 + 6 + 12 ≤ 7301313 by omega)]
    (conv => whnf)
    refine zmcI (k_sound hv1 (by omega) hk hh (fun α2 ν2 hv2 g1 g13 g5 => ?_))
    rw [h1]
    (conv => whnf)
    refine And.intro (fun _ => ?_) (fun c => absurd (show _ from rfl) c)
    (conv => whnf)
    exact hK2 _ W α2 ν2 _ _ ⟨rfl, rfl, rfl, rfl, rfl, rfl, rfl, rfl, trivial⟩ (zIv_mono hv2 (by omega)) (by rw [zSu_cg g13 g5, zSu_cg h13 h5, hW]) (by omega) (by omega)
end ZLB
