/-! ===== THE LAW: its loop and its entry ===== -/
theorem zblk {Γ : zX} {T : zT} {own : String} (C : zOK Γ T own) {P : List zE} (hP : zPg Γ P) {q0 : zE} {P' : List zE} (e : P = q0 :: P') {cut : List (Nat × zK)} (hcut : ∀ q ∈ cut, ∀ L S w cu su, q.2 L S w cu su → zSm Γ q.1 L S w cu su) {fuel : Nat} {L : zL} {S : zS} {w : zW} {cu su : Nat} (h : zwp T Γ.nL P cut fuel P L S w cu su) : zSm Γ q0.1 L S w cu su :=
  zwp_sound C hP hcut fuel P (fun _ h => h) L S w cu su h q0 P' e
set_option maxHeartbeats 4000000 in
set_option maxRecDepth 20000 in
theorem w_1675 {L : Nat} {xs : Nat → Int32} {n : Nat} {w : zW} {cu su : Nat} {K : zK} (hK : ∀ Lc, zsub (zI5 (n + 1)) Lc → K Lc [] w cu su) : zwp (zLT L xs) 7 pg_L1675 [(23, K)] 20 pg_L1675 (zI5 n) [] w cu su := by
  (conv => whnf)
  refine hK _ ⟨rfl, rfl, rfl, rfl, ?_, trivial⟩
  exact congrArg (fun x => some (Value.int x)) ((nI_add (5 * n) 5).trans (by rw [show 5 * n + 5 = 5 * (n + 1) by omega]))
set_option maxHeartbeats 8000000 in
set_option maxRecDepth 40000 in
theorem w_23 {L : Nat} {xs : Nat → Int32} {n : Nat} {w : zW} {cu su : Nat} {K : Nat → zK} (hL : L ≤ 2560) (hn : 5 * n ≤ L) (hcu : cu ≤ 40 + 10 * n) (hsu : su ≤ 2000 + 60 * n) (hK : 5 * n + 5 ≤ L → ∀ p Lc, zsub (zI5 n) Lc → K p Lc [] w cu su) : zwp (zLT L xs) 7 pg_L23 [(164, K 164), (232, K 232), (312, K 312), (325, K 325), (381, K 381), (437, K 437), (493, K 493), (549, K 549), (617, K 617), (709, K 709), (801, K 801), (857, K 857), (913, K 913), (969, K 969), (1037, K 1037), (1105, K 1105), (1161, K 1161), (1217, K 1217), (1230, K 1230), (1286, K 1286), (1342, K 1342), (1355, K 1355), (1418, K 1418), (1481, K 1481), (1494, K 1494), (1550, K 1550), (1606, K 1606), (1662, K 1662), (1675, K 1675)] 100 pg_L23 (zI5 n) [] w cu su := by
  (conv => whnf)
  refine And.intro (fun c => ?_) (fun c => ?_)
  · (conv => whnf)
    exact ⟨rfl, by omega, by omega⟩
  · have hle : 5 * n + 5 ≤ L := by
      apply Classical.byContradiction
      intro h
      apply c
      show nI L - nI 5 < nI (5 * n)
      rw [Int32.lt_iff_toInt_lt, pk_sub_toInt (by omega) (by decide), nI_toInt (by omega)]
      omega
    have hk := hK hle
    (conv => whnf)
    refine ⟨vp_in_nI (show 5 * n < L by omega) (by omega), ?_⟩
    (conv => whnf)
    refine And.intro (fun _ => ?_) (fun _ => ?_)
    · (conv => whnf)
      exact hk 164 _ ⟨rfl, rfl, rfl, rfl, rfl, trivial⟩
    refine And.intro (fun _ => ?_) (fun _ => ?_)
    · (conv => whnf)
      exact hk 232 _ ⟨rfl, rfl, rfl, rfl, rfl, trivial⟩
    refine And.intro (fun _ => ?_) (fun _ => ?_)
    · (conv => whnf)
      exact hk 312 _ ⟨rfl, rfl, rfl, rfl, rfl, trivial⟩
    refine And.intro (fun _ => ?_) (fun _ => ?_)
    · (conv => whnf)
      exact hk 325 _ ⟨rfl, rfl, rfl, rfl, rfl, trivial⟩
    refine And.intro (fun _ => ?_) (fun _ => ?_)
    · (conv => whnf)
      exact hk 381 _ ⟨rfl, rfl, rfl, rfl, rfl, trivial⟩
    refine And.intro (fun _ => ?_) (fun _ => ?_)
    · (conv => whnf)
      exact hk 437 _ ⟨rfl, rfl, rfl, rfl, rfl, trivial⟩
    refine And.intro (fun _ => ?_) (fun _ => ?_)
    · (conv => whnf)
      exact hk 493 _ ⟨rfl, rfl, rfl, rfl, rfl, trivial⟩
    refine And.intro (fun _ => ?_) (fun _ => ?_)
    · (conv => whnf)
      exact hk 549 _ ⟨rfl, rfl, rfl, rfl, rfl, trivial⟩
    refine And.intro (fun _ => ?_) (fun _ => ?_)
    · (conv => whnf)
      exact hk 617 _ ⟨rfl, rfl, rfl, rfl, rfl, trivial⟩
    refine And.intro (fun _ => ?_) (fun _ => ?_)
    · (conv => whnf)
      exact hk 709 _ ⟨rfl, rfl, rfl, rfl, rfl, trivial⟩
    refine And.intro (fun _ => ?_) (fun _ => ?_)
    · (conv => whnf)
      exact hk 801 _ ⟨rfl, rfl, rfl, rfl, rfl, trivial⟩
    refine And.intro (fun _ => ?_) (fun _ => ?_)
    · (conv => whnf)
      exact hk 857 _ ⟨rfl, rfl, rfl, rfl, rfl, trivial⟩
    refine And.intro (fun _ => ?_) (fun _ => ?_)
    · (conv => whnf)
      exact hk 913 _ ⟨rfl, rfl, rfl, rfl, rfl, trivial⟩
    refine And.intro (fun _ => ?_) (fun _ => ?_)
    · (conv => whnf)
      exact hk 969 _ ⟨rfl, rfl, rfl, rfl, rfl, trivial⟩
    refine And.intro (fun _ => ?_) (fun _ => ?_)
    · (conv => whnf)
      exact hk 1037 _ ⟨rfl, rfl, rfl, rfl, rfl, trivial⟩
    refine And.intro (fun _ => ?_) (fun _ => ?_)
    · (conv => whnf)
      exact hk 1105 _ ⟨rfl, rfl, rfl, rfl, rfl, trivial⟩
    refine And.intro (fun _ => ?_) (fun _ => ?_)
    · (conv => whnf)
      exact hk 1161 _ ⟨rfl, rfl, rfl, rfl, rfl, trivial⟩
    refine And.intro (fun _ => ?_) (fun _ => ?_)
    · (conv => whnf)
      exact hk 1217 _ ⟨rfl, rfl, rfl, rfl, rfl, trivial⟩
    refine And.intro (fun _ => ?_) (fun _ => ?_)
    · (conv => whnf)
      exact hk 1230 _ ⟨rfl, rfl, rfl, rfl, rfl, trivial⟩
    refine And.intro (fun _ => ?_) (fun _ => ?_)
    · (conv => whnf)
      exact hk 1286 _ ⟨rfl, rfl, rfl, rfl, rfl, trivial⟩
    refine And.intro (fun _ => ?_) (fun _ => ?_)
    · (conv => whnf)
      exact hk 1342 _ ⟨rfl, rfl, rfl, rfl, rfl, trivial⟩
    refine And.intro (fun _ => ?_) (fun _ => ?_)
    · (conv => whnf)
      exact hk 1355 _ ⟨rfl, rfl, rfl, rfl, rfl, trivial⟩
    refine And.intro (fun _ => ?_) (fun _ => ?_)
    · (conv => whnf)
      exact hk 1418 _ ⟨rfl, rfl, rfl, rfl, rfl, trivial⟩
    refine And.intro (fun _ => ?_) (fun _ => ?_)
    · (conv => whnf)
      exact hk 1481 _ ⟨rfl, rfl, rfl, rfl, rfl, trivial⟩
    refine And.intro (fun _ => ?_) (fun _ => ?_)
    · (conv => whnf)
      exact hk 1494 _ ⟨rfl, rfl, rfl, rfl, rfl, trivial⟩
    refine And.intro (fun _ => ?_) (fun _ => ?_)
    · (conv => whnf)
      exact hk 1550 _ ⟨rfl, rfl, rfl, rfl, rfl, trivial⟩
    refine And.intro (fun _ => ?_) (fun _ => ?_)
    · (conv => whnf)
      exact hk 1606 _ ⟨rfl, rfl, rfl, rfl, rfl, trivial⟩
    refine And.intro (fun _ => ?_) (fun _ => ?_)
    · (conv => whnf)
      exact hk 1662 _ ⟨rfl, rfl, rfl, rfl, rfl, trivial⟩
    (conv => whnf)
    exact hk 1675 _ ⟨rfl, rfl, rfl, rfl, rfl, trivial⟩
set_option maxHeartbeats 8000000 in
set_option maxRecDepth 40000 in
theorem w_0 {L : Nat} {xs : Nat → Int32} {K : zK} (hK : ∀ Lc f a4, zLow (fun _ => 0) f → zsub (zI5 0) Lc → K Lc [] (zW3 zα0 zν0 (zβ0 f a4) zμ0 (fun _ => 0)) 37 1643) : zwp (zLT L xs) 7 pg_L0 [(23, K)] 60 pg_L0 [(0, .ref 1000)] [] [] 0 0 := by
  (conv => whnf)
  refine ⟨rfl, rfl, ?_⟩
  (conv => whnf)
  refine ⟨zα0, zν0, rfl, rfl, fun f a4 hf => ?_⟩
  (conv => whnf)
  refine ⟨1, rfl, by decide, Nat.le_of_ble_eq_true rfl, ?_⟩
  (conv => whnf)
  refine hK _ f a4 hf ?_
  exact ⟨rfl, rfl, rfl, rfl, rfl, trivial⟩
theorem zRel_0 {f a4 : Nat → Int32} (hf : zLow (fun _ => 0) f) : zRel 0 zα0 zν0 (zβ0 f a4) zμ0 := by
  refine ⟨⟨⟨rfl, rfl, rfl⟩, ⟨rfl, rfl⟩, ⟨rfl, rfl⟩, ⟨rfl, rfl, rfl⟩⟩, ⟨fun k hk => Or.inl ⟨rfl, if_pos hk⟩, hf⟩, ⟨0, by decide, rfl, fun c hc => ⟨0, rfl, by decide⟩⟩, ⟨0, by decide, rfl, rfl, fun c hc => ⟨0, by decide, rfl⟩⟩, fun c d hc hd e h => absurd h (i32_irrefl 0), ⟨0, by decide, rfl, rfl⟩, fun d hd => ⟨200, by decide, if_pos hd⟩, fun d hd => ⟨0, by decide, rfl⟩, ⟨0, by decide, rfl, rfl, fun j hj => absurd hj (Nat.not_lt_zero j)⟩, ⟨0, by decide, rfl, rfl⟩, rfl, 0, by decide, rfl⟩
section ZLOOP
variable {Γ : zX} {L : Nat} {xs : Nat → Int32} {own : String}
/-- the law's loop, from any call on -/
theorem w_loop (C : zOK Γ (zLT L xs) own) (hcc : Γ.cc = code) (hnL : Γ.nL = 7) (hL : L ≤ 2560) : ∀ (k n : Nat), n + k = 513 → 5 * n ≤ L → ∀ (Lc : zL) (S : zS) (w : zW) (cu su : Nat), zSt n n Lc S w cu su → zSm Γ 23 Lc S w cu su := by
  intro k
  induction k with
  | zero => intro n h1 h2; omega
  | succ k ih =>
    rintro n h1 h2 Lc S w cu su ⟨hs, rfl, ⟨α, ν, β, μ, f, rfl, hr⟩, hcu, hsu⟩
    have hpg : ∀ {P : List zE}, (∀ q ∈ P, decode code q.1 = .ok (q.2.1, q.2.2.1) ∧ ztg q.2.1 q.1 q.2.2.1 q.2.2.2 = true) → zPg Γ P := fun h => by unfold zPg; rw [hcc]; exact h
    refine zSm_sub hs ?_
    have h1675 : 5 * n + 5 ≤ L → ∀ Lc w cu su, zSt (n + 1) n Lc [] w cu su → zSm Γ 1675 Lc [] w cu su := by
      rintro h5 Lc w cu su ⟨hs, -, hw, hcu, hsu⟩
      refine zSm_sub hs ?_
      refine zblk C (hpg hp_L1675) rfl (cut := [(23, fun Lc S w cu su => zSt (n + 1) (n + 1) Lc S w cu su)]) (fun q hq => ?_) (fuel := 20) (by rw [hnL]; exact w_1675 (fun Lc hs => ⟨hs, rfl, hw, hcu, hsu⟩))
      rw [List.mem_singleton.mp hq]
      exact fun Lc S w cu su h => ih (n + 1) (by omega) (by omega) Lc S w cu su h
    have hcase : ∀ (p : Nat), 5 * n + 5 ≤ L → p ∈ [164, 232, 312, 325, 381, 437, 493, 549, 617, 709, 801, 857, 913, 969, 1037, 1105, 1161, 1217, 1230, 1286, 1342, 1355, 1418, 1481, 1494, 1550, 1606, 1662, 1675] → ∀ Lc, zsub (zI5 n) Lc → zSm Γ p Lc [] (zW3 α ν β μ f) cu su := by
      intro p h5 hp Lc hs
      refine zSm_sub hs ?_
      have hk : ∀ q ∈ [(1675, (fun Lc S w cu su => S = [] ∧ zSt (n + 1) n Lc [] w cu su : zK))], ∀ L S w cu su, q.2 L S w cu su → zSm Γ q.1 L S w cu su := fun q hq => by
        rw [List.mem_singleton.mp hq]
        rintro Lc S w cu su ⟨rfl, h⟩
        exact h1675 h5 Lc w cu su h
      rcases List.mem_cons.mp hp with rfl | hp
      · exact zblk C (hpg hp_LC0) rfl hk (fuel := 100) (by rw [hnL]; exact wc_0 h5 hL hr hcu hsu (fun Lc w cu su h => ⟨rfl, h⟩))
      rcases List.mem_cons.mp hp with rfl | hp
      · exact zblk C (hpg hp_LC1) rfl hk (fuel := 100) (by rw [hnL]; exact wc_1 h5 hL hr hcu hsu (fun Lc w cu su h => ⟨rfl, h⟩))
      rcases List.mem_cons.mp hp with rfl | hp
      · exact zblk C (hpg hp_LC2) rfl hk (fuel := 100) (by rw [hnL]; exact wc_2 h5 hL hr hcu hsu (fun Lc w cu su h => ⟨rfl, h⟩))
      rcases List.mem_cons.mp hp with rfl | hp
      · exact zblk C (hpg hp_LC3) rfl hk (fuel := 100) (by rw [hnL]; exact wc_3 h5 hL hr hcu hsu (fun Lc w cu su h => ⟨rfl, h⟩))
      rcases List.mem_cons.mp hp with rfl | hp
      · exact zblk C (hpg hp_LC4) rfl hk (fuel := 100) (by rw [hnL]; exact wc_4 h5 hL hr hcu hsu (fun Lc w cu su h => ⟨rfl, h⟩))
      rcases List.mem_cons.mp hp with rfl | hp
      · exact zblk C (hpg hp_LC5) rfl hk (fuel := 100) (by rw [hnL]; exact wc_5 h5 hL hr hcu hsu (fun Lc w cu su h => ⟨rfl, h⟩))
      rcases List.mem_cons.mp hp with rfl | hp
      · exact zblk C (hpg hp_LC6) rfl hk (fuel := 100) (by rw [hnL]; exact wc_6 h5 hL hr hcu hsu (fun Lc w cu su h => ⟨rfl, h⟩))
      rcases List.mem_cons.mp hp with rfl | hp
      · exact zblk C (hpg hp_LC7) rfl hk (fuel := 100) (by rw [hnL]; exact wc_7 h5 hL hr hcu hsu (fun Lc w cu su h => ⟨rfl, h⟩))
      rcases List.mem_cons.mp hp with rfl | hp
      · exact zblk C (hpg hp_LC8) rfl hk (fuel := 100) (by rw [hnL]; exact wc_8 h5 hL hr hcu hsu (fun Lc w cu su h => ⟨rfl, h⟩))
      rcases List.mem_cons.mp hp with rfl | hp
      · exact zblk C (hpg hp_LC9) rfl hk (fuel := 100) (by rw [hnL]; exact wc_9 h5 hL hr hcu hsu (fun Lc w cu su h => ⟨rfl, h⟩))
      rcases List.mem_cons.mp hp with rfl | hp
      · exact zblk C (hpg hp_LC10) rfl hk (fuel := 100) (by rw [hnL]; exact wc_10 h5 hL hr hcu hsu (fun Lc w cu su h => ⟨rfl, h⟩))
      rcases List.mem_cons.mp hp with rfl | hp
      · exact zblk C (hpg hp_LC11) rfl hk (fuel := 100) (by rw [hnL]; exact wc_11 h5 hL hr hcu hsu (fun Lc w cu su h => ⟨rfl, h⟩))
      rcases List.mem_cons.mp hp with rfl | hp
      · exact zblk C (hpg hp_LC12) rfl hk (fuel := 100) (by rw [hnL]; exact wc_12 h5 hL hr hcu hsu (fun Lc w cu su h => ⟨rfl, h⟩))
      rcases List.mem_cons.mp hp with rfl | hp
      · exact zblk C (hpg hp_LC13) rfl hk (fuel := 100) (by rw [hnL]; exact wc_13 h5 hL hr hcu hsu (fun Lc w cu su h => ⟨rfl, h⟩))
      rcases List.mem_cons.mp hp with rfl | hp
      · exact zblk C (hpg hp_LC14) rfl hk (fuel := 100) (by rw [hnL]; exact wc_14 h5 hL hr hcu hsu (fun Lc w cu su h => ⟨rfl, h⟩))
      rcases List.mem_cons.mp hp with rfl | hp
      · exact zblk C (hpg hp_LC15) rfl hk (fuel := 100) (by rw [hnL]; exact wc_15 h5 hL hr hcu hsu (fun Lc w cu su h => ⟨rfl, h⟩))
      rcases List.mem_cons.mp hp with rfl | hp
      · exact zblk C (hpg hp_LC16) rfl hk (fuel := 100) (by rw [hnL]; exact wc_16 h5 hL hr hcu hsu (fun Lc w cu su h => ⟨rfl, h⟩))
      rcases List.mem_cons.mp hp with rfl | hp
      · exact zblk C (hpg hp_LC17) rfl hk (fuel := 100) (by rw [hnL]; exact wc_17 h5 hL hr hcu hsu (fun Lc w cu su h => ⟨rfl, h⟩))
      rcases List.mem_cons.mp hp with rfl | hp
      · exact zblk C (hpg hp_LC18) rfl hk (fuel := 100) (by rw [hnL]; exact wc_18 h5 hL hr hcu hsu (fun Lc w cu su h => ⟨rfl, h⟩))
      rcases List.mem_cons.mp hp with rfl | hp
      · exact zblk C (hpg hp_LC19) rfl hk (fuel := 100) (by rw [hnL]; exact wc_19 h5 hL hr hcu hsu (fun Lc w cu su h => ⟨rfl, h⟩))
      rcases List.mem_cons.mp hp with rfl | hp
      · exact zblk C (hpg hp_LC20) rfl hk (fuel := 100) (by rw [hnL]; exact wc_20 h5 hL hr hcu hsu (fun Lc w cu su h => ⟨rfl, h⟩))
      rcases List.mem_cons.mp hp with rfl | hp
      · exact zblk C (hpg hp_LC21) rfl hk (fuel := 100) (by rw [hnL]; exact wc_21 h5 hL hr hcu hsu (fun Lc w cu su h => ⟨rfl, h⟩))
      rcases List.mem_cons.mp hp with rfl | hp
      · exact zblk C (hpg hp_LC22) rfl hk (fuel := 100) (by rw [hnL]; exact wc_22 h5 hL hr hcu hsu (fun Lc w cu su h => ⟨rfl, h⟩))
      rcases List.mem_cons.mp hp with rfl | hp
      · exact zblk C (hpg hp_LC23) rfl hk (fuel := 100) (by rw [hnL]; exact wc_23 h5 hL hr hcu hsu (fun Lc w cu su h => ⟨rfl, h⟩))
      rcases List.mem_cons.mp hp with rfl | hp
      · exact zblk C (hpg hp_LC24) rfl hk (fuel := 100) (by rw [hnL]; exact wc_24 h5 hL hr hcu hsu (fun Lc w cu su h => ⟨rfl, h⟩))
      rcases List.mem_cons.mp hp with rfl | hp
      · exact zblk C (hpg hp_LC25) rfl hk (fuel := 100) (by rw [hnL]; exact wc_25 h5 hL hr hcu hsu (fun Lc w cu su h => ⟨rfl, h⟩))
      rcases List.mem_cons.mp hp with rfl | hp
      · exact zblk C (hpg hp_LC26) rfl hk (fuel := 100) (by rw [hnL]; exact wc_26 h5 hL hr hcu hsu (fun Lc w cu su h => ⟨rfl, h⟩))
      rcases List.mem_cons.mp hp with rfl | hp
      · exact zblk C (hpg hp_LC27) rfl hk (fuel := 100) (by rw [hnL]; exact wc_27 h5 hL hr hcu hsu (fun Lc w cu su h => ⟨rfl, h⟩))
      rw [List.mem_singleton.mp hp]
      exact h1675 h5 _ _ _ _ ⟨⟨rfl, rfl, rfl, rfl, rfl, trivial⟩, rfl, ⟨α, ν, β, μ, f, rfl, zRel_up hr⟩, by omega, by omega⟩
    refine zblk C (hpg hp_L23) rfl (cut := [(164, fun Lc S w cu2 su2 => 5 * n + 5 ≤ L ∧ zsub (zI5 n) Lc ∧ S = [] ∧ w = zW3 α ν β μ f ∧ cu2 = cu ∧ su2 = su), (232, fun Lc S w cu2 su2 => 5 * n + 5 ≤ L ∧ zsub (zI5 n) Lc ∧ S = [] ∧ w = zW3 α ν β μ f ∧ cu2 = cu ∧ su2 = su), (312, fun Lc S w cu2 su2 => 5 * n + 5 ≤ L ∧ zsub (zI5 n) Lc ∧ S = [] ∧ w = zW3 α ν β μ f ∧ cu2 = cu ∧ su2 = su), (325, fun Lc S w cu2 su2 => 5 * n + 5 ≤ L ∧ zsub (zI5 n) Lc ∧ S = [] ∧ w = zW3 α ν β μ f ∧ cu2 = cu ∧ su2 = su), (381, fun Lc S w cu2 su2 => 5 * n + 5 ≤ L ∧ zsub (zI5 n) Lc ∧ S = [] ∧ w = zW3 α ν β μ f ∧ cu2 = cu ∧ su2 = su), (437, fun Lc S w cu2 su2 => 5 * n + 5 ≤ L ∧ zsub (zI5 n) Lc ∧ S = [] ∧ w = zW3 α ν β μ f ∧ cu2 = cu ∧ su2 = su), (493, fun Lc S w cu2 su2 => 5 * n + 5 ≤ L ∧ zsub (zI5 n) Lc ∧ S = [] ∧ w = zW3 α ν β μ f ∧ cu2 = cu ∧ su2 = su), (549, fun Lc S w cu2 su2 => 5 * n + 5 ≤ L ∧ zsub (zI5 n) Lc ∧ S = [] ∧ w = zW3 α ν β μ f ∧ cu2 = cu ∧ su2 = su), (617, fun Lc S w cu2 su2 => 5 * n + 5 ≤ L ∧ zsub (zI5 n) Lc ∧ S = [] ∧ w = zW3 α ν β μ f ∧ cu2 = cu ∧ su2 = su), (709, fun Lc S w cu2 su2 => 5 * n + 5 ≤ L ∧ zsub (zI5 n) Lc ∧ S = [] ∧ w = zW3 α ν β μ f ∧ cu2 = cu ∧ su2 = su), (801, fun Lc S w cu2 su2 => 5 * n + 5 ≤ L ∧ zsub (zI5 n) Lc ∧ S = [] ∧ w = zW3 α ν β μ f ∧ cu2 = cu ∧ su2 = su), (857, fun Lc S w cu2 su2 => 5 * n + 5 ≤ L ∧ zsub (zI5 n) Lc ∧ S = [] ∧ w = zW3 α ν β μ f ∧ cu2 = cu ∧ su2 = su), (913, fun Lc S w cu2 su2 => 5 * n + 5 ≤ L ∧ zsub (zI5 n) Lc ∧ S = [] ∧ w = zW3 α ν β μ f ∧ cu2 = cu ∧ su2 = su), (969, fun Lc S w cu2 su2 => 5 * n + 5 ≤ L ∧ zsub (zI5 n) Lc ∧ S = [] ∧ w = zW3 α ν β μ f ∧ cu2 = cu ∧ su2 = su), (1037, fun Lc S w cu2 su2 => 5 * n + 5 ≤ L ∧ zsub (zI5 n) Lc ∧ S = [] ∧ w = zW3 α ν β μ f ∧ cu2 = cu ∧ su2 = su), (1105, fun Lc S w cu2 su2 => 5 * n + 5 ≤ L ∧ zsub (zI5 n) Lc ∧ S = [] ∧ w = zW3 α ν β μ f ∧ cu2 = cu ∧ su2 = su), (1161, fun Lc S w cu2 su2 => 5 * n + 5 ≤ L ∧ zsub (zI5 n) Lc ∧ S = [] ∧ w = zW3 α ν β μ f ∧ cu2 = cu ∧ su2 = su), (1217, fun Lc S w cu2 su2 => 5 * n + 5 ≤ L ∧ zsub (zI5 n) Lc ∧ S = [] ∧ w = zW3 α ν β μ f ∧ cu2 = cu ∧ su2 = su), (1230, fun Lc S w cu2 su2 => 5 * n + 5 ≤ L ∧ zsub (zI5 n) Lc ∧ S = [] ∧ w = zW3 α ν β μ f ∧ cu2 = cu ∧ su2 = su), (1286, fun Lc S w cu2 su2 => 5 * n + 5 ≤ L ∧ zsub (zI5 n) Lc ∧ S = [] ∧ w = zW3 α ν β μ f ∧ cu2 = cu ∧ su2 = su), (1342, fun Lc S w cu2 su2 => 5 * n + 5 ≤ L ∧ zsub (zI5 n) Lc ∧ S = [] ∧ w = zW3 α ν β μ f ∧ cu2 = cu ∧ su2 = su), (1355, fun Lc S w cu2 su2 => 5 * n + 5 ≤ L ∧ zsub (zI5 n) Lc ∧ S = [] ∧ w = zW3 α ν β μ f ∧ cu2 = cu ∧ su2 = su), (1418, fun Lc S w cu2 su2 => 5 * n + 5 ≤ L ∧ zsub (zI5 n) Lc ∧ S = [] ∧ w = zW3 α ν β μ f ∧ cu2 = cu ∧ su2 = su), (1481, fun Lc S w cu2 su2 => 5 * n + 5 ≤ L ∧ zsub (zI5 n) Lc ∧ S = [] ∧ w = zW3 α ν β μ f ∧ cu2 = cu ∧ su2 = su), (1494, fun Lc S w cu2 su2 => 5 * n + 5 ≤ L ∧ zsub (zI5 n) Lc ∧ S = [] ∧ w = zW3 α ν β μ f ∧ cu2 = cu ∧ su2 = su), (1550, fun Lc S w cu2 su2 => 5 * n + 5 ≤ L ∧ zsub (zI5 n) Lc ∧ S = [] ∧ w = zW3 α ν β μ f ∧ cu2 = cu ∧ su2 = su), (1606, fun Lc S w cu2 su2 => 5 * n + 5 ≤ L ∧ zsub (zI5 n) Lc ∧ S = [] ∧ w = zW3 α ν β μ f ∧ cu2 = cu ∧ su2 = su), (1662, fun Lc S w cu2 su2 => 5 * n + 5 ≤ L ∧ zsub (zI5 n) Lc ∧ S = [] ∧ w = zW3 α ν β μ f ∧ cu2 = cu ∧ su2 = su), (1675, fun Lc S w cu2 su2 => 5 * n + 5 ≤ L ∧ zsub (zI5 n) Lc ∧ S = [] ∧ w = zW3 α ν β μ f ∧ cu2 = cu ∧ su2 = su)]) (fun q hq => ?_) (fuel := 100) (by rw [hnL]; exact w_23 (K := fun _ Lc S w cu2 su2 => 5 * n + 5 ≤ L ∧ zsub (zI5 n) Lc ∧ S = [] ∧ w = zW3 α ν β μ f ∧ cu2 = cu ∧ su2 = su) hL h2 hcu hsu (fun h5 p Lc hs => ⟨h5, hs, rfl, rfl, rfl, rfl⟩))
    have hq2 : q.1 ∈ [164, 232, 312, 325, 381, 437, 493, 549, 617, 709, 801, 857, 913, 969, 1037, 1105, 1161, 1217, 1230, 1286, 1342, 1355, 1418, 1481, 1494, 1550, 1606, 1662, 1675] ∧ q.2 = fun Lc S w cu2 su2 => 5 * n + 5 ≤ L ∧ zsub (zI5 n) Lc ∧ S = [] ∧ w = zW3 α ν β μ f ∧ cu2 = cu ∧ su2 = su := by
      simp only [List.mem_cons, List.not_mem_nil, or_false] at hq
      rcases hq with rfl | rfl | rfl | rfl | rfl | rfl | rfl | rfl | rfl | rfl | rfl | rfl | rfl | rfl | rfl | rfl | rfl | rfl | rfl | rfl | rfl | rfl | rfl | rfl | rfl | rfl | rfl | rfl | rfl <;> exact ⟨by dsimp only; decide, rfl⟩
    rw [hq2.2]
    rintro Lc S w cu2 su2 ⟨h5, hs, rfl, rfl, rfl, rfl⟩
    exact hcase q.1 h5 hq2.1 Lc hs
/-- the law, from its entry -/
theorem w_all (C : zOK Γ (zLT L xs) own) (hcc : Γ.cc = code) (hnL : Γ.nL = 7) (hL : L ≤ 2560) : zSm Γ 0 [(0, .ref 1000)] [] [] 0 0 := by
  have hpg : ∀ {P : List zE}, (∀ q ∈ P, decode code q.1 = .ok (q.2.1, q.2.2.1) ∧ ztg q.2.1 q.1 q.2.2.1 q.2.2.2 = true) → zPg Γ P := fun h => by unfold zPg; rw [hcc]; exact h
  refine zblk C (hpg hp_L0) rfl (cut := [(23, fun Lc S w cu su => zSt 0 0 Lc S w cu su)]) (fun q hq => ?_) (fuel := 60) (by rw [hnL]; exact w_0 (fun Lc f a4 hf hs => ⟨hs, rfl, ⟨_, _, _, _, _, rfl, zRel_0 hf⟩, by decide, by decide⟩))
  rw [List.mem_singleton.mp hq]
  exact fun Lc S w cu su h => w_loop C hcc hnL hL 513 0 rfl (Nat.zero_le _) Lc S w cu su h
end ZLOOP
