/-! ===== THE LAW: sweeps, names, things, bottles ===== -/
section ZLB
variable {T n k d s B cu su : Nat} {W v : Int32} {α : Nat → Nat → Int32} {ν : Nat → Int32} {K K1 K2 : zK}
set_option maxHeartbeats 8000000 in
set_option maxRecDepth 40000 in
theorem wp_C1 (hv : zIv B α ν) (hB : B ≤ 800000) (hW : zSu α ν 6 = W) (hk : k < 96) (hcu : cu ≤ 100000) (hsu : su ≤ 1000000)
    (hK1 : ∀ Lc cu' su', zsub (zI2 T n W v k d s) Lc → cu' ≤ cu + 2 → su' ≤ su + 12 → K1 Lc [] (WX α ν []) cu' su')
    (hK2 : ∀ Lc W' α' ν' cu' su', zsub (zI1 T n W' v k) Lc → zIv (B + 200) α' ν' → zSu α' ν' 6 = W' → cu' ≤ cu + 20 → su' ≤ su + 120 → K2 Lc [] (WX α' ν' []) cu' su') : zwp zLT 14 pg_PC1 [(287, K1), (873, K2)] 150 pg_PC1 (zI2 T n W v k d s) [] (WX α ν []) cu su := by
-- .
  (conv => whnf)
  refine And.intro (fun c => ?_) (fun c => ?_)
  · (conv => whnf)
    refine ⟨by decide, ?_⟩
    (conv => whnf)
    rw [zbl (show cu + 0 ≤ 600104 by omega)]
    (conv => whnf)
    rw [zbl (show su + 0 ≤ 7301313 by omega)]
    (conv => whnf)
    refine zmcI (k_lowE (n := 12 - k % 12) (show nI 12 - (nI k - nI k / nI 12 * nI 12) = nI (12 - k % 12) by rw [pk_rem (by omega) (by decide) (by decide), pk_sub (by omega)]) (by omega) (by omega) (fun m hm => ?_))
    (conv => whnf)
    rw [zbl (show cu + 0 + 0 ≤ 600104 by omega)]
    (conv => whnf)
    rw [zbl (show su + 0 + 0 ≤ 7301313 by omega)]
    (conv => whnf)
    refine zmcI (k_lowA (n := 4) (by decide) (by decide) (fun h hh => ?_))
    (conv => whnf)
    rw [zbl (show cu + 0 + 0 + 3 ≤ 600104 by omega)]
    (conv => whnf)
    rw [zbl (show su + 0 + 0 + 18 ≤ 7301313 by omega)]
    (conv => whnf)
    refine zmcI (k_sweepE (n := 1 + m) (nI_add 1 m) hv (by omega) hk (by omega) (by omega) (by omega) (fun α1 ν1 hv1 h13 h5 => ?_))
    (conv => whnf)
    rw [zbl (show cu + 0 + 0 + 3 + 0 ≤ 600104 by omega)]
    (conv => whnf)
    rw [zbl (show su + 0 + 0 + 18 + 0 ≤ 7301313 by omega)]
    (conv => whnf)
    refine zmcI (k_shapes ?_)
    (conv => whnf)
    refine And.intro (fun _ => ?_) (fun c => absurd (show _ from rfl) c)
    (conv => whnf)
    exact hK2 _ W α1 ν1 _ _ ⟨rfl, rfl, rfl, rfl, rfl, rfl, rfl, rfl, trivial⟩ (zIv_mono hv1 (by omega)) (by rw [zSu_cg h13 h5, hW]) (by omega) (by omega)
  · (conv => whnf)
    exact hK1 _ _ _ ⟨rfl, rfl, rfl, rfl, rfl, rfl, rfl, rfl, rfl, rfl, trivial⟩ (by omega) (by omega)
set_option maxHeartbeats 8000000 in
set_option maxRecDepth 40000 in
theorem wp_C2 (hv : zIv B α ν) (hB : B ≤ 800000) (hW : zSu α ν 6 = W) (hk : k < 96) (hd : d < 4) (hcu : cu ≤ 100000) (hsu : su ≤ 1000000)
    (hK1 : ∀ Lc cu' su', zsub (zI2 T n W v k d s) Lc → cu' ≤ cu + 2 → su' ≤ su + 12 → K1 Lc [] (WX α ν []) cu' su')
    (hK2 : ∀ Lc W' α' ν' cu' su', zsub (zI1 T n W' v k) Lc → zIv (B + 200) α' ν' → zSu α' ν' 6 = W' → cu' ≤ cu + 20 → su' ≤ su + 120 → K2 Lc [] (WX α' ν' []) cu' su') : zwp zLT 14 pg_PC2 [(420, K1), (873, K2)] 150 pg_PC2 (zI2 T n W v k d s) [] (WX α ν []) cu su := by
-- .
  (conv => whnf)
  refine And.intro (fun c => ?_) (fun c => ?_)
  · (conv => whnf)
    rw [zbl (show cu + 0 ≤ 600104 by omega)]
    (conv => whnf)
    rw [zbl (show su + 0 ≤ 7301313 by omega)]
    (conv => whnf)
    refine zmcI (k_lowA (n := 3) (by decide) (by decide) (fun m hm => ?_))
    (conv => whnf)
    rw [zbl (show cu + 0 + 0 ≤ 600104 by omega)]
    (conv => whnf)
    rw [zbl (show su + 0 + 0 ≤ 7301313 by omega)]
    (conv => whnf)
    refine zmcI (k_lowA (n := 10) (by decide) (by decide) (fun j hj => ?_))
    (conv => whnf)
    rw [zbl (show cu + 0 + 0 + 1 ≤ 600104 by omega)]
    (conv => whnf)
    rw [zbl (show su + 0 + 0 + 6 ≤ 7301313 by omega)]
    (conv => whnf)
    refine zmcI (k_air hd ?_)
    (conv => whnf)
    rw [zbl (show cu + 0 + 0 + 1 + 6 ≤ 600104 by omega)]
    (conv => whnf)
    rw [zbl (show su + 0 + 0 + 6 + 36 ≤ 7301313 by omega)]
    (conv => whnf)
    refine zmcI (k_nameE (j := 5 + j) (m := 1 + m) (nI_add 5 j) (nI_add 1 m) hv (by omega) hd hk (by omega) (by omega) (by omega) (by omega) ?_ (fun α1 ν1 x hv1 ha hr ex hx h13 h5 => ?_))
    · -- refused
-- .
      (conv => whnf)
      refine And.intro (fun _ => ?_) (fun c => absurd (show _ from rfl) c)
      (conv => whnf)
      rw [zbl (show cu + 0 + 0 + 1 + 6 + 1 ≤ 600104 by omega)]
      (conv => whnf)
      rw [zbl (show su + 0 + 0 + 6 + 36 + 6 ≤ 7301313 by omega)]
      (conv => whnf)
      refine zmcI (k_air hd ?_)
      (conv => whnf)
      refine And.intro (fun _ => ?_) (fun c => absurd (show _ from rfl) c)
      (conv => whnf)
      exact hK2 _ W α ν _ _ ⟨rfl, rfl, rfl, rfl, rfl, rfl, rfl, rfl, trivial⟩ (zIv_mono hv (by omega)) hW (by omega) (by omega)
    · obtain ⟨a, a', a1, a2, a3, a4⟩ := ha
      obtain ⟨r, r1, r2, r3⟩ := hr
      have hx3 : ¬ x = -nI 3 := by
        rcases hx with e | e
        · rw [e]
          decide
        · rw [e]
          exact nI_ne_m3 (by omega)
      have hr5 : ¬ nI r < nI 5 + nI j := by
        rw [nI_add]
        exact nI_nlt r2 (by omega)
      rw [a1]
-- .
      (conv => whnf)
      refine And.intro (fun c => absurd c (show ¬ _ from hx3)) (fun _ => ?_)
      (conv => whnf)
      rw [zbl (show cu + 0 + 0 + 1 + 6 + 1 ≤ 600104 by omega)]
      (conv => whnf)
      rw [zbl (show su + 0 + 0 + 6 + 36 + 6 ≤ 7301313 by omega)]
      (conv => whnf)
      refine zmcI (k_air hd ?_)
      rw [a2]
      (conv => whnf)
      refine And.intro (fun _ => ?_) (fun c => absurd (show _ from (nI_lt a3 (by omega))) c)
      (conv => whnf)
      rw [zbl (show cu + 0 + 0 + 1 + 6 + 1 + 1 ≤ 600104 by omega)]
      (conv => whnf)
      rw [zbl (show su + 0 + 0 + 6 + 36 + 6 + 6 ≤ 7301313 by omega)]
      (conv => whnf)
      refine zmcI (k_rest hd ?_)
      rw [r1]
      (conv => whnf)
      refine And.intro (fun c => absurd c (show ¬ _ from hr5)) (fun _ => ?_)
      (conv => whnf)
      rw [zbl (show cu + 0 + 0 + 1 + 6 + 1 + 1 + 1 ≤ 600104 by omega)]
      (conv => whnf)
      rw [zbl (show su + 0 + 0 + 6 + 36 + 6 + 6 + 6 ≤ 7301313 by omega)]
      (conv => whnf)
      refine zmcI (k_nameOf hk ?_)
      rw [← ex]
      (conv => whnf)
      refine And.intro (fun _ => ?_) (fun c => absurd (show _ from rfl) c)
      (conv => whnf)
      refine And.intro (fun c3 => ?_) (fun c3 => ?_)
      · (conv => whnf)
        exact hK2 _ W α1 ν1 _ _ ⟨rfl, rfl, rfl, rfl, rfl, rfl, rfl, rfl, trivial⟩ (zIv_mono hv1 (by omega)) (by rw [zSu_cg h13 h5, hW]) (by omega) (by omega)
      · have hxm : x = nI 1 + nI m := by
          rcases hx with e | e
          · exact absurd e c3
          · rw [e, nI_add]
        (conv => whnf)
        refine And.intro (fun _ => ?_) (fun c => absurd (show _ from hxm) c)
        (conv => whnf)
        exact hK2 _ W α1 ν1 _ _ ⟨rfl, rfl, rfl, rfl, rfl, rfl, rfl, rfl, trivial⟩ (zIv_mono hv1 (by omega)) (by rw [zSu_cg h13 h5, hW]) (by omega) (by omega)
  · (conv => whnf)
    exact hK1 _ _ _ ⟨rfl, rfl, rfl, rfl, rfl, rfl, rfl, rfl, rfl, rfl, trivial⟩ (by omega) (by omega)
set_option maxHeartbeats 8000000 in
set_option maxRecDepth 40000 in
theorem wp_C3 (hv : zIv B α ν) (hB : B ≤ 800000) (hW : zSu α ν 6 = W) (hk : k < 96) (hd : d < 4) (hcu : cu ≤ 100000) (hsu : su ≤ 1000000)
    (hK1 : ∀ Lc cu' su', zsub (zI2 T n W v k d s) Lc → cu' ≤ cu + 2 → su' ≤ su + 12 → K1 Lc [] (WX α ν []) cu' su')
    (hK2 : ∀ Lc W' α' ν' cu' su', zsub (zI1 T n W' v k) Lc → zIv (B + 200) α' ν' → zSu α' ν' 6 = W' → cu' ≤ cu + 20 → su' ≤ su + 120 → K2 Lc [] (WX α' ν' []) cu' su') : zwp zLT 14 pg_PC3 [(555, K1), (873, K2)] 150 pg_PC3 (zI2 T n W v k d s) [] (WX α ν []) cu su := by
-- .
  (conv => whnf)
  refine And.intro (fun c => ?_) (fun c => ?_)
  · (conv => whnf)
    rw [zbl (show cu + 0 ≤ 600104 by omega)]
    (conv => whnf)
    rw [zbl (show su + 0 ≤ 7301313 by omega)]
    (conv => whnf)
    refine zmcI (k_lowE (n := 100000) (by decide) (by decide) (by decide) (fun u hu => ?_))
    (conv => whnf)
    rw [zbl (show cu + 0 + 0 ≤ 600104 by omega)]
    (conv => whnf)
    rw [zbl (show su + 0 + 0 ≤ 7301313 by omega)]
    (conv => whnf)
    refine zmcI (k_things ?_)
    (conv => whnf)
    rw [zbl (show cu + 0 + 0 + 0 ≤ 600104 by omega)]
    (conv => whnf)
    rw [zbl (show su + 0 + 0 + 0 ≤ 7301313 by omega)]
    (conv => whnf)
    refine zmcI (k_lowA (n := 10) (by decide) (by decide) (fun j hj => ?_))
    (conv => whnf)
    rw [zbl (show cu + 0 + 0 + 0 + 9 ≤ 600104 by omega)]
    (conv => whnf)
    rw [zbl (show su + 0 + 0 + 0 + 54 ≤ 7301313 by omega)]
    (conv => whnf)
    refine zmcI (k_raiseE (j := 10 + j) (u := 1 + u) (nI_add 10 j) (nI_add 1 u) hv hd hk (by omega) (by omega) (by omega) (by omega) ?_ (fun α1 ν1 h h60 e4 hv1 e4' e11 e12 eS => ?_))
    · -- refused
-- .
      (conv => whnf)
      refine And.intro (fun _ => ?_) (fun c => absurd (show _ from rfl) c)
      (conv => whnf)
      refine And.intro (fun _ => ?_) (fun c => absurd (show _ from rfl) c)
      (conv => whnf)
      rw [zbl (show cu + 0 + 0 + 0 + 9 + 0 ≤ 600104 by omega)]
      (conv => whnf)
      rw [zbl (show su + 0 + 0 + 0 + 54 + 0 ≤ 7301313 by omega)]
      (conv => whnf)
      refine zmcI (k_things ?_)
      (conv => whnf)
      refine And.intro (fun _ => ?_) (fun c => absurd (show _ from rfl) c)
      (conv => whnf)
      exact hK2 _ (W + nI 0) α ν _ _ ⟨rfl, rfl, rfl, rfl, rfl, rfl, rfl, rfl, trivial⟩ (zIv_mono hv (by omega)) (hW.trans (Int32.add_zero W).symm) (by omega) (by omega)
    · have h3 : ¬ nI h = -nI 3 := nI_ne_m3 (by omega)
      rw [e4]
-- .
      (conv => whnf)
      refine And.intro (fun c => absurd c (show ¬ _ from h3)) (fun _ => ?_)
      (conv => whnf)
      refine And.intro (fun c => absurd c (show ¬ _ from h3)) (fun _ => ?_)
      (conv => whnf)
      refine And.intro (fun _ => ?_) (fun c => absurd (show _ from rfl) c)
      (conv => whnf)
      rw [zbl (show cu + 0 + 0 + 0 + 9 + 1 ≤ 600104 by omega)]
      (conv => whnf)
      rw [zbl (show su + 0 + 0 + 0 + 54 + 6 ≤ 7301313 by omega)]
      (conv => whnf)
      refine zmcI (k_thing (i := 11) hv1 e4' (by omega) (Nat.lt_succ_self h) ?_)
      rw [e11]
      (conv => whnf)
      rw [zbl (show cu + 0 + 0 + 0 + 9 + 1 + 1 ≤ 600104 by omega)]
      (conv => whnf)
      rw [zbl (show su + 0 + 0 + 0 + 54 + 6 + 6 ≤ 7301313 by omega)]
      (conv => whnf)
      refine zmcI (k_shapeOf hk ?_)
      (conv => whnf)
      refine And.intro (fun _ => ?_) (fun c => absurd (show _ from rfl) c)
      (conv => whnf)
      rw [zbl (show cu + 0 + 0 + 0 + 9 + 1 + 1 + 1 ≤ 600104 by omega)]
      (conv => whnf)
      rw [zbl (show su + 0 + 0 + 0 + 54 + 6 + 6 + 6 ≤ 7301313 by omega)]
      (conv => whnf)
      refine zmcI (k_thing (i := 12) hv1 e4' (by omega) (Nat.lt_succ_self h) ?_)
      rw [e12]
      (conv => whnf)
      rw [zbl (show cu + 0 + 0 + 0 + 9 + 1 + 1 + 1 + 1 ≤ 600104 by omega)]
      (conv => whnf)
      rw [zbl (show su + 0 + 0 + 0 + 54 + 6 + 6 + 6 + 6 ≤ 7301313 by omega)]
      (conv => whnf)
      refine zmcI (k_finder hv1 hk ?_)
      (conv => whnf)
      refine And.intro (fun _ => ?_) (fun c => absurd (show _ from rfl) c)
      (conv => whnf)
      exact hK2 _ (W + (nI 1 + nI u)) α1 ν1 _ _ ⟨rfl, rfl, rfl, rfl, rfl, rfl, rfl, rfl, trivial⟩ (zIv_mono hv1 (by omega)) (by rw [eS, hW, nI_add]) (by omega) (by omega)
  · (conv => whnf)
    exact hK1 _ _ _ ⟨rfl, rfl, rfl, rfl, rfl, rfl, rfl, rfl, rfl, rfl, trivial⟩ (by omega) (by omega)
set_option maxHeartbeats 8000000 in
set_option maxRecDepth 40000 in
theorem wp_C4 (hv : zIv B α ν) (hB : B ≤ 800000) (hW : zSu α ν 6 = W) (hk : k < 96) (hd : d < 4) (hcu : cu ≤ 100000) (hsu : su ≤ 1000000)
    (hK1 : ∀ Lc cu' su', zsub (zI2 T n W v k d s) Lc → cu' ≤ cu + 2 → su' ≤ su + 12 → K1 Lc [] (WX α ν []) cu' su')
    (hK2 : ∀ Lc W' α' ν' cu' su', zsub (zI1 T n W' v k) Lc → zIv (B + 200) α' ν' → zSu α' ν' 6 = W' → cu' ≤ cu + 20 → su' ≤ su + 120 → K2 Lc [] (WX α' ν' []) cu' su') : zwp zLT 14 pg_PC4 [(628, K1), (873, K2)] 150 pg_PC4 (zI2 T n W v k d s) [] (WX α ν []) cu su := by
-- .
  (conv => whnf)
  refine And.intro (fun c => ?_) (fun c => ?_)
  · (conv => whnf)
    rw [zbl (show cu + 2 ≤ 600104 by omega)]
    (conv => whnf)
    rw [zbl (show su + 12 ≤ 7301313 by omega)]
    (conv => whnf)
    refine zmcI (k_fill hv hd (fun hp => ?_) (fun α1 u hu hv1 e6 h13 => ?_))
    · -- refused
-- .
      (conv => whnf)
      refine And.intro (fun _ => ?_) (fun c => absurd (show _ from rfl) c)
      (conv => whnf)
      rw [zbl (show cu + 2 + 1 ≤ 600104 by omega)]
      (conv => whnf)
      rw [zbl (show su + 12 + 6 ≤ 7301313 by omega)]
      (conv => whnf)
      refine zmcI (k_rest hd ?_)
      (conv => whnf)
      refine And.intro (fun _ => ?_) (fun c => absurd (show _ from hp) c)
      (conv => whnf)
      exact hK2 _ W α ν _ _ ⟨rfl, rfl, rfl, rfl, rfl, rfl, rfl, rfl, trivial⟩ (zIv_mono hv (by omega)) hW (by omega) (by omega)
    · have h20 : 20 ≤ min (200 / zau k) 60 := by
        have h9 : zau k ≤ 9 := by unfold zau; omega
        have h2 : 0 < zau k := by unfold zau; omega
        have : 20 ≤ 200 / zau k := (Nat.le_div_iff_mul_le h2).mpr (by omega)
        omega
      have h60 : min (200 / zau k) 60 ≤ 60 := Nat.min_le_right _ _
-- .
      (conv => whnf)
      refine And.intro (fun c => absurd c (show ¬ _ from (nI_ne_m3 (by omega)))) (fun _ => ?_)
      (conv => whnf)
      rw [zbl (show cu + 2 + 1 ≤ 600104 by omega)]
      (conv => whnf)
      rw [zbl (show su + 12 + 6 ≤ 7301313 by omega)]
      (conv => whnf)
      refine zmcI (k_air hd ?_)
      rw [e6]
      (conv => whnf)
      refine And.intro (fun _ => ?_) (fun c => absurd (show _ from rfl) c)
      (conv => whnf)
      rw [zbl (show cu + 2 + 1 + 2 ≤ 600104 by omega)]
      (conv => whnf)
      rw [zbl (show su + 12 + 6 + 12 ≤ 7301313 by omega)]
      (conv => whnf)
      refine zmcI (k_longest (a := 200) hv1 hd hk (by decide) e6 ?_)
      (conv => whnf)
      refine And.intro (fun c => absurd c (show ¬ _ from (nI_nlt h20 (by omega)))) (fun _ => ?_)
      (conv => whnf)
      exact hK2 _ W α1 ν _ _ ⟨rfl, rfl, rfl, rfl, rfl, rfl, rfl, rfl, trivial⟩ (zIv_mono hv1 (by omega)) (by rw [zSu_cg h13 rfl, hW]) (by omega) (by omega)
  · (conv => whnf)
    exact hK1 _ _ _ ⟨rfl, rfl, rfl, rfl, rfl, rfl, rfl, rfl, rfl, rfl, trivial⟩ (by omega) (by omega)
end ZLB
