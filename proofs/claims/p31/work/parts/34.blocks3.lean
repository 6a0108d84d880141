/-! ===== THE LAW: claims, minutes, the turn's end, the end ===== -/
section ZLB
variable {T n k d s B cu su : Nat} {W v : Int32} {α : Nat → Nat → Int32} {ν : Nat → Int32} {K K1 K2 : zK}
set_option maxHeartbeats 8000000 in
set_option maxRecDepth 40000 in
theorem wp_C5 (hv : zIv B α ν) (hB : B ≤ 800000) (hW : zSu α ν 6 = W) (hk : k < 96) (hcu : cu ≤ 100000) (hsu : su ≤ 1000000)
    (hK1 : ∀ Lc cu' su', zsub (zI2 T n W v k d s) Lc → cu' ≤ cu + 2 → su' ≤ su + 12 → K1 Lc [] (WX α ν []) cu' su')
    (hK2 : ∀ Lc W' α' ν' cu' su', zsub (zI1 T n W' v k) Lc → zIv (B + 200) α' ν' → zSu α' ν' 6 = W' → cu' ≤ cu + 20 → su' ≤ su + 120 → K2 Lc [] (WX α' ν' []) cu' su') : zwp zLT 14 pg_PC5 [(716, K1), (873, K2)] 150 pg_PC5 (zI2 T n W v k d s) [] (WX α ν []) cu su := by
-- .
  (conv => whnf)
  refine And.intro (fun c => ?_) (fun c => ?_)
  · have h6 := zlo_lt v (n := 6) (by decide)
    have hc := zIv_le hv
    (conv => whnf)
    rw [zbl (show cu + 0 ≤ 600104 by omega)]
    (conv => whnf)
    rw [zbl (show su + 0 ≤ 7301313 by omega)]
    (conv => whnf)
    refine zmcI (k_claims hv ?_)
    (conv => whnf)
    rw [zbl (show cu + 0 + 0 ≤ 600104 by omega)]
    (conv => whnf)
    rw [zbl (show su + 0 + 0 ≤ 7301313 by omega)]
    (conv => whnf)
    refine zmcI (k_low (n := 6) (by decide) (by decide) ?_)
    (conv => whnf)
    rw [zbl (show cu + 0 + 0 + 6 ≤ 600104 by omega)]
    (conv => whnf)
    rw [zbl (show su + 0 + 0 + 36 ≤ 7301313 by omega)]
    (conv => whnf)
    refine zmcI (k_claim hv h6 hk ?_ (fun α1 ν1 hv1 ec h40 hx hf h9 h13 h5 => ?_))
    · -- refused
-- .
      (conv => whnf)
      refine And.intro (fun _ => ?_) (fun c => absurd (show _ from rfl) c)
      (conv => whnf)
      exact hK2 _ W α ν _ _ ⟨rfl, rfl, rfl, rfl, rfl, rfl, rfl, rfl, trivial⟩ (zIv_mono hv (by omega)) hW (by omega) (by omega)
    · skip
      (conv => whnf)
      refine And.intro (fun c => absurd c (show ¬ _ from (nI_ne_m3 (by omega)))) (fun _ => ?_)
      (conv => whnf)
      refine And.intro (fun _ => ?_) (fun c => absurd (show _ from rfl) c)
      (conv => whnf)
      rw [zbl (show cu + 0 + 0 + 6 + 1 ≤ 600104 by omega)]
      (conv => whnf)
      rw [zbl (show su + 0 + 0 + 36 + 6 ≤ 7301313 by omega)]
      (conv => whnf)
      refine zmcI (k_finder hv1 hk ?_)
      rw [hf]
      (conv => whnf)
      rw [zbl (show cu + 0 + 0 + 6 + 1 + 0 ≤ 600104 by omega)]
      (conv => whnf)
      rw [zbl (show su + 0 + 0 + 36 + 6 + 0 ≤ 7301313 by omega)]
      (conv => whnf)
      refine zmcI (k_low (n := 6) (by decide) (by decide) ?_)
      (conv => whnf)
      refine And.intro (fun _ => ?_) (fun c => absurd (show _ from rfl) c)
      (conv => whnf)
      rw [zbl (show cu + 0 + 0 + 6 + 1 + 0 + 1 ≤ 600104 by omega)]
      (conv => whnf)
      rw [zbl (show su + 0 + 0 + 36 + 6 + 0 + 6 ≤ 7301313 by omega)]
      (conv => whnf)
      refine zmcI (k_holds (j := zc ν) hv1 (by omega) ⟨fun _ => ?_, fun q => absurd (show zHx α1 ν1 (α1 3 (α1 9 (zc ν)).toNatClampNeg) = nI (zc ν) by rw [h9, nI_clamp (by omega)]; exact hx) q⟩)
      (conv => whnf)
      refine And.intro (fun c => absurd c (show ¬ _ from (by decide))) (fun _ => ?_)
      (conv => whnf)
      rw [zbl (show cu + 0 + 0 + 6 + 1 + 0 + 1 + 6 ≤ 600104 by omega)]
      (conv => whnf)
      rw [zbl (show su + 0 + 0 + 36 + 6 + 0 + 6 + 36 ≤ 7301313 by omega)]
      (conv => whnf)
      refine zmcI (k_claim_no (f := 0) hv1 (by decide) hk (by rw [hx]; exact nI_ne_m1 (by omega)) ?_)
      (conv => whnf)
      refine And.intro (fun _ => ?_) (fun c => absurd (show _ from rfl) c)
      (conv => whnf)
      exact hK2 _ W α1 ν1 _ _ ⟨rfl, rfl, rfl, rfl, rfl, rfl, rfl, rfl, trivial⟩ (zIv_mono hv1 (by omega)) (by rw [zSu_cg h13 h5, hW]) (by omega) (by omega)
  · (conv => whnf)
    exact hK1 _ _ _ ⟨rfl, rfl, rfl, rfl, rfl, rfl, rfl, rfl, rfl, rfl, trivial⟩ (by omega) (by omega)
set_option maxHeartbeats 8000000 in
set_option maxRecDepth 40000 in
theorem wp_C6 (hv : zIv B α ν) (hB : B ≤ 800000) (hW : zSu α ν 6 = W) (hk : k < 96) (hcu : cu ≤ 100000) (hsu : su ≤ 1000000)
    (hK1 : ∀ Lc cu' su', zsub (zI2 T n W v k d s) Lc → cu' ≤ cu + 2 → su' ≤ su + 12 → K1 Lc [] (WX α ν []) cu' su')
    (hK2 : ∀ Lc W' α' ν' cu' su', zsub (zI1 T n W' v k) Lc → zIv (B + 200) α' ν' → zSu α' ν' 6 = W' → cu' ≤ cu + 20 → su' ≤ su + 120 → K2 Lc [] (WX α' ν' []) cu' su') : zwp zLT 14 pg_PC6 [(807, K1), (873, K2)] 150 pg_PC6 (zI2 T n W v k d s) [] (WX α ν []) cu su := by
-- .
  (conv => whnf)
  refine And.intro (fun c => ?_) (fun c => ?_)
  · obtain ⟨t, ⟨ht, et⟩, ⟨hc, -⟩, -⟩ := zIv_c hv
    (conv => whnf)
    rw [zbl (show cu + 0 ≤ 600104 by omega)]
    (conv => whnf)
    rw [zbl (show su + 0 ≤ 7301313 by omega)]
    (conv => whnf)
    refine zmcI (k_claims hv ?_)
-- .
    (conv => whnf)
    refine And.intro (fun c2 => ?_) (fun c2 => ?_)
    · have hpos : 0 < zc ν := (nI_ltI (a := 0) (by decide) (by omega)).mp c2
      (conv => whnf)
      rw [zbl (show cu + 0 + 0 ≤ 600104 by omega)]
      (conv => whnf)
      rw [zbl (show su + 0 + 0 ≤ 7301313 by omega)]
      (conv => whnf)
      refine zmcI (k_claims hv ?_)
      (conv => whnf)
      rw [zbl (show cu + 0 + 0 + 0 ≤ 600104 by omega)]
      (conv => whnf)
      rw [zbl (show su + 0 + 0 + 0 ≤ 7301313 by omega)]
      (conv => whnf)
      refine zmcI (k_lowA (n := zc ν) hpos (by omega) (fun j hj => ?_))
      (conv => whnf)
      rw [zbl (show cu + 0 + 0 + 0 + 2 ≤ 600104 by omega)]
      (conv => whnf)
      rw [zbl (show su + 0 + 0 + 0 + 12 ≤ 7301313 by omega)]
      (conv => whnf)
      refine zmcI (k_renew hv hj (fun hn => ?_) (fun α1 m hr em m1 m2 hv1 e10 h13 => ?_))
      · -- refused
-- .
        (conv => whnf)
        refine And.intro (fun _ => ?_) (fun c => absurd (show _ from rfl) c)
        (conv => whnf)
        rw [zbl (show cu + 0 + 0 + 0 + 2 + 1 ≤ 600104 by omega)]
        (conv => whnf)
        rw [zbl (show su + 0 + 0 + 0 + 12 + 6 ≤ 7301313 by omega)]
        (conv => whnf)
        refine zmcI (k_runs hv hj ⟨fun g => absurd g hn, fun _ => ?_⟩)
        (conv => whnf)
        refine And.intro (fun _ => ?_) (fun c => absurd (show _ from rfl) c)
        (conv => whnf)
        exact hK2 _ W α ν _ _ ⟨rfl, rfl, rfl, rfl, rfl, rfl, rfl, rfl, trivial⟩ (zIv_mono hv (by omega)) hW (by omega) (by omega)
      · have hrun : ν 0 < α1 10 j := by
          rw [e10, et, nI_add]
          exact nI_lt (by omega) (by omega)
-- .
        (conv => whnf)
        refine And.intro (fun c => absurd c (show ¬ _ from (nI_ne_m3 (by omega)))) (fun _ => ?_)
        (conv => whnf)
        refine And.intro (fun _ => ?_) (fun c => absurd (show _ from (nI_lt (a := 0) m1 (by omega))) c)
        (conv => whnf)
        refine And.intro (fun c => absurd c (show ¬ _ from (nI_nlt m2 (by decide)))) (fun _ => ?_)
        (conv => whnf)
        rw [zbl (show cu + 0 + 0 + 0 + 2 + 2 ≤ 600104 by omega)]
        (conv => whnf)
        rw [zbl (show su + 0 + 0 + 0 + 12 + 12 ≤ 7301313 by omega)]
        (conv => whnf)
        refine zmcI (k_renew hv1 hj (fun hn => absurd hrun hn) (fun α2 m' hr' em' m1' m2' hv2 e10' g13 => ?_))
        have emm : m' = 28800 := by
          have h1 := em'.symm.trans e10
          rw [et, nI_add, nI_add] at h1
          have := nI_inj (by omega) (by omega) h1
          omega
        rw [emm]
        (conv => whnf)
        refine And.intro (fun _ => ?_) (fun c => absurd (show _ from rfl) c)
        (conv => whnf)
        exact hK2 _ W α2 ν _ _ ⟨rfl, rfl, rfl, rfl, rfl, rfl, rfl, rfl, trivial⟩ (zIv_mono hv2 (by omega)) (by rw [zSu_cg g13 rfl, zSu_cg h13 rfl, hW]) (by omega) (by omega)
    · (conv => whnf)
      exact hK1 _ _ _ ⟨rfl, rfl, rfl, rfl, rfl, rfl, rfl, rfl, rfl, rfl, trivial⟩ (by omega) (by omega)
  · (conv => whnf)
    exact hK1 _ _ _ ⟨rfl, rfl, rfl, rfl, rfl, rfl, rfl, rfl, rfl, rfl, trivial⟩ (by omega) (by omega)
set_option maxHeartbeats 8000000 in
set_option maxRecDepth 40000 in
theorem wp_C7 (hcu : cu ≤ 100000) (hsu : su ≤ 1000000)
    (hK : ∀ Lc y b cu' su', y = nI b → 1 ≤ b → b ≤ 14400 → zsub (zI1 T n W v k) Lc → cu' ≤ cu → su' ≤ su → K Lc [.int y] (WX α ν []) cu' su') : zwp zLT 14 pg_PC7 [(838, K)] 100 pg_PC7 (zI2 T n W v k d s) [] (WX α ν []) cu su := by
-- .
  (conv => whnf)
  rw [zbl (show cu + 0 ≤ 600104 by omega)]
  (conv => whnf)
  rw [zbl (show su + 0 ≤ 7301313 by omega)]
  (conv => whnf)
  refine zmcI (k_lowA (n := 3) (by decide) (by decide) (fun z hz => ?_))
-- .
  (conv => whnf)
  refine And.intro (fun c => ?_) (fun c => ?_)
  · (conv => whnf)
    rw [zbl (show cu + 0 + 0 ≤ 600104 by omega)]
    (conv => whnf)
    rw [zbl (show su + 0 + 0 ≤ 7301313 by omega)]
    (conv => whnf)
    refine zmcI (k_lowA (n := 14400) (by decide) (by decide) (fun b hb => ?_))
    (conv => whnf)
    exact hK _ _ (1 + b) _ _ (nI_add 1 b) (by omega) (by omega) ⟨rfl, rfl, rfl, rfl, rfl, rfl, rfl, rfl, trivial⟩ (by omega) (by omega)
  · -- the other way
-- .
    (conv => whnf)
    rw [zbl (show cu + 0 + 0 ≤ 600104 by omega)]
    (conv => whnf)
    rw [zbl (show su + 0 + 0 ≤ 7301313 by omega)]
    (conv => whnf)
    refine zmcI (k_lowA (n := 90) (by decide) (by decide) (fun b hb => ?_))
    (conv => whnf)
    exact hK _ _ (1 + b) _ _ (nI_add 1 b) (by omega) (by omega) ⟨rfl, rfl, rfl, rfl, rfl, rfl, rfl, rfl, trivial⟩ (by omega) (by omega)
set_option maxHeartbeats 8000000 in
set_option maxRecDepth 40000 in
theorem wp_C7b {b : Nat} (hv : zIv B α ν) (hB : B ≤ 800000) (hW : zSu α ν 6 = W) (hk : k < 96) (b1 : 1 ≤ b) (b2 : b ≤ 14400) (hcu : cu ≤ 100000) (hsu : su ≤ 1000000)
    (hK2 : ∀ Lc W' α' ν' cu' su', zsub (zI1 T n W' v k) Lc → zIv (B + 200) α' ν' → zSu α' ν' 6 = W' → cu' ≤ cu + 20 → su' ≤ su + 120 → K Lc [] (WX α' ν' []) cu' su') : zwp zLT 14 pg_PC7b [(873, K)] 100 pg_PC7b (zI1 T n W v k) [.int (nI b)] (WX α ν []) cu su := by
  obtain ⟨t, ⟨ht, et⟩, -⟩ := zIv_c hv
-- .
  (conv => whnf)
  rw [zbl (show cu + 0 ≤ 600104 by omega)]
  (conv => whnf)
  rw [zbl (show su + 0 ≤ 7301313 by omega)]
  (conv => whnf)
  refine zmcI (k_minute ?_)
  rw [et]
  (conv => whnf)
  refine And.intro (fun c => ?_) (fun c => ?_)
  · (conv => whnf)
    exact hK2 _ W α ν _ _ ⟨rfl, rfl, rfl, rfl, rfl, rfl, rfl, rfl, trivial⟩ (zIv_mono hv (by omega)) hW (by omega) (by omega)
  · have ht2 : t ≤ 980000 := by
      apply Classical.byContradiction
      intro q
      exact c (show nI 980000 < nI t from nI_lt (by omega) (by omega))
    (conv => whnf)
    rw [zbl (show cu + 0 + 2 ≤ 600104 by omega)]
    (conv => whnf)
    rw [zbl (show su + 0 + 12 ≤ 7301313 by omega)]
    (conv => whnf)
    refine zmcI (k_advance hv et b1 b2 (by omega) (fun ν1 hv1 h5 => ?_))
    (conv => whnf)
    refine And.intro (fun _ => ?_) (fun c => absurd (show _ from (nI_add t b).symm) c)
    (conv => whnf)
    exact hK2 _ W α ν1 _ _ ⟨rfl, rfl, rfl, rfl, rfl, rfl, rfl, rfl, trivial⟩ (zIv_mono hv1 (by omega)) (by rw [zSu_cg rfl h5, hW]) (by omega) (by omega)
set_option maxHeartbeats 8000000 in
set_option maxRecDepth 40000 in
theorem wp_D (hv : zIv B α ν) (hB : B ≤ 800000) (hW : zSu α ν 6 = W) (hk : k < 96) (hcu : cu ≤ 100000) (hsu : su ≤ 1000000)
    (hK : ∀ Lc α' ν' cu' su', zsub (zI0 T (n + 1) W) Lc → zIv (B + 2) α' ν' → zSu α' ν' 6 = W → cu' ≤ cu + 200 → su' ≤ su + 1200 → K Lc [] (WX α' ν' []) cu' su') : zwp zLT 14 pg_PD [(55, K)] 100 pg_PD (zI1 T n W v k) [] (WX α ν []) cu su := by
-- .
  (conv => whnf)
  refine And.intro (fun c => absurd c (show ¬ _ from (by decide))) (fun _ => ?_)
  (conv => whnf)
  rw [zbl (show cu + 28 ≤ 600104 by omega)]
  (conv => whnf)
  rw [zbl (show su + 168 ≤ 7301313 by omega)]
  (conv => whnf)
  refine zmcI (k_lcells hv (by omega) hk (fun α1 ν1 hs1 hv1 => ?_))
  (conv => whnf)
  refine And.intro (fun c => absurd c (show ¬ _ from (by decide))) (fun _ => ?_)
  (conv => whnf)
  rw [zbl (show cu + 28 + 0 ≤ 600104 by omega)]
  (conv => whnf)
  rw [zbl (show su + 168 + 0 ≤ 7301313 by omega)]
  (conv => whnf)
  refine zmcI (k_lowA (n := 96) (by decide) (by decide) (fun j hj => ?_))
  (conv => whnf)
  rw [zbl (show cu + 28 + 0 + 28 ≤ 600104 by omega)]
  (conv => whnf)
  rw [zbl (show su + 168 + 0 + 168 ≤ 7301313 by omega)]
  (conv => whnf)
  refine zmcI (k_lcells hv1 (by omega) hj (fun α2 ν2 hs2 hv2 => ?_))
  (conv => whnf)
  refine And.intro (fun c => absurd c (show ¬ _ from (by decide))) (fun _ => ?_)
  (conv => whnf)
  rw [zbl (show cu + 28 + 0 + 28 + 100 ≤ 600104 by omega)]
  (conv => whnf)
  rw [zbl (show su + 168 + 0 + 168 + 600 ≤ 7301313 by omega)]
  (conv => whnf)
  refine zmcI (k_lclaims hv2 ?_)
  (conv => whnf)
  refine And.intro (fun c => absurd c (show ¬ _ from (by decide))) (fun _ => ?_)
  (conv => whnf)
  exact hK _ α2 ν2 _ _ ⟨rfl, rfl, rfl, rfl, rfl, zi1 rfl, trivial⟩ hv2 (by rw [zSame_Su hs2, zSame_Su hs1, hW]) (by omega) (by omega)
set_option maxHeartbeats 8000000 in
set_option maxRecDepth 40000 in
theorem wp_E (hW : zSu α ν 6 = W) (hcu : cu ≤ 100000) (hsu : su ≤ 1000000) : zwp zLT 14 pg_PE [] 60 pg_PE (zI0 T n W) [] (WX α ν []) cu su := by
-- .
  (conv => whnf)
  refine And.intro (fun c => absurd c (show ¬ _ from (by decide))) (fun _ => ?_)
  (conv => whnf)
  rw [zbl (show cu + 10 ≤ 600104 by omega)]
  (conv => whnf)
  rw [zbl (show su + 60 ≤ 7301313 by omega)]
  (conv => whnf)
  refine zmcI (k_sum ?_)
  rw [hW]
  (conv => whnf)
  refine And.intro (fun _ => ?_) (fun c => absurd (show _ from rfl) c)
  (conv => whnf)
  exact ⟨rfl, by omega, by omega⟩
end ZLB
