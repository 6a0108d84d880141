/-! ===== THE CALLS OVER THE INVARIANT ===== -/
theorem zupd_ex {g : Nat → Int32} {v : Int32} {N M d : Nat} (h : ∀ d, d < N → ∃ a, a ≤ M ∧ g d = nI a) (hv : ∃ a, a ≤ M ∧ v = nI a) : ∀ d', d' < N → ∃ a, a ≤ M ∧ upd g d v d' = nI a := fun d' hd' => by
  by_cases e : d' = d
  · rw [e, pk_us]; exact hv
  · rw [pk_un e]; exact h d' hd'
section ZKP
variable {α α' : Nat → Nat → Int32} {ν ν' : Nat → Int32} {B k d j : Nat} {Q : Option Value → zW → Prop} {X : String → zW → Prop}
theorem k_ask {g : (Nat → Nat → Int32) → Nat → Int32} (hk : k < 96) (h : Q (some (.int (g α k))) (WX α ν [])) : zAsk g [.ref 0, .int (nI k)] (WX α ν []) Q X :=
  ⟨α, ν, [], nI k, rfl, rfl, fun c => absurd (vp_in_nI hk (by decide)) c, fun k' hk' e => by
    have ek : k = k' := nI_inj (by omega) (by omega) e
    subst ek
    exact h⟩
theorem k_shapeOf (hk : k < 96) (h : Q (some (.int (α 3 k))) (WX α ν [])) : sp_X4_shapeOf [.ref 0, .int (nI k)] (WX α ν []) Q X := k_ask (g := fun α k => α 3 k) hk h
theorem k_size (hk : k < 96) (h : Q (some (.int (nI (zcnt (α 3) (α 3 k) 96)))) (WX α ν [])) : sp_X4_size [.ref 0, .int (nI k)] (WX α ν []) Q X := k_ask (g := fun α k => nI (zcnt (α 3) (α 3 k) 96)) hk h
theorem k_top (hk : k < 96) (h : Q (some (.int (zmx (α 3) (α 0) (α 3 k) 96))) (WX α ν [])) : sp_X4_top [.ref 0, .int (nI k)] (WX α ν []) Q X := k_ask (g := fun α k => zmx (α 3) (α 0) (α 3 k) 96) hk h
theorem k_nameOf (hk : k < 96) (h : Q (some (.int (zNm α (α 3 k)))) (WX α ν [])) : sp_X4_nameOf [.ref 0, .int (nI k)] (WX α ν []) Q X := k_ask (g := fun α k => zNm α (α 3 k)) hk h
theorem k_shapes (h : Q (some (.int (nI (zcs (α 3) 96)))) (WX α ν [])) : sp_X4_shapes [.ref 0] (WX α ν []) Q X := ⟨α, ν, [], rfl, rfl, h⟩
theorem k_minute (h : Q (some (.int (ν 0))) (WX α ν [])) : sp_X4_minute [.ref 0] (WX α ν []) Q X := ⟨α, ν, [], rfl, rfl, h⟩
theorem k_things (h : Q (some (.int (ν 4))) (WX α ν [])) : sp_X4_things [.ref 0] (WX α ν []) Q X := ⟨α, ν, [], rfl, rfl, h⟩
theorem k_kept (h : Q (some (.int (ν 5))) (WX α ν [])) : sp_X4_kept [.ref 0] (WX α ν []) Q X := ⟨α, ν, [], rfl, rfl, h⟩
theorem k_claims (hv : zIv B α ν) (h : Q (some (.int (nI (zc ν)))) (WX α ν [])) : sp_X4_claims [.ref 0] (WX α ν []) Q X := ⟨α, ν, [], rfl, rfl, by rw [(zIv_ck hv).2.1]; exact h⟩
theorem k_titleAt {p : Nat} (hv : zIv B α ν) (hk : k < 96) (hp : p < 100) (h1 : α 3 k = -1 → Q (some (.int (-1))) (WX α ν [])) (h2 : ∀ s α' ν', s < 96 → α 3 k = nI s → zSame α ν α' ν' → zIv B α' ν' → Q (some (.int (zTv α ν s (nI p)))) (WX α' ν' [])) : sp_X4_titleAt [.ref 0, .int (nI k), .int (nI p)] (WX α ν []) Q X := by
  have hc := zIv_ck hv
  obtain ⟨q, hq, hq6⟩ : ∃ q, q ≤ 16 ∧ ν 6 = nI q := hv.2.2.2.2.2.2
  refine ⟨α, ν, [], zc ν, q, nI k, nI p, hc, zIv_8 hv, hq, hq6, hv.1.1, rfl, rfl, fun c => absurd c (fun c => c.elim (fun c => c (vp_in_nI hk (by decide))) (fun c => nI_pos (by omega) c)), ?_⟩
  intro k' hk' e hp'
  have ek : k = k' := nI_inj (by omega) (by omega) e
  subst ek
  refine ⟨h1, fun s fd y hs es hfd => ?_⟩
  have ef := zFd_eq hc.1 hfd
  subst ef
  have hl : (zTt α s (zfo α ν (nI s))).length ≤ 8 := zTtl_l (fun f e => zfo_lt hv e)
  exact h2 s _ _ hs es (zSame_ttl α ν _ _ _) (zIv_ttl hv (by omega))
theorem k_finder (hv : zIv B α ν) (hk : k < 96) (h : Q (some (.int (zFn α ν (α 3 k)))) (WX α ν [])) : sp_X4_finder [.ref 0, .int (nI k)] (WX α ν []) Q X :=
  ⟨α, ν, [], zc ν, nI k, zIv_ck hv, rfl, rfl, fun c => absurd (vp_in_nI hk (by decide)) c, fun k' hk' e z hz => by
    have ek : k = k' := nI_inj (by omega) (by omega) e
    subst ek
    have ez := zHx_eq hz
    subst ez
    exact h⟩
theorem k_fbs (hv : zIv B α ν) (hB : B ≤ 900000) (hk : k < 96) (h : ∀ α' ν', zSame α ν α' ν' → zIv (B + 1) α' ν' → Q (some (.int (zFn α ν (α 3 k)))) (WX α' ν' [])) : sp_X4_finderBySoundings [.ref 0, .int (nI k)] (WX α ν []) Q X := by
  obtain ⟨o, ho, hou⟩ := zIv_ou hv (by omega)
  refine ⟨α, ν, [], o, zc ν, nI k, hou, zIv_ck hv, hv.1.1, hv.2.2.1.2, rfl, rfl, fun c => absurd (vp_in_nI hk (by decide)) c, ?_⟩
  intro k' hk' e z a4 a5 hz h5
  have ek : k = k' := nI_inj (by omega) (by omega) e
  subst ek
  have ez := zHx_eq hz
  subst ez
  exact h _ _ (zSame_fbs α ν _ _ _) (zIv_fbs hv ho h5)
theorem k_holds (hv : zIv B α ν) (hj : j < zc ν) (h : zB Q (zHx α ν (α 3 (α 9 j).toNatClampNeg) = nI j) (WX α ν [])) : sp_X4_holds [.ref 0, .int (nI j)] (WX α ν []) Q X := by
  have hc := zIv_le hv
  refine ⟨α, ν, [], zc ν, nI j, zIv_ck hv, rfl, rfl, fun c => absurd (vp_in_nI hj (by omega)) c, ?_⟩
  intro j' b hj' hb e e9 z hz
  have ek : j = j' := nI_inj (by omega) (by omega) e
  subst ek
  have ez := zHx_eq hz
  subst ez
  rw [e9, nI_clamp (by omega)] at h
  exact h
theorem k_runs (hv : zIv B α ν) (hj : j < zc ν) (h : zB Q (ν 0 < α 10 j) (WX α ν [])) : sp_X4_runs [.ref 0, .int (nI j)] (WX α ν []) Q X := by
  have hc := zIv_ck hv
  have hc1 := hc.1
  refine ⟨α, ν, [], zc ν, nI j, hc.1, hc.2.1, rfl, rfl, fun c => absurd (vp_in_nI hj (by omega)) c, ?_⟩
  intro j' hj' e
  have ek : j = j' := nI_inj (by omega) (by omega) e
  subst ek
  exact h
theorem k_reward (hj : j < 6) (h : Q (some (.int (α 13 j))) (WX α ν [])) : sp_X4_reward [.ref 0, .int (nI j)] (WX α ν []) Q X :=
  ⟨α, ν, [], nI j, rfl, rfl, fun c => absurd (vp_in_nI hj (by decide)) c, fun k' hk' e => by
    have ek : j = k' := nI_inj (by omega) (by omega) e
    subst ek
    exact h⟩
theorem k_air (hd : d < 4) (h : Q (some (.int (α 6 d))) (WX α ν [])) : sp_X4_air [.ref 0, .int (nI d)] (WX α ν []) Q X :=
  ⟨α, ν, [], nI d, rfl, rfl, fun c => absurd (vp_in_nI hd (by decide)) c, fun k' hk' e => by
    have ek : d = k' := nI_inj (by omega) (by omega) e
    subst ek
    exact h⟩
theorem k_rest (hd : d < 4) (h : Q (some (.int (zrst (α 7 d) (ν 0)))) (WX α ν [])) : sp_X4_rest [.ref 0, .int (nI d)] (WX α ν []) Q X :=
  ⟨α, ν, [], nI d, rfl, rfl, fun c => absurd (vp_in_nI hd (by decide)) c, fun k' hk' e => by
    have ek : d = k' := nI_inj (by omega) (by omega) e
    subst ek
    exact h⟩
theorem k_longest {a : Nat} (hv : zIv B α ν) (hd : d < 4) (hk : k < 96) (ha : a ≤ 200) (ea : α 6 d = nI a) (h : Q (some (.int (nI (min (a / zau k) 60)))) (WX α ν [])) : sp_X4_longest [.ref 0, .int (nI d), .int (nI k)] (WX α ν []) Q X := by
  refine ⟨α, ν, [], nI d, nI k, hv.2.2.2.1.1, rfl, rfl, fun c => absurd c (fun c => c.elim (fun c => c (vp_in_nI hd (by decide))) (fun c => c (vp_in_nI hk (by decide)))), ?_⟩
  intro d' k' a' hd' hk' e1 e2 ha' ea'
  have ed : d = d' := nI_inj (by omega) (by omega) e1
  have ek : k = k' := nI_inj (by omega) (by omega) e2
  subst ed; subst ek
  have eaa : a = a' := nI_inj (by omega) (by omega) (ea.symm.trans ea')
  subst eaa
  exact h
theorem k_thing {i : Nat} (hv : zIv B α ν) {n : Nat} (hν : ν 4 = nI n) (hn : n ≤ 60) (hj : j < n) (h : Q (some (.int (α i j))) (WX α ν [])) : zThg i [.ref 0, .int (nI j)] (WX α ν []) Q X := by
  refine ⟨α, ν, [], n, nI j, hn, hν, rfl, rfl, fun c => absurd (vp_in_nI hj (by omega)) c, ?_⟩
  intro j' hj' e
  have ek : j = j' := nI_inj (by omega) (by omega) e
  subst ek
  exact h
/-! the calls that change -/
theorem zFn_cg (e1 : α' 1 = α 1) (e2 : α' 2 = α 2) (e3 : α' 3 = α 3) (e8 : α' 8 = α 8) (e9 : α' 9 = α 9) (e10 : α' 10 = α 10) (n0 : ν' 0 = ν 0) (n3 : ν' 3 = ν 3) (s : Int32) : zFn α' ν' s = zFn α ν s := by
  unfold zFn
  rw [zHx_cg e1 e2 e3 e9 e10 n0 n3, e8]
theorem zIv_snd {hn f a4 a5 : Nat → Int32} {o' : Nat} (hv : zIv B α ν) (h9 : ∀ c, c < 96 → ∃ h, h ≤ 9 ∧ hn c = nI h) (hl : zLow hn f) (ho : o' ≤ B + 96) (h5 : ∀ c, c < 96 → ∃ t, a5 c = nI t ∧ t ≤ o') : zIv (B + 96) (zu (zu (zu (zu α 0 hn) 5 a5) 4 a4) 3 f) (zu ν 2 (nI o')) := by
  obtain ⟨h1, h2, ⟨⟨q, h3, h3'⟩, h3''⟩, h4, h5', h6, h7⟩ := hv
  exact ⟨⟨hl, h9⟩, ⟨o', ho, rfl, h5⟩, ⟨⟨q, by omega, h3'⟩, h3''⟩, h4, h5', h6, h7⟩
theorem k_sound {h : Nat} (hv : zIv B α ν) (hB : B ≤ 900000) (hk : k < 96) (hh : h ≤ 9) (H : ∀ α' ν', zIv (B + 96) α' ν' → α' 0 k = nI h → α' 13 = α 13 → ν' 5 = ν 5 → Q (some (.int (α 0 k))) (WX α' ν' [])) : sp_X4_sound [.ref 0, .int (nI k), .int (nI h)] (WX α ν []) Q X := by
  obtain ⟨o, ho, hou⟩ := zIv_ou hv (by omega)
  refine ⟨α, ν, [], o, nI k, nI h, hou, rfl, rfl, fun c => absurd (vp_in_nI hk (by decide)) c, ?_⟩
  intro k' hk' e
  have ek : k = k' := nI_inj (by omega) (by omega) e
  subst ek
  refine ⟨fun c => absurd c (fun c => c.elim (nI_nlt (Nat.zero_le h) (by omega)) (nI_nlt hh (by decide))), fun _ _ f a4 a5 o' hl ho' h5 => H _ _ ?_ ?_ rfl rfl⟩
  · exact zIv_snd hv (zupd_ex hv.1.2 ⟨h, hh, rfl⟩) hl (by omega) h5
  · show upd (α 0) k (nI h) k = nI h
    rw [pk_us]
theorem k_sweep {n h : Nat} (hv : zIv B α ν) (hB : B ≤ 900000) (hk : k < 96) (h1 : 1 ≤ n) (hn : n ≤ 12 - k % 12) (hh : h ≤ 9) (H : ∀ α' ν', zIv (B + 96) α' ν' → α' 13 = α 13 → ν' 5 = ν 5 → Q (some (.int (nI (zcs (α' 3) 96)))) (WX α' ν' [])) : sp_X4_sweep [.ref 0, .int (nI k), .int (nI n), .int (nI h)] (WX α ν []) Q X := by
  obtain ⟨o, ho, hou⟩ := zIv_ou hv (by omega)
  refine ⟨α, ν, [], o, nI k, nI n, nI h, hou, rfl, rfl, fun c => absurd (vp_in_nI hk (by decide)) c, ?_⟩
  intro k' hk' e
  have ek : k = k' := nI_inj (by omega) (by omega) e
  subst ek
  refine ⟨fun c => absurd c (fun c => c.elim (fun c => c.elim (nI_nlt h1 (by omega)) (nI_nlt hn (by omega))) (fun c => c.elim (nI_nlt (Nat.zero_le h) (by omega)) (nI_nlt hh (by decide)))), fun n' en hn' _ _ _ _ f a4 a5 o' hl ho' h5 => H (zu (zu (zu (zu α 0 (zsv (α 0) k (nI h) n')) 5 a5) 4 a4) 3 f) (zu ν 2 (nI o')) ?_ rfl rfl⟩
  refine zIv_snd hv (fun c hc => ?_) hl (by omega) h5
  unfold zsv
  split
  · exact ⟨h, hh, rfl⟩
  · exact hv.1.2 c hc
/-- a dive: the air and the minute from which on the diver is free -/
theorem zDive (hv : zIv B α ν) (hd : d < 4) (hk : k < 96) (h1 : 1 ≤ j) (hj : j ≤ 60) (hdv : zDv α ν d k j) : (∃ a a', α 6 d = nI a ∧ α 6 d - nI (j * zau k) = nI a' ∧ a' < a ∧ a ≤ 200) ∧ (∃ g, g ≤ 1002000 ∧ ν 0 + nI j + nI (j * (10 * (k / 12 + 1)) / 20) = nI g ∧ ∃ r, zrst (nI g) (ν 0) = nI r ∧ j ≤ r ∧ r ≤ 1000) := by
  obtain ⟨t, ⟨ht, et⟩, -⟩ := zIv_c hv
  obtain ⟨a, ha, ea⟩ := hv.2.2.2.1.1 d hd
  have hz : zau k ≤ 9 := by unfold zau; omega
  have hz1 : 2 ≤ zau k := by unfold zau; omega
  have hm : j * zau k ≤ 60 * 9 := Nat.mul_le_mul hj hz
  have hm1 : 1 * 2 ≤ j * zau k := Nat.mul_le_mul h1 hz1
  have hm2 : j * (10 * (k / 12 + 1)) ≤ 60 * (10 * (k / 12 + 1)) := Nat.mul_le_mul_right _ hj
  have hle : j * zau k ≤ a := by
    apply Classical.byContradiction
    intro q
    apply hdv.2
    rw [ea]
    exact nI_lt (by omega) (by omega)
  refine ⟨⟨a, a - j * zau k, ea, by rw [ea, pk_sub hle], by omega, ha⟩, t + j + j * (10 * (k / 12 + 1)) / 20, by omega, by rw [et, nI_add, nI_add], j + j * (10 * (k / 12 + 1)) / 20, ?_, by omega, by omega⟩
  unfold zrst
  rw [et, pk_sub (by omega), show t + j + j * (10 * (k / 12 + 1)) / 20 - t = j + j * (10 * (k / 12 + 1)) / 20 by omega]
  exact if_pos (show (0 : Int32) < _ from nI_lt (a := 0) (by omega) (by omega))
/-- a mark laid -/
theorem zTu_lay {m : Nat} (h : zTu α) (hb : ∀ c, c < 96 → ∃ j, j ≤ m ∧ α 2 c = nI j) (hm : m + 1 < 2 ^ 31) (e : α' 2 = upd (α 2) k (nI (m + 1))) : zTu α' := by
  intro c d hc hd
  rw [e]
  intro e1 e2
  by_cases h1 : c = k
  · by_cases h2 : d = k
    · rw [h1, h2]
    · rw [h1, pk_us, pk_un h2] at e1
      obtain ⟨j, hj, ej⟩ := hb d hd
      have := nI_inj (by omega) (by omega) (e1.trans ej)
      omega
  · by_cases h2 : d = k
    · rw [h2, pk_us, pk_un h1] at e1
      obtain ⟨j, hj, ej⟩ := hb c hc
      have := nI_inj (by omega) (by omega) (e1.symm.trans ej)
      omega
    · rw [pk_un h1, pk_un h2] at e1
      rw [pk_un h1] at e2
      exact h c d hc hd e1 e2
theorem k_name {m : Nat} (hv : zIv B α ν) (hB : B ≤ 900000) (hd : d < 4) (hk : k < 96) (j5 : 5 ≤ j) (hj : j ≤ 60) (m1 : 1 ≤ m) (m3 : m ≤ 3) (H1 : Q (some (.int (-nI 3))) (WX α ν []))
    (H2 : ∀ α' ν' v, zIv (B + 1) α' ν' → (∃ a a', α 6 d = nI a ∧ α' 6 d = nI a' ∧ a' < a ∧ a ≤ 200) → (∃ r, zrst (α' 7 d) (ν' 0) = nI r ∧ j ≤ r ∧ r ≤ 1000) → v = zNm α' (α' 3 k) → (v = 0 ∨ v = nI m) → α' 13 = α 13 → ν' 5 = ν 5 → Q (some (.int v)) (WX α' ν' [])) : sp_L_name [.ref 0, .int (nI d), .int (nI k), .int (nI j), .int (nI m)] (WX α ν []) Q X := by
  refine ⟨α, ν, _, _, _, _, rfl, rfl, α, ν, [], _, _, _, _, rfl, rfl, fun c => absurd c (fun c => c.elim (fun c => c (vp_in_nI hd (by decide))) (fun c => c (vp_in_nI hk (by decide)))), ?_⟩
  intro d' k' hd' hk' e1 e2
  have ed : d = d' := nI_inj (by omega) (by omega) e1
  have ek : k = k' := nI_inj (by omega) (by omega) e2
  subst ed; subst ek
  refine ⟨fun c => absurd c (fun c => c.elim (fun c => c.elim (nI_nlt j5 (by omega)) (nI_nlt hj (by decide))) (fun c => c.elim (nI_nlt m1 (by omega)) (nI_nlt m3 (by decide)))), ?_⟩
  intro j' hj' ej _ _ _ _
  have ejj : j = j' := nI_inj (by omega) (by omega) ej
  subst ejj
  refine ⟨fun _ => ⟨rfl, H1⟩, fun hdv => ⟨_, rfl, ?_⟩⟩
  obtain ⟨⟨a, a', a1, a2, a3, a4⟩, g, hg, eg, r, er, r1, r2⟩ := zDive hv hd hk (by omega) hj hdv
  obtain ⟨h1, ⟨o, h2, h2'⟩, ⟨⟨q, h3, h3a, h3b⟩, h3''⟩, ⟨h4, h4'⟩, h5, h6, h7⟩ := hv
  have e9 : ν 1 + nI 1 = nI (q + 1) := by rw [h3a, nI_add]
  refine H2 _ _ _ ⟨h1, ⟨o, by omega, h2'⟩, ⟨⟨q + 1, by omega, e9, ?_⟩, ?_⟩, ⟨?_, ?_⟩, h5, h6, h7⟩ ⟨a, a', a1, ?_, a3, a4⟩ ⟨r, ?_, r1, r2⟩ rfl ?_ rfl rfl
  · exact zupd_ex (fun c hc => by obtain ⟨i, hi, ei⟩ := h3b c hc; exact ⟨i, by omega, ei⟩) ⟨q + 1, Nat.le_refl _, e9⟩
  · exact zTu_lay (α := α) (k := k) (m := q) h3'' h3b (by omega) (by show upd (α 2) k (ν 1 + nI 1) = _; rw [e9])
  · exact zupd_ex h4 ⟨a', by omega, a2⟩
  · exact zupd_ex h4' ⟨g, hg, eg⟩
  · show upd (α 6) d (α 6 d - nI (j * zau k)) d = nI a'
    rw [pk_us, a2]
  · show zrst (upd (α 7) d (ν 0 + nI j + nI (j * (10 * (k / 12 + 1)) / 20)) d) (ν 0) = nI r
    rw [pk_us, eg, er]
  · by_cases es : α 3 k = -1
    · rw [es, znm_m1]
      exact Or.inl rfl
    · refine Or.inr ?_
      rw [znm_last (T := q + 1) hk es rfl (by rw [pk_us, e9]) (by omega) (by omega) (fun c hc hne => ?_), pk_us]
      obtain ⟨i, hi, ei⟩ := h3b c hc
      exact ⟨i, by omega, by rw [pk_un hne]; exact ei⟩
theorem k_raise {u : Nat} (hv : zIv B α ν) (hd : d < 4) (hk : k < 96) (j1 : 10 ≤ j) (hj : j ≤ 60) (u1 : 1 ≤ u) (hu : u ≤ 100000) (H1 : Q (some (.int (-nI 3))) (WX α ν []))
    (H2 : ∀ α' ν' h, h < 60 → ν 4 = nI h → zIv B α' ν' → ν' 4 = nI (h + 1) → α' 11 h = α' 3 k → α' 12 h = zFn α' ν' (α' 3 k) → zSu α' ν' 6 = zSu α ν 6 + nI u → Q (some (.int (nI h))) (WX α' ν' [])) : sp_L_raise [.ref 0, .int (nI d), .int (nI k), .int (nI j), .int (nI u)] (WX α ν []) Q X := by
  have hck := zIv_ck hv
  have h8 := zIv_8 hv
  obtain ⟨h, hh, hν⟩ : ∃ h, h ≤ 60 ∧ ν 4 = nI h := hv.2.2.2.2.2.1
  refine ⟨α, ν, _, _, _, _, rfl, rfl, α, ν, [], zc ν, h, _, _, _, _, hck, h8, hh, hν, rfl, rfl, fun c => absurd c (fun c => c.elim (fun c => c (vp_in_nI hd (by decide))) (fun c => c (vp_in_nI hk (by decide)))), ?_⟩
  intro d' k' hd' hk' e1 e2
  have ed : d = d' := nI_inj (by omega) (by omega) e1
  have ek : k = k' := nI_inj (by omega) (by omega) e2
  subst ed; subst ek
  refine ⟨fun c => absurd c (fun c => c.elim (fun c => c.elim (nI_nlt j1 (by omega)) (nI_nlt hj (by decide))) (fun c => c.elim (nI_nlt u1 (by omega)) (nI_nlt hu (by decide)))), ?_⟩
  intro j' u' hj' ej hu' eu _ _ _ _
  have ejj : j = j' := nI_inj (by omega) (by omega) ej
  have euu : u = u' := nI_inj (by omega) (by omega) eu
  subst ejj; subst euu
  refine ⟨fun _ => ⟨rfl, H1⟩, fun hdv hb h60 z hz => ?_⟩
  have ez := zHx_eq hz
  obtain ⟨⟨a, a', a1, a2, a3, a4⟩, g, hg, eg, -⟩ := zDive hv hd hk (by omega) hj hdv
  obtain ⟨h1, h2, h3, ⟨h4, h4'⟩, h5, h6, h7⟩ := hv
  refine ⟨fun e => ⟨_, rfl, ?_⟩, fun i f hi e hf e8 => ⟨_, rfl, ?_⟩⟩
  · refine H2 _ _ h h60 hν ⟨h1, h2, h3, ⟨zupd_ex h4 ⟨a', by omega, a2⟩, zupd_ex h4' ⟨g, hg, eg⟩⟩, h5, ⟨h + 1, by omega, rfl⟩, h7⟩ rfl ?_ ?_ (zSu_kept rfl rfl 6)
    · show upd (α 11) h (α 3 k) h = α 3 k
      rw [pk_us]
    · refine Eq.trans (b := zFn α ν (α 3 k)) ?_ (zFn_cg rfl rfl rfl rfl rfl rfl rfl rfl (α 3 k)).symm
      show upd (α 12) h (-1) h = zfd (α 8) (zHx α ν (α 3 k))
      rw [pk_us, ← ez, e]
      rfl
  · refine H2 _ _ h h60 hν ⟨h1, h2, h3, ⟨zupd_ex h4 ⟨a', by omega, a2⟩, zupd_ex h4' ⟨g, hg, eg⟩⟩, h5, ⟨h + 1, by omega, rfl⟩, h7⟩ rfl ?_ ?_ ?_
    · show upd (α 11) h (α 3 k) h = α 3 k
      rw [pk_us]
    · refine Eq.trans (b := zFn α ν (α 3 k)) ?_ (zFn_cg rfl rfl rfl rfl rfl rfl rfl rfl (α 3 k)).symm
      show upd (α 12) h (nI f) h = zfd (α 8) (zHx α ν (α 3 k))
      have := hck.1
      rw [pk_us, ← ez, e, zfd_j _ (by omega), e8]
    · rw [zSu_hi (α := α) (ν := ν) (f := f) rfl rfl 6 hf]
      congr 1
      rw [Int32.add_comm, Int32.sub_add_cancel]
theorem zrst_pos {f y : Int32} (h : ¬ zrst f y = 0) : (0 : Int32) < zrst f y := by
  unfold zrst at h ⊢
  split
  · assumption
  · rename_i g
    rw [if_neg g] at h
    exact absurd rfl h
theorem k_fill (hv : zIv B α ν) (hd : d < 4) (H1 : (0 : Int32) < zrst (α 7 d) (ν 0) → Q (some (.int (-nI 3))) (WX α ν []))
    (H2 : ∀ α' u, u ≤ 200 → zIv B α' ν → α' 6 d = nI 200 → α' 13 = α 13 → Q (some (.int (nI u))) (WX α' ν [])) : sp_L_fill [.ref 0, .int (nI d)] (WX α ν []) Q X := by
  refine ⟨α, ν, _, rfl, rfl, α, ν, [], _, rfl, rfl, fun c => absurd (vp_in_nI hd (by decide)) c, ?_⟩
  intro d' hd' e1
  have ed : d = d' := nI_inj (by omega) (by omega) e1
  subst ed
  refine ⟨fun c => ⟨rfl, H1 (zrst_pos c)⟩, fun _ => ⟨_, rfl, ?_⟩⟩
  obtain ⟨h1, h2, h3, ⟨h4, h4'⟩, h5, h6, h7⟩ := hv
  obtain ⟨a, ha, ea⟩ := h4 d hd
  rw [ea, pk_sub ha]
  refine H2 _ (200 - a) (by omega) ⟨h1, h2, h3, ⟨zupd_ex h4 ⟨200, Nat.le_refl _, rfl⟩, h4'⟩, h5, h6, h7⟩ ?_ rfl
  show upd (α 6) d (nI 200) d = nI 200
  rw [pk_us]
theorem k_claim {f : Nat} (hv : zIv B α ν) (hf : f < 6) (hk : k < 96) (H1 : Q (some (.int (-nI 3))) (WX α ν []))
    (H2 : ∀ α' ν', zIv B α' ν' → zc ν' = zc ν + 1 → zc ν < 40 → zHx α' ν' (α' 3 k) = nI (zc ν) → zFn α' ν' (α' 3 k) = nI f → α' 9 (zc ν) = nI k → α' 13 = α 13 → ν' 5 = ν 5 → Q (some (.int (nI (zc ν)))) (WX α' ν' [])) : sp_L_claim [.ref 0, .int (nI f), .int (nI k)] (WX α ν []) Q X := by
  have hck := zIv_ck hv
  have h8 := zIv_8 hv
  refine ⟨α, ν, _, _, rfl, rfl, α, ν, [], zc ν, _, _, hck, h8, rfl, rfl, fun c => absurd c (fun c => c.elim (fun c => c (vp_in_nI hf (by decide))) (fun c => c (vp_in_nI hk (by decide)))), ?_⟩
  intro f' k' hf' hk' e1 e2 z hz
  have ef : f = f' := nI_inj (by omega) (by omega) e1
  have ek : k = k' := nI_inj (by omega) (by omega) e2
  subst ef; subst ek
  refine ⟨fun _ => ⟨rfl, H1⟩, fun hb ez h40 => ⟨_, rfl, ?_⟩⟩
  have hno : ∀ i, i < zc ν → ¬ zP α ν (α 3 k) i := by
    rcases hz with ⟨b, _⟩ | ⟨_, ⟨i, hi, _, _, ei⟩ | ⟨q, _⟩⟩
    · exact absurd b hb
    · exact absurd (ei.symm.trans ez) (nI_ne_m1 (by omega))
    · exact q
  obtain ⟨t, ⟨ht, et⟩, ⟨hc1, hc2⟩, hcj⟩ := zIv_c hv
  have hzc : zc (zu ν 3 (nI (zc ν + 1))) = zc ν + 1 := by
    show (nI (zc ν + 1)).toNatClampNeg = zc ν + 1
    exact nI_clamp (by omega)
  have hH : zHx (zu (zu (zu α 8 (upd (α 8) (zc ν) (nI f))) 9 (upd (α 9) (zc ν) (nI k))) 10 (upd (α 10) (zc ν) (ν 0 + nI 28800))) (zu ν 3 (nI (zc ν + 1))) (α 3 k) = nI (zc ν) := by
    refine (zHx_eq ?_).symm
    rw [hzc]
    refine Or.inr ⟨hb, Or.inl ⟨zc ν, Nat.lt_succ_self _, ⟨?_, ?_⟩, fun i hi p => ?_, rfl⟩⟩
    · show ν 0 < upd (α 10) (zc ν) (ν 0 + nI 28800) (zc ν)
      rw [pk_us, et, nI_add]
      exact nI_lt (by omega) (by omega)
    · show α 3 (upd (α 9) (zc ν) (nI k) (zc ν)).toNatClampNeg = α 3 k
      rw [pk_us, nI_clamp (by omega)]
    · have hne : i ≠ zc ν := by omega
      have p1 : ν 0 < upd (α 10) (zc ν) (ν 0 + nI 28800) i := p.1
      have p2 : α 3 (upd (α 9) (zc ν) (nI k) i).toNatClampNeg = α 3 k := p.2
      rw [pk_un hne] at p1 p2
      exact hno i hi ⟨p1, p2⟩
  refine H2 _ _ ?_ hzc h40 hH ?_ ?_ rfl rfl
  · obtain ⟨h1, h2, h3, h4, -, h6, h7⟩ := hv
    refine ⟨h1, h2, h3, h4, ⟨t, zc ν + 1, ⟨ht, et⟩, ⟨by omega, rfl⟩, fun i hi => ?_⟩, h6, h7⟩
    show (∃ g, g < 6 ∧ upd (α 8) (zc ν) (nI f) i = nI g) ∧ (∃ b, b < 96 ∧ upd (α 9) (zc ν) (nI k) i = nI b) ∧ ∃ b, b ≤ t ∧ upd (α 10) (zc ν) (ν 0 + nI 28800) i = nI (b + 28800)
    by_cases e : i = zc ν
    · rw [e, pk_us, pk_us, pk_us]
      exact ⟨⟨f, hf, rfl⟩, ⟨k, hk, rfl⟩, t, Nat.le_refl _, by rw [et, nI_add]⟩
    · rw [pk_un e, pk_un e, pk_un e]
      exact hcj i (by omega)
  · unfold zFn
    show zfd (upd (α 8) (zc ν) (nI f)) (zHx _ _ (α 3 k)) = nI f
    rw [hH, zfd_j _ (by omega), pk_us]
  · show upd (α 9) (zc ν) (nI k) (zc ν) = nI k
    rw [pk_us]
/-- where a shape has a finder, no claim is made -/
theorem k_claim_no {f : Nat} (hv : zIv B α ν) (hf : f < 6) (hk : k < 96) (hx : ¬ zHx α ν (α 3 k) = -1) (H1 : Q (some (.int (-nI 3))) (WX α ν [])) : sp_L_claim [.ref 0, .int (nI f), .int (nI k)] (WX α ν []) Q X := by
  refine ⟨α, ν, _, _, rfl, rfl, α, ν, [], zc ν, _, _, zIv_ck hv, zIv_8 hv, rfl, rfl, fun c => absurd c (fun c => c.elim (fun c => c (vp_in_nI hf (by decide))) (fun c => c (vp_in_nI hk (by decide)))), ?_⟩
  intro f' k' hf' hk' e1 e2 z hz
  have ek : k = k' := nI_inj (by omega) (by omega) e2
  subst ek
  have ez := zHx_eq hz
  exact ⟨fun _ => ⟨rfl, H1⟩, fun _ e _ => absurd (ez.symm.trans e) hx⟩
theorem k_renew (hv : zIv B α ν) (hj : j < zc ν) (H1 : ¬ ν 0 < α 10 j → Q (some (.int (-nI 3))) (WX α ν []))
    (H2 : ∀ α' m, ν 0 < α 10 j → α 10 j = ν 0 + nI m → 1 ≤ m → m ≤ 28800 → zIv B α' ν → α' 10 j = ν 0 + nI 28800 → α' 13 = α 13 → Q (some (.int (nI m))) (WX α' ν [])) : sp_L_renew [.ref 0, .int (nI j)] (WX α ν []) Q X := by
  obtain ⟨t, ⟨ht, et⟩, ⟨hc1, hc2⟩, hcj⟩ := zIv_c hv
  refine ⟨α, ν, _, rfl, rfl, α, ν, [], zc ν, _, hc1, hc2, rfl, rfl, fun c => absurd (vp_in_nI hj (by omega)) c, ?_⟩
  intro j' hj' e1
  have ej : j = j' := nI_inj (by omega) (by omega) e1
  subst ej
  refine ⟨fun c => ⟨rfl, H1 c⟩, fun c => ⟨_, rfl, ?_⟩⟩
  obtain ⟨-, -, b, hb, eb⟩ := hcj j hj
  have hlt : t < b + 28800 := by
    have h := c
    rw [et, eb] at h
    exact (nI_ltI (by omega) (by omega)).mp h
  have em : α 10 j - ν 0 = nI (b + 28800 - t) := by rw [eb, et, pk_sub (by omega)]
  rw [em]
  refine H2 _ (b + 28800 - t) c (by rw [eb, et, nI_add]; congr 1; omega) (by omega) (by omega) ?_ ?_ rfl
  · obtain ⟨h1, h2, h3, h4, -, h6, h7⟩ := hv
    refine ⟨h1, h2, h3, h4, ⟨t, zc ν, ⟨ht, et⟩, ⟨hc1, hc2⟩, fun i hi => ?_⟩, h6, h7⟩
    show (∃ g, g < 6 ∧ α 8 i = nI g) ∧ (∃ b, b < 96 ∧ α 9 i = nI b) ∧ ∃ b, b ≤ t ∧ upd (α 10) j (ν 0 + nI 28800) i = nI (b + 28800)
    obtain ⟨q1, q2, q3⟩ := hcj i hi
    refine ⟨q1, q2, ?_⟩
    by_cases e : i = j
    · rw [e, pk_us]
      exact ⟨t, Nat.le_refl _, by rw [et, nI_add]⟩
    · rw [pk_un e]
      exact q3
  · show upd (α 10) j (ν 0 + nI 28800) j = ν 0 + nI 28800
    rw [pk_us]
theorem k_advance {t : Nat} (hv : zIv B α ν) (et : ν 0 = nI t) (j1 : 1 ≤ j) (hj : j ≤ 14400) (ht : t + j ≤ 1000000) (H : ∀ ν', zIv B α ν' → ν' 5 = ν 5 → Q (some (.int (nI (t + j)))) (WX α ν' [])) : sp_X4_advance [.ref 0, .int (nI j)] (WX α ν []) Q X := by
  refine ⟨α, ν, [], t, _, by omega, et, rfl, rfl, fun c => absurd c (fun c => c.elim (nI_nlt j1 (by omega)) (nI_nlt hj (by decide))), ?_⟩
  intro j' hj' e _ _
  have ej : j = j' := nI_inj (by omega) (by omega) e
  subst ej
  refine ⟨fun c => absurd c (by omega), fun _ => H _ ?_ rfl⟩
  obtain ⟨t', ⟨ht', et'⟩, ⟨hc1, hc2⟩, hcj⟩ := zIv_c hv
  have ett : t = t' := nI_inj (by omega) (by omega) (et.symm.trans et')
  subst ett
  obtain ⟨h1, h2, h3, h4, -, h6, h7⟩ := hv
  refine ⟨h1, h2, h3, h4, ⟨t + j, zc ν, ⟨ht, rfl⟩, ⟨hc1, hc2⟩, fun i hi => ?_⟩, h6, h7⟩
  obtain ⟨q1, q2, b, hb, eb⟩ := hcj i hi
  exact ⟨q1, q2, b, by omega, eb⟩
end ZKP
