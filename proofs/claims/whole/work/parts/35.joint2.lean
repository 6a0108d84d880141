/-! ===== THE CALLS, CLASS AND MODEL TOGETHER: titles, divers ===== -/
section ZJ2
variable {n : Nat} {α : Nat → Nat → Int32} {ν : Nat → Int32} {β : Nat → Nat → Int32} {μ : Nat → Int32} {f : Nat → Int64}
/-- what titles write is told nowhere else -/
theorem zRel_ttl {a14 b14 : Nat → Int32} {y : Int32} {q : Nat} {v : Int32} (hr : zRel n α ν β μ) (hq : q ≤ 16) : zRel (n + 1) (zu α 14 a14) (zu (zu ν 7 y) 6 (nI q)) (zu β 14 b14) (zu (zTh μ 0) 6 v) := by
  obtain ⟨h1, h2, ⟨o, h3, h3'⟩, ⟨k, h4, h4'⟩, h5, h6, h7, h8, h9, h10, h11, h12⟩ := hr
  exact ⟨h1, h2, ⟨o, by omega, h3'⟩, ⟨k, by omega, h4'⟩, h5, h6, h7, h8, h9, h10, h11, q, hq, rfl⟩
theorem zRel_many {v : Int32} (hr : zRel n α ν β μ) : zRel (n + 1) α ν β (zu (zTh μ 0) 6 v) := by
  obtain ⟨h1, h2, ⟨o, h3, h3'⟩, ⟨k, h4, h4'⟩, h5, h6, h7, h8, h9, h10, h11, h12⟩ := hr
  exact ⟨h1, h2, ⟨o, by omega, h3'⟩, ⟨k, by omega, h4'⟩, h5, h6, h7, h8, h9, h10, h11, h12⟩
theorem j_titleAt (hr : zRel n α ν β μ) (x p : Int32) : zJ sp_L_titleAt sp_X5_titleAt [.ref 0, .int x, .int p, .ref 36] [.ref 21, .int x, .int p] n α ν β μ f := by
  intro N1 X1 H
  obtain ⟨c, hc, hcm, h8, h8m, hrun, hho⟩ := zRel_c hr
  have e3 := zRel_3 hr
  have hl := hr.2.1.1
  have hlm := hr.2.1.2
  obtain ⟨q, hq, hq6⟩ : ∃ q, q ≤ 16 ∧ ν 6 = nI q := hr.2.2.2.2.2.2.2.2.2.2.2
  have e8 : α 8 = β 8 := hr.1.2.2.1.1
  refine ⟨α, ν, β, μ, f, x, p, rfl, rfl, α, ν, _, c, q, x, p, hc, h8, hq, hq6, hl, rfl, rfl, fun g => ⟨1, by simp, H _ _ _ _ (fun N2 X2 hN => ⟨α, ν, β, μ, _, c, x, p, hcm, h8m, fun k hk => zLow_v hlm hk, rfl, rfl, fun _ => hN _ _ (zEnd_x (t := 1) (zRel_th hr) (by decide) (by decide) rfl), fun k hk e d => absurd g (fun q => q.elim (fun q => q (e ▸ vp_in_nI hk (by decide))) d)⟩)⟩, ?_⟩
  rintro k hk rfl hp
  refine ⟨fun g => ⟨_, _, _, rfl, rfl, H _ _ _ _ (fun N2 X2 hN => ⟨α, ν, β, μ, _, c, _, p, hcm, h8m, fun k hk => zLow_v hlm hk, rfl, rfl, fun q => absurd q (fun q => q.elim (fun q => q (vp_in_nI hk (by decide))) hp), fun k' hk' e _ => ?_⟩)⟩, fun s fd y hs es hfd => ⟨_, _, _, rfl, rfl, H _ _ _ _ (fun N2 X2 hN => ⟨_, _, β, μ, _, c, _, p, hcm, h8m, fun k hk => zLow_v hlm hk, rfl, rfl, fun q => absurd q (fun q => q.elim (fun q => q (vp_in_nI hk (by decide))) hp), fun k' hk' e _ => ?_⟩)⟩⟩
  · have ek : k = k' := nI_inj (by omega) (by omega) e
    subst ek
    exact ⟨fun _ => hN _ _ (zEnd_r (zRel_many hr) rfl (zupdL _ _)), fun s' fd' hs' es' _ => absurd ((e3 k hk).symm.trans g) (fun q => nI_ne_m1 (show s' < 2 ^ 31 by omega) (es'.symm.trans q))⟩
  · have ek : k = k' := nI_inj (by omega) (by omega) e
    subst ek
    refine ⟨fun g => absurd g (fun q => nI_ne_m1 (show s < 2 ^ 31 by omega) (es.symm.trans ((e3 k hk).trans q))), fun s' fd' hs' es' hfd' => hN _ _ ?_⟩
    have ess : s = s' := nI_inj (by omega) (by omega) (es.symm.trans ((e3 k hk).trans es'))
    subst ess
    have hfe : fd = fd' ∧ ∀ g, fd = some g → g < 6 := by
      obtain ⟨z, hz, hz2⟩ := hfd
      obtain ⟨z', hz', hz2'⟩ := hfd'
      have ez : z = z' := zHM_one ((hho _ _).mp hz) hz'
      subst ez
      rcases hz2 with ⟨a1, a2⟩ | ⟨j, g, a1, a2, a3, a4, a5⟩
      · rcases hz2' with ⟨b1, b2⟩ | ⟨j', g', b1, b2, b3, b4, b5⟩
        · exact ⟨a2.trans b2.symm, fun g e => by rw [a2] at e; cases e⟩
        · exact absurd (b3.symm.trans a1) (nI_ne_m1 (by have := hc.1; omega))
      · rcases hz2' with ⟨b1, b2⟩ | ⟨j', g', b1, b2, b3, b4, b5⟩
        · exact absurd (a3.symm.trans b1) (nI_ne_m1 (by have := hc.1; omega))
        · have ej : j = j' := nI_inj (by have := hc.1; omega) (by have := hc.1; omega) (a3.symm.trans b3)
          subst ej
          have eg : g = g' := nI_inj (by omega) (by omega) (a4.symm.trans ((congrFun e8 j).trans b4))
          subst eg
          exact ⟨a5.trans b5.symm, fun g2 e => by rw [a5] at e; cases e; exact a2⟩
    obtain ⟨rfl, hlt⟩ := hfe
    have et : zTt α s fd = zTtM β s fd := by
      unfold zTt zTtM
      rw [zRel_nm hr, zcnt_congr e3]
    rw [et]
    have hl8 : (zTtM β s fd).length ≤ 8 := zTtl_l hlt
    exact zEnd_r (zRel_ttl hr (by omega)) rfl (zupdL _ _)
/-- a dive -/
theorem zRel_dive (hr : zRel n α ν β μ) {d k j : Nat} (hd : d < 4) (hk : k < 96) (hj : j ≤ 60) (hdv : zDv α ν d k j) : (α 6 d - nI (j * zau k) = β 6 d - nI (j * zau k)) ∧ (∃ a, a ≤ 200 ∧ α 6 d - nI (j * zau k) = nI a) ∧ (∃ g, g ≤ 1002000 ∧ ν 0 + nI j + nI (j * (10 * (k / 12 + 1)) / 20) = nI g) ∧ (ν 0 + nI j + nI (j * (10 * (k / 12 + 1)) / 20) = μ 0 + nI j + nI (j * (10 * (k / 12 + 1)) / 20)) := by
  obtain ⟨⟨-, ⟨e6, -⟩, -⟩, -, -, -, -, ⟨t, ht, t1, t2⟩, h7, -⟩ := hr
  obtain ⟨a, ha, ea⟩ := h7 d hd
  have hz : zau k ≤ 9 := by unfold zau; omega
  have hm : j * zau k ≤ 60 * 9 := Nat.mul_le_mul hj hz
  have hm2 : j * (10 * (k / 12 + 1)) ≤ 60 * (10 * (k / 12 + 1)) := Nat.mul_le_mul_right _ hj
  have hle : j * zau k ≤ a := by
    apply Classical.byContradiction
    intro q
    apply hdv.2
    rw [ea]
    exact nI_lt (by omega) (by omega)
  refine ⟨by rw [e6], ⟨a - j * zau k, by omega, by rw [ea, pk_sub hle]⟩, ⟨t + j + j * (10 * (k / 12 + 1)) / 20, by omega, by rw [t1, nI_add, nI_add]⟩, by rw [t1, t2]⟩
theorem zupd_ex {g : Nat → Int32} {v : Int32} {N M d : Nat} (h : ∀ d, d < N → ∃ a, a ≤ M ∧ g d = nI a) (hv : ∃ a, a ≤ M ∧ v = nI a) : ∀ d', d' < N → ∃ a, a ≤ M ∧ upd g d v d' = nI a := fun d' hd' => by
  by_cases e : d' = d
  · rw [e, pk_us]; exact hv
  · rw [pk_un e]; exact h d' hd'
/-- a mark laid -/
theorem zTu_lay {α α' : Nat → Nat → Int32} {k m : Nat} (h : zTu α) (hb : ∀ c, c < 96 → ∃ j, j ≤ m ∧ α 2 c = nI j) (hm : m + 1 < 2 ^ 31) (e : α' 2 = upd (α 2) k (nI (m + 1))) : zTu α' := by
  intro c d hc hd
  rw [e]
  intro e1 e2
  by_cases h1 : c = k
  · by_cases h2 : d = k
    · rw [h1, h2]
    · rw [h1, pk_us, pk_un h2] at e1
      obtain ⟨j, hj, ej⟩ := hb d hd
      have := nI_inj (by omega) (by omega) (e1.trans ej)
      omega
  · by_cases h2 : d = k
    · rw [h2, pk_us, pk_un h1] at e1
      obtain ⟨j, hj, ej⟩ := hb c hc
      have := nI_inj (by omega) (by omega) (e1.symm.trans ej)
      omega
    · rw [pk_un h1, pk_un h2] at e1
      rw [pk_un h1] at e2
      exact h c d hc hd e1 e2
theorem j_name (hn : n ≤ 512) (hr : zRel n α ν β μ) (x y m a : Int32) : zJ sp_L_name sp_X5_name [.ref 0, .int x, .int y, .int m, .int a, .ref 36] [.ref 21, .int x, .int y, .int m, .int a] n α ν β μ f := by
  intro N1 X1 H
  have e3 := zRel_3 hr
  refine ⟨α, ν, β, μ, f, x, y, m, a, rfl, rfl, α, ν, _, x, y, m, a, rfl, rfl, fun g => ⟨1, by simp, H _ _ _ _ (fun N2 X2 hN => ⟨α, ν, β, μ, _, x, y, m, a, rfl, rfl, fun _ => hN _ _ (zEnd_x (t := 1) (zRel_th hr) (by decide) (by decide) rfl), fun d k hd hk e1 e2 => absurd g (fun q => q.elim (fun q => q (e1 ▸ vp_in_nI hd (by decide))) (fun q => q (e2 ▸ vp_in_nI hk (by decide))))⟩)⟩, ?_⟩
  rintro d k hd hk rfl rfl
  have hok : ¬ (¬ vp_in (nI d) 4 ∨ ¬ vp_in (nI k) 96) := fun q => q.elim (fun q => q (vp_in_nI hd (by decide))) (fun q => q (vp_in_nI hk (by decide)))
  refine ⟨fun g => ⟨2, by simp, H _ _ _ _ (fun N2 X2 hN => ⟨α, ν, β, μ, _, _, _, m, a, rfl, rfl, fun q => absurd q hok, fun d' k' hd' hk' e1 e2 => ⟨fun _ => hN _ _ (zEnd_x (t := 2) (zRel_th hr) (by decide) (by decide) rfl), fun j hj ej b1 b2 b3 b4 => absurd g (fun q => q.elim (fun q => q.elim b1 b2) (fun q => q.elim b3 b4))⟩⟩)⟩, ?_⟩
  rintro j hj rfl b1 b2 b3 b4
  have hb : ¬ ((nI j < nI 5 ∨ nI 60 < nI j) ∨ (a < nI 1 ∨ nI 3 < a)) := fun q => q.elim (fun q => q.elim b1 b2) (fun q => q.elim b3 b4)
  refine ⟨fun g => ⟨3, by simp, H _ _ _ _ (fun N2 X2 hN => ⟨α, ν, β, μ, _, _, _, _, a, rfl, rfl, fun q => absurd q hok, fun d' k' hd' hk' e1 e2 => ⟨fun q => absurd q hb, fun j' hj' ej _ _ _ _ => ?_⟩⟩)⟩, fun g => ⟨_, _, _, rfl, rfl, H _ _ _ _ (fun N2 X2 hN => ⟨_, _, β, μ, _, _, _, _, a, rfl, rfl, fun q => absurd q hok, fun d' k' hd' hk' e1 e2 => ⟨fun q => absurd q hb, fun j' hj' ej _ _ _ _ => ?_⟩⟩)⟩⟩
  · have ed : d = d' := nI_inj (by omega) (by omega) e1
    have ek : k = k' := nI_inj (by omega) (by omega) e2
    have ejj : j = j' := nI_inj (by omega) (by omega) ej
    subst ed; subst ek; subst ejj
    exact ⟨fun _ => hN _ _ (zEnd_x (t := 3) (zRel_th hr) (by decide) (by decide) rfl), fun q => absurd ((zRel_dv hr hd).mpr q) g⟩
  · have ed : d = d' := nI_inj (by omega) (by omega) e1
    have ek : k = k' := nI_inj (by omega) (by omega) e2
    have ejj : j = j' := nI_inj (by omega) (by omega) ej
    subst ed; subst ek; subst ejj
    refine ⟨fun q => absurd ((zRel_dv hr hd).mp g) q, fun _ => hN _ _ ?_⟩
    obtain ⟨d1, d2, d3, d4⟩ := zRel_dive hr hd hk hj g
    obtain ⟨⟨⟨e0, e1, e2⟩, ⟨e6, e7⟩, hx⟩, h2, ⟨o, h3, h3'⟩, ⟨q, h4, h4a, h4b, h4c⟩, h5, h6, h7, h8, h9, h10, h11, h12⟩ := hr
    refine zEnd_r ⟨⟨⟨e0, ?_, ?_⟩, ⟨?_, ?_⟩, hx⟩, h2, ⟨o, by omega, h3'⟩, ⟨q + 1, by omega, ?_, ?_, ?_⟩, ?_, h6, zupd_ex h7 d2, zupd_ex h8 d3, h9, h10, h11, h12⟩ rfl ?_
    · show upd (α 1) k a = upd (β 1) k a
      rw [e1]
    · show upd (α 2) k (ν 1 + nI 1) = upd (β 2) k (μ 1 + nI 1)
      rw [e2, h4a, h4b]
    · show upd (α 6) d (α 6 d - nI (j * zau k)) = upd (β 6) d (β 6 d - nI (j * zau k))
      rw [e6]
    · show upd (α 7) d (ν 0 + nI j + nI (j * (10 * (k / 12 + 1)) / 20)) = upd (β 7) d (μ 0 + nI j + nI (j * (10 * (k / 12 + 1)) / 20))
      rw [e7, d4]
    · show ν 1 + nI 1 = nI (q + 1)
      rw [h4a, nI_add]
    · show μ 1 + nI 1 = nI (q + 1)
      rw [h4b, nI_add]
    · have e9 : ν 1 + nI 1 = nI (q + 1) := by rw [h4a, nI_add]
      exact zupd_ex (fun c hc => by obtain ⟨j, hj, ej⟩ := h4c c hc; exact ⟨j, by omega, ej⟩) ⟨q + 1, Nat.le_refl _, e9⟩
    · have e9 : ν 1 + nI 1 = nI (q + 1) := by rw [h4a, nI_add]
      exact zTu_lay (α := α) (k := k) (m := q) h5 h4c (by omega) (by show upd (α 2) k (ν 1 + nI 1) = _; rw [e9])
    · rw [zupdL, e1, e2, h4a, h4b, e3 k hk, znm_congr e3]
theorem j_fill (hr : zRel n α ν β μ) (x : Int32) : zJ sp_L_fill sp_X5_fill [.ref 0, .int x, .ref 36] [.ref 21, .int x] n α ν β μ f := by
  intro N1 X1 H
  refine ⟨α, ν, β, μ, f, x, rfl, rfl, α, ν, _, x, rfl, rfl, fun g => ⟨1, by simp, H _ _ _ _ (fun N2 X2 hN => ⟨α, ν, β, μ, _, x, rfl, rfl, fun _ => hN _ _ (zEnd_x (t := 1) (zRel_th hr) (by decide) (by decide) rfl), fun d hd e => absurd (e ▸ vp_in_nI hd (by decide)) g⟩)⟩, ?_⟩
  rintro d hd rfl
  have hfr := (zRel_free hr hd).1
  refine ⟨fun g => ⟨2, by simp, H _ _ _ _ (fun N2 X2 hN => ⟨α, ν, β, μ, _, _, rfl, rfl, fun q => absurd (vp_in_nI hd (by decide)) q, fun d' hd' e => ?_⟩)⟩, fun g => ⟨_, _, _, rfl, rfl, H _ _ _ _ (fun N2 X2 hN => ⟨_, _, β, μ, _, _, rfl, rfl, fun q => absurd (vp_in_nI hd (by decide)) q, fun d' hd' e => ?_⟩)⟩⟩
  · have ed : d = d' := nI_inj (by omega) (by omega) e
    subst ed
    exact ⟨fun _ => hN _ _ (zEnd_x (t := 2) (zRel_th hr) (by decide) (by decide) rfl), fun q => absurd (hfr.mpr q) g⟩
  · have ed : d = d' := nI_inj (by omega) (by omega) e
    subst ed
    refine ⟨fun q => absurd q (hfr.mp g), fun _ => hN _ _ ?_⟩
    have hr1 := zRel_th (t := 0) hr
    obtain ⟨⟨e0, ⟨e6, e7⟩, hx⟩, h2, h3, h4, h5, h6, h7, h8, h9, h10, h11, h12⟩ := hr1
    refine zEnd_r ⟨⟨e0, ⟨?_, e7⟩, hx⟩, h2, h3, h4, h5, h6, zupd_ex h7 ⟨200, by decide, rfl⟩, h8, h9, h10, h11, h12⟩ rfl ?_
    · show upd (α 6) d (nI 200) = upd (β 6) d (nI 200)
      rw [e6]
    · rw [zupdL, e6]
theorem j_air (hr : zRel n α ν β μ) (x : Int32) : zJ sp_L_air sp_X5_air [.ref 0, .int x, .ref 36] [.ref 21, .int x] n α ν β μ f := by
  intro N1 X1 H
  refine ⟨α, ν, β, μ, f, x, rfl, rfl, α, ν, _, x, rfl, rfl, fun g => ⟨1, by simp, H _ _ _ _ (fun N2 X2 hN => ⟨α, ν, β, μ, _, x, rfl, rfl, fun _ => hN _ _ (zEnd_x (t := 1) (zRel_th hr) (by decide) (by decide) rfl), fun d hd e => absurd (e ▸ vp_in_nI hd (by decide)) g⟩)⟩, ?_⟩
  rintro d hd rfl
  refine ⟨_, _, _, rfl, rfl, H _ _ _ _ (fun N2 X2 hN => ⟨_, _, β, μ, _, _, rfl, rfl, fun q => absurd (vp_in_nI hd (by decide)) q, fun d' hd' e => hN _ _ ?_⟩)⟩
  have ed : d = d' := nI_inj (by omega) (by omega) e
  subst ed
  exact zEnd_r (zRel_th hr) rfl (by rw [zupdL, hr.1.2.1.1])
theorem j_rest (hr : zRel n α ν β μ) (x : Int32) : zJ sp_L_rest sp_X5_rest [.ref 0, .int x, .ref 36] [.ref 21, .int x] n α ν β μ f := by
  intro N1 X1 H
  refine ⟨α, ν, β, μ, f, x, rfl, rfl, α, ν, _, x, rfl, rfl, fun g => ⟨1, by simp, H _ _ _ _ (fun N2 X2 hN => ⟨α, ν, β, μ, _, x, rfl, rfl, fun _ => hN _ _ (zEnd_x (t := 1) (zRel_th hr) (by decide) (by decide) rfl), fun d hd e => absurd (e ▸ vp_in_nI hd (by decide)) g⟩)⟩, ?_⟩
  rintro d hd rfl
  refine ⟨_, _, _, rfl, rfl, H _ _ _ _ (fun N2 X2 hN => ⟨_, _, β, μ, _, _, rfl, rfl, fun q => absurd (vp_in_nI hd (by decide)) q, fun d' hd' e => hN _ _ ?_⟩)⟩
  have ed : d = d' := nI_inj (by omega) (by omega) e
  subst ed
  exact zEnd_r (zRel_th hr) rfl (by rw [zupdL, (zRel_free hr hd).2])
theorem j_longest (hr : zRel n α ν β μ) (x y : Int32) : zJ sp_L_longest sp_X5_longest [.ref 0, .int x, .int y, .ref 36] [.ref 21, .int x, .int y] n α ν β μ f := by
  intro N1 X1 H
  have h7 := hr.2.2.2.2.2.2.1
  have e6 : α 6 = β 6 := hr.1.2.1.1
  have h7m : ∀ d, d < 4 → ∃ a, a ≤ 200 ∧ β 6 d = nI a := by rw [← e6]; exact h7
  refine ⟨α, ν, β, μ, f, x, y, rfl, rfl, α, ν, _, x, y, h7, rfl, rfl, fun g => ⟨1, by simp, H _ _ _ _ (fun N2 X2 hN => ⟨α, ν, β, μ, _, x, y, h7m, rfl, rfl, fun _ => hN _ _ (zEnd_x (t := 1) (zRel_th hr) (by decide) (by decide) rfl), fun d k a hd hk e1 e2 _ _ => absurd g (fun q => q.elim (fun q => q (e1 ▸ vp_in_nI hd (by decide))) (fun q => q (e2 ▸ vp_in_nI hk (by decide))))⟩)⟩, ?_⟩
  rintro d k a hd hk rfl rfl ha ea
  have hok : ¬ (¬ vp_in (nI d) 4 ∨ ¬ vp_in (nI k) 96) := fun q => q.elim (fun q => q (vp_in_nI hd (by decide))) (fun q => q (vp_in_nI hk (by decide)))
  refine ⟨_, _, _, rfl, rfl, H _ _ _ _ (fun N2 X2 hN => ⟨_, _, β, μ, _, _, _, h7m, rfl, rfl, fun q => absurd q hok, fun d' k' a' hd' hk' e1 e2 ha' ea' => hN _ _ ?_⟩)⟩
  have ed : d = d' := nI_inj (by omega) (by omega) e1
  have ek : k = k' := nI_inj (by omega) (by omega) e2
  subst ed; subst ek
  have eaa : a = a' := nI_inj (by omega) (by omega) (ea.symm.trans ((congrFun e6 d).trans ea'))
  subst eaa
  exact zEnd_r (zRel_th hr) rfl (zupdL _ _)
end ZJ2
