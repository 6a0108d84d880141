/-! ===== THE CALLS, CLASS AND MODEL TOGETHER ===== -/
section ZJ
variable {n : Nat} {α : Nat → Nat → Int32} {ν : Nat → Int32} {β : Nat → Nat → Int32} {μ : Nat → Int32} {f : Nat → Int64}
theorem zRel_f {n : Nat} {α : Nat → Nat → Int32} {ν : Nat → Int32} {β : Nat → Nat → Int32} {μ : Nat → Int32} (hn : n ≤ 512) (h : zRel n α ν β μ) : ∃ o, zOu α ν o ∧ o ≤ 97 * n := by
  obtain ⟨-, -, ⟨o, h1, h2, h3⟩, -⟩ := h
  exact ⟨o, ⟨by omega, h2, h3⟩, h1⟩
/-- heights and shapes anew -/
theorem zRel_snd {h f3 g3 a4 a5 b4 : Nat → Int32} {o' : Nat} (hr : zRel n α ν β μ) (ho : o' ≤ 97 * (n + 1)) (l1 : zLow h f3) (l2 : zLow h g3) (h5 : ∀ c, c < 96 → ∃ t, a5 c = nI t ∧ t ≤ o') : zRel (n + 1) (zu (zu (zu (zu α 0 h) 5 a5) 4 a4) 3 f3) (zu ν 2 (nI o')) (zu (zu (zu β 0 h) 4 b4) 3 g3) (zTh μ 0) := by
  obtain ⟨⟨⟨e0, e1, e2⟩, h1⟩, h2, h3, ⟨k, h4, h4'⟩, h5', h6, h7, h8, h9, h10, h11, h12⟩ := hr
  exact ⟨⟨⟨rfl, e1, e2⟩, h1⟩, ⟨l1, l2⟩, ⟨o', ho, rfl, h5⟩, ⟨k, by omega, h4'⟩, h5', h6, h7, h8, h9, h10, h11, h12⟩
theorem j_sound (hn : n ≤ 512) (hr : zRel n α ν β μ) (x h : Int32) : zJ sp_L_sound sp_X5_sound [.ref 0, .int x, .int h, .ref 36] [.ref 21, .int x, .int h] n α ν β μ f := by
  intro N1 X1 H
  obtain ⟨o, hou, ho⟩ := zRel_f hn hr
  have e0 : α 0 = β 0 := hr.1.1.1
  refine ⟨α, ν, β, μ, f, x, h, rfl, rfl, α, ν, _, o, x, h, hou, rfl, rfl, fun c => ⟨1, by simp, H _ _ _ _ (fun N2 X2 hN => ⟨α, ν, β, μ, _, x, h, rfl, rfl, fun _ => hN _ _ (zEnd_x (t := 1) (zRel_th hr) (by decide) (by decide) rfl), fun k hk e => absurd (e ▸ vp_in_nI hk (by decide)) c⟩)⟩, ?_⟩
  rintro k hk rfl
  refine ⟨fun c => ⟨2, by simp, H _ _ _ _ (fun N2 X2 hN => ⟨α, ν, β, μ, _, _, h, rfl, rfl, fun q => absurd (vp_in_nI hk (by decide)) q, fun k' hk' e => ⟨fun _ => hN _ _ (zEnd_x (t := 2) (zRel_th hr) (by decide) (by decide) rfl), fun a b => absurd c (fun q => q.elim a b)⟩⟩)⟩, fun a b f3 a4 a5 o' l1 l2 l3 => ⟨_, _, _, rfl, rfl, H _ _ _ _ (fun N2 X2 hN => ⟨_, _, β, μ, _, _, h, rfl, rfl, fun q => absurd (vp_in_nI hk (by decide)) q, fun k' hk' e => ⟨fun c => absurd c (fun q => q.elim a b), fun _ _ g3 b4 m1 => hN _ _ ?_⟩⟩)⟩⟩
  have ek : k = k' := nI_inj (by omega) (by omega) e
  subst ek
  refine zEnd_r ?_ rfl ?_
  · rw [e0] at l1 ⊢
    exact zRel_snd hr (by omega) l1 m1 l3
  · rw [zupdL, e0]
theorem j_sweep (hn : n ≤ 512) (hr : zRel n α ν β μ) (x m h : Int32) : zJ sp_L_sweep sp_X5_sweep [.ref 0, .int x, .int m, .int h, .ref 36] [.ref 21, .int x, .int m, .int h] n α ν β μ f := by
  intro N1 X1 H
  obtain ⟨o, hou, ho⟩ := zRel_f hn hr
  have e0 : α 0 = β 0 := hr.1.1.1
  refine ⟨α, ν, β, μ, f, x, m, h, rfl, rfl, α, ν, _, o, x, m, h, hou, rfl, rfl, fun c => ⟨1, by simp, H _ _ _ _ (fun N2 X2 hN => ⟨α, ν, β, μ, _, x, m, h, rfl, rfl, fun _ => hN _ _ (zEnd_x (t := 1) (zRel_th hr) (by decide) (by decide) rfl), fun k hk e => absurd (e ▸ vp_in_nI hk (by decide)) c⟩)⟩, ?_⟩
  rintro k hk rfl
  refine ⟨fun c => ⟨2, by simp, H _ _ _ _ (fun N2 X2 hN => ⟨α, ν, β, μ, _, _, m, h, rfl, rfl, fun q => absurd (vp_in_nI hk (by decide)) q, fun k' hk' e => ?_⟩)⟩, fun j ej hj a a' b b' f3 a4 a5 o' l1 l2 l3 => ⟨_, _, _, rfl, rfl, H _ _ _ _ (fun N2 X2 hN => ⟨_, _, β, μ, _, _, m, h, rfl, rfl, fun q => absurd (vp_in_nI hk (by decide)) q, fun k' hk' e => ?_⟩)⟩⟩
  · have ek : k = k' := nI_inj (by omega) (by omega) e
    subst ek
    exact ⟨fun _ => hN _ _ (zEnd_x (t := 2) (zRel_th hr) (by decide) (by decide) rfl), fun i ei hi a a' b b' => absurd c (fun q => q.elim (fun q => q.elim a a') (fun q => q.elim b b'))⟩
  · have ek : k = k' := nI_inj (by omega) (by omega) e
    subst ek
    refine ⟨fun c => absurd c (fun q => q.elim (fun q => q.elim a a') (fun q => q.elim b b')), fun i ei hi _ _ _ _ g3 b4 m1 => hN _ _ ?_⟩
    have eij : j = i := nI_inj (by omega) (by omega) (ej.symm.trans ei)
    subst eij
    have h3 : ∀ k, k < 96 → f3 k = g3 k := fun k hk => by
      rw [e0] at l1
      exact zLow_one (l1 k hk) (m1 k hk)
    refine zEnd_r ?_ rfl ?_
    · rw [e0] at l1 ⊢
      exact zRel_snd hr (by omega) l1 m1 l3
    · rw [zupdL, zcs_congr h3]
/-- a call that asks of a cell -/
theorem j_ask {g : (Nat → Nat → Int32) → Nat → Int32} {Q1 : Option Value → zW → Prop} (hr : zRel n α ν β μ) (x : Int32) (hg : ∀ k, k < 96 → g α k = g β k) (N1 : Option Value → zW → Prop) (X : String → zW → Prop) (H : ∀ k α' ν' f', (∀ (N2 : Option Value → zW → Prop) (X2 : String → zW → Prop), (∀ rv w2, zEnd n k rv w2 → N2 rv w2) → zAskM g [.ref 21, .int x] (zW3 α' ν' β μ f') N2 X2) → N1 (some (.int k)) (zW3 α' ν' β μ f')) : zAsk g [.ref 0, .int x] (zW3 α ν β μ f) (zQw β μ f N1) (zXw [(zIOO, 1)] N1) := by
  refine ⟨α, ν, _, x, rfl, rfl, fun c => ⟨1, by simp, H _ _ _ _ (fun N2 X2 hN => ⟨α, ν, β, μ, _, x, rfl, rfl, fun _ => hN _ _ (zEnd_x (t := 1) (zRel_th hr) (by decide) (by decide) rfl), fun k hk e => absurd (e ▸ vp_in_nI hk (by decide)) c⟩)⟩, ?_⟩
  rintro k hk rfl
  refine ⟨_, _, _, rfl, rfl, H _ _ _ _ (fun N2 X2 hN => ⟨α, ν, β, μ, _, _, rfl, rfl, fun q => absurd (vp_in_nI hk (by decide)) q, fun k' hk' e => hN _ _ ?_⟩)⟩
  have ek : k = k' := nI_inj (by omega) (by omega) e
  subst ek
  exact zEnd_r (zRel_th hr) rfl (by rw [zupdL, hg k hk])
theorem j_shapeOf (hr : zRel n α ν β μ) (x : Int32) : zJ sp_L_shapeOf sp_X5_shapeOf [.ref 0, .int x, .ref 36] [.ref 21, .int x] n α ν β μ f := fun N1 X1 H => ⟨α, ν, β, μ, f, x, rfl, rfl, j_ask (Q1 := N1) hr x (fun k hk => zRel_3 hr k hk) N1 X1 H⟩
theorem j_size (hr : zRel n α ν β μ) (x : Int32) : zJ sp_L_size sp_X5_size [.ref 0, .int x, .ref 36] [.ref 21, .int x] n α ν β μ f := fun N1 X1 H => ⟨α, ν, β, μ, f, x, rfl, rfl, j_ask (Q1 := N1) hr x (fun k hk => by
  show nI (zcnt (α 3) (α 3 k) 96) = nI (zcnt (β 3) (β 3 k) 96)
  rw [zRel_3 hr k hk, zcnt_congr (zRel_3 hr)]) N1 X1 H⟩
theorem j_top (hr : zRel n α ν β μ) (x : Int32) : zJ sp_L_top sp_X5_top [.ref 0, .int x, .ref 36] [.ref 21, .int x] n α ν β μ f := fun N1 X1 H => ⟨α, ν, β, μ, f, x, rfl, rfl, j_ask (Q1 := N1) hr x (fun k hk => by
  show zmx (α 3) (α 0) (α 3 k) 96 = zmx (β 3) (β 0) (β 3 k) 96
  rw [zRel_3 hr k hk, zmx_congr (zRel_3 hr), hr.1.1.1]) N1 X1 H⟩
theorem j_nameOf (hr : zRel n α ν β μ) (x : Int32) : zJ sp_L_nameOf sp_X5_nameOf [.ref 0, .int x, .ref 36] [.ref 21, .int x] n α ν β μ f := fun N1 X1 H => ⟨α, ν, β, μ, f, x, rfl, rfl, j_ask (Q1 := N1) hr x (fun k hk => by
  show zNm α (α 3 k) = zNm β (β 3 k)
  rw [zRel_3 hr k hk, zRel_nm hr]) N1 X1 H⟩
end ZJ
