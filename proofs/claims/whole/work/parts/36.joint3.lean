/-! ===== THE CALLS, CLASS AND MODEL TOGETHER: claims, things ===== -/
section ZJ3
variable {n : Nat} {α : Nat → Nat → Int32} {ν : Nat → Int32} {β : Nat → Nat → Int32} {μ : Nat → Int32} {f : Nat → Int64}
theorem j_raise (hr : zRel n α ν β μ) (x y m a : Int32) : zJ sp_L_raise sp_X5_raise [.ref 0, .int x, .int y, .int m, .int a, .ref 36] [.ref 21, .int x, .int y, .int m, .int a] n α ν β μ f := by
  intro N1 X1 H
  have e3 := zRel_3 hr
  obtain ⟨c, hc, hcm, h8, h8m, hrun, hho⟩ := zRel_c hr
  obtain ⟨h, hh, hν, hμ⟩ : ∃ h, h ≤ 60 ∧ ν 4 = nI h ∧ μ 4 = nI h := hr.2.2.2.2.2.2.2.2.2.1
  refine ⟨α, ν, β, μ, f, x, y, m, a, rfl, rfl, α, ν, _, c, h, x, y, m, a, hc, h8, hh, hν, rfl, rfl, fun g => ⟨1, by simp, H _ _ _ _ (fun N2 X2 hN => ⟨α, ν, β, μ, _, c, h, x, y, m, a, hcm, h8m, hh, hμ, rfl, rfl, fun _ => hN _ _ (zEnd_x (t := 1) (zRel_th hr) (by decide) (by decide) rfl), fun d k hd hk e1 e2 => absurd g (fun q => q.elim (fun q => q (e1 ▸ vp_in_nI hd (by decide))) (fun q => q (e2 ▸ vp_in_nI hk (by decide))))⟩)⟩, ?_⟩
  rintro d k hd hk rfl rfl
  have hok : ¬ (¬ vp_in (nI d) 4 ∨ ¬ vp_in (nI k) 96) := fun q => q.elim (fun q => q (vp_in_nI hd (by decide))) (fun q => q (vp_in_nI hk (by decide)))
  refine ⟨fun g => ⟨2, by simp, H _ _ _ _ (fun N2 X2 hN => ⟨α, ν, β, μ, _, c, h, _, _, m, a, hcm, h8m, hh, hμ, rfl, rfl, fun q => absurd q hok, fun d' k' hd' hk' e1 e2 => ⟨fun _ => hN _ _ (zEnd_x (t := 2) (zRel_th hr) (by decide) (by decide) rfl), fun j u hj ej hu eu b1 b2 b3 b4 => absurd g (fun q => q.elim (fun q => q.elim b1 b2) (fun q => q.elim b3 b4))⟩⟩)⟩, ?_⟩
  rintro j u hj rfl hu rfl b1 b2 b3 b4
  have hb : ¬ ((nI j < nI 10 ∨ nI 60 < nI j) ∨ (nI u < nI 1 ∨ nI 100000 < nI u)) := fun q => q.elim (fun q => q.elim b1 b2) (fun q => q.elim b3 b4)
  refine ⟨fun g => ⟨3, by simp, H _ _ _ _ (fun N2 X2 hN => ⟨α, ν, β, μ, _, c, h, _, _, _, _, hcm, h8m, hh, hμ, rfl, rfl, fun q => absurd q hok, fun d' k' hd' hk' e1 e2 => ⟨fun q => absurd q hb, fun j' u' hj' ej hu' eu _ _ _ _ => ?_⟩⟩)⟩, fun g g2 g3 z hz => ⟨fun ez => ⟨_, _, _, rfl, rfl, H _ _ _ _ (fun N2 X2 hN => ⟨_, _, β, μ, _, c, h, _, _, _, _, hcm, h8m, hh, hμ, rfl, rfl, fun q => absurd q hok, fun d' k' hd' hk' e1 e2 => ⟨fun q => absurd q hb, fun j' u' hj' ej hu' eu _ _ _ _ => ?_⟩⟩)⟩, fun i w hi ez hw e8 => ⟨_, _, _, rfl, rfl, H _ _ _ _ (fun N2 X2 hN => ⟨_, _, β, μ, _, c, h, _, _, _, _, hcm, h8m, hh, hμ, rfl, rfl, fun q => absurd q hok, fun d' k' hd' hk' e1 e2 => ⟨fun q => absurd q hb, fun j' u' hj' ej hu' eu _ _ _ _ => ?_⟩⟩)⟩⟩⟩
  · have ed : d = d' := nI_inj (by omega) (by omega) e1
    have ek : k = k' := nI_inj (by omega) (by omega) e2
    have ejj : j = j' := nI_inj (by omega) (by omega) ej
    subst ed; subst ek; subst ejj
    have g' : ¬ zDm β μ d k j ∨ zBad β (β 3 k) ∨ h = 60 := by
      rw [← zRel_dv hr hd, ← zRel_bad hr, ← e3 k hk]
      exact g
    exact ⟨fun _ => hN _ _ (zEnd_x (t := 3) (zRel_th (n := n) (zRel_mu hr (fun i hi => zTh_ne μ 0 i hi))) (by decide) (by decide) rfl), fun q1 q2 q3 => absurd g' (fun q => q.elim (fun q => q q1) (fun q => q.elim q2 (fun q => by omega)))⟩
  · have ed : d = d' := nI_inj (by omega) (by omega) e1
    have ek : k = k' := nI_inj (by omega) (by omega) e2
    have ejj : j = j' := nI_inj (by omega) (by omega) ej
    have euu : u = u' := nI_inj (by omega) (by omega) eu
    subst ed; subst ek; subst ejj; subst euu
    have g' : ¬ (¬ zDm β μ d k j ∨ zBad β (β 3 k) ∨ h = 60) := by
      rw [← zRel_dv hr hd, ← zRel_bad hr, ← e3 k hk]
      exact fun q => q.elim (fun q => q g) (fun q => q.elim g2 (fun q => by omega))
    refine ⟨fun q => absurd q g', fun _ _ _ z' hz' => ⟨fun ez' => hN _ _ ?_, fun i' w' hi' ez' hw' e8' => ?_⟩⟩
    · obtain ⟨d1, d2, d3, d4⟩ := zRel_dive hr hd hk hj g
      obtain ⟨⟨e0, ⟨e6, e7⟩, hx, ⟨e11, e12, e13⟩⟩, h2, ⟨o, h3, h3'⟩, ⟨q, h4, h4'⟩, h5, h6, h7, h8, h9, h10, h11, h12⟩ := hr
      refine zEnd_r ⟨⟨e0, ⟨?_, ?_⟩, hx, ⟨?_, ?_, e13⟩⟩, h2, ⟨o, by omega, h3'⟩, ⟨q, by omega, h4'⟩, h5, h6, zupd_ex h7 d2, zupd_ex h8 d3, h9, ⟨h + 1, by omega, rfl, rfl⟩, ?_, h12⟩ rfl (zupdL _ _)
      · show upd (α 6) d (α 6 d - nI (j * zau k)) = upd (β 6) d (β 6 d - nI (j * zau k))
        rw [e6]
      · show upd (α 7) d (ν 0 + nI j + nI (j * (10 * (k / 12 + 1)) / 20)) = upd (β 7) d (μ 0 + nI j + nI (j * (10 * (k / 12 + 1)) / 20))
        rw [e7, d4]
      · show upd (α 11) h (α 3 k) = upd (β 11) h (β 3 k)
        rw [e11, e3 k hk]
      · show upd (α 12) h (-1) = upd (β 12) h (-1)
        rw [e12]
      · show ν 5 + nI u = μ 5 + nI u
        rw [h11]
    · have : z' = -1 := by
        rw [← ez]
        rw [← e3 k hk] at hz'
        exact (zHM_one ((hho _ _).mp hz) hz').symm
      exact absurd (ez'.symm.trans this) (nI_ne_m1 (by have := hc.1; omega))
  · have ed : d = d' := nI_inj (by omega) (by omega) e1
    have ek : k = k' := nI_inj (by omega) (by omega) e2
    have ejj : j = j' := nI_inj (by omega) (by omega) ej
    have euu : u = u' := nI_inj (by omega) (by omega) eu
    subst ed; subst ek; subst ejj; subst euu
    have g' : ¬ (¬ zDm β μ d k j ∨ zBad β (β 3 k) ∨ h = 60) := by
      rw [← zRel_dv hr hd, ← zRel_bad hr, ← e3 k hk]
      exact fun q => q.elim (fun q => q g) (fun q => q.elim g2 (fun q => by omega))
    refine ⟨fun q => absurd q g', fun _ _ _ z' hz' => ⟨fun ez' => ?_, fun i' w' hi' ez' hw' e8' => hN _ _ ?_⟩⟩
    · have : z = -1 := by
        rw [← ez']
        rw [← e3 k hk] at hz'
        exact zHM_one ((hho _ _).mp hz) hz'
      exact absurd (ez.symm.trans this) (nI_ne_m1 (by have := hc.1; omega))
    · have hzz : z = z' := by
        rw [← e3 k hk] at hz'
        exact zHM_one ((hho _ _).mp hz) hz'
      have eii : i = i' := nI_inj (by have := hc.1; omega) (by have := hc.1; omega) (ez.symm.trans (hzz.trans ez'))
      subst eii
      have e88 : α 8 = β 8 := hr.1.2.2.1.1
      have eww : w = w' := nI_inj (by omega) (by omega) (e8.symm.trans ((congrFun e88 i).trans e8'))
      subst eww
      have enm := zRel_nm hr (α 3 k)
      obtain ⟨d1, d2, d3, d4⟩ := zRel_dive hr hd hk hj g
      obtain ⟨⟨e0, ⟨e6, e7⟩, hx, ⟨e11, e12, e13⟩⟩, h2, ⟨o, h3, h3'⟩, ⟨q, h4, h4'⟩, h5, h6, h7, h8, h9, h10, h11, h12⟩ := hr
      refine zEnd_r ⟨⟨e0, ⟨?_, ?_⟩, hx, ⟨?_, ?_, ?_⟩⟩, h2, ⟨o, by omega, h3'⟩, ⟨q, by omega, h4'⟩, h5, h6, zupd_ex h7 d2, zupd_ex h8 d3, h9, ⟨h + 1, by omega, rfl, rfl⟩, ?_, h12⟩ rfl (zupdL _ _)
      · show upd (α 6) d (α 6 d - nI (j * zau k)) = upd (β 6) d (β 6 d - nI (j * zau k))
        rw [e6]
      · show upd (α 7) d (ν 0 + nI j + nI (j * (10 * (k / 12 + 1)) / 20)) = upd (β 7) d (μ 0 + nI j + nI (j * (10 * (k / 12 + 1)) / 20))
        rw [e7, d4]
      · show upd (α 11) h (α 3 k) = upd (β 11) h (β 3 k)
        rw [e11, e3 k hk]
      · show upd (α 12) h (nI w) = upd (β 12) h (nI w)
        rw [e12]
      · show upd (α 13) w (α 13 w + (nI u - nI (zlp u (zNm α (α 3 k))))) = upd (β 13) w (β 13 w + (nI u - nI (zlp u (zNm β (β 3 k)))))
        rw [e13, enm, e3 k hk]
      · show ν 5 + nI (zlp u (zNm α (α 3 k))) = μ 5 + nI (zlp u (zNm β (β 3 k)))
        rw [h11, enm, e3 k hk]
theorem j_claim (hr : zRel n α ν β μ) (x y : Int32) : zJ sp_L_claim sp_X5_claim [.ref 0, .int x, .int y, .ref 36] [.ref 21, .int x, .int y] n α ν β μ f := by
  intro N1 X1 H
  have e3 := zRel_3 hr
  obtain ⟨c, hc, hcm, h8, h8m, hrun, hho⟩ := zRel_c hr
  refine ⟨α, ν, β, μ, f, x, y, rfl, rfl, α, ν, _, c, x, y, hc, h8, rfl, rfl, fun g => ⟨1, by simp, H _ _ _ _ (fun N2 X2 hN => ⟨α, ν, β, μ, _, c, x, y, hcm, rfl, rfl, fun _ => hN _ _ (zEnd_x (t := 1) (zRel_th hr) (by decide) (by decide) rfl), fun d k hd hk e1 e2 => absurd g (fun q => q.elim (fun q => q (e1 ▸ vp_in_nI hd (by decide))) (fun q => q (e2 ▸ vp_in_nI hk (by decide))))⟩)⟩, ?_⟩
  rintro d k hd hk rfl rfl z hz
  have hok : ¬ (¬ vp_in (nI d) 6 ∨ ¬ vp_in (nI k) 96) := fun q => q.elim (fun q => q (vp_in_nI hd (by decide))) (fun q => q (vp_in_nI hk (by decide)))
  have hzm : ∀ z', zHM β μ c (β 3 k) z' → z = z' := fun z' hz' => by
    rw [← e3 k hk] at hz'
    exact zHM_one ((hho _ _).mp hz) hz'
  have hbd : zBad α (α 3 k) ↔ zBad β (β 3 k) := by rw [zRel_bad hr, e3 k hk]
  refine ⟨fun g => ⟨2, by simp, H _ _ _ _ (fun N2 X2 hN => ⟨α, ν, β, μ, _, c, _, _, hcm, rfl, rfl, fun q => absurd q hok, fun d' k' hd' hk' e1 e2 z' hz' => ?_⟩)⟩, fun g1 g2 g3 => ⟨_, _, _, rfl, rfl, H _ _ _ _ (fun N2 X2 hN => ⟨_, _, β, μ, _, c, _, _, hcm, rfl, rfl, fun q => absurd q hok, fun d' k' hd' hk' e1 e2 z' hz' => ?_⟩)⟩⟩
  · have ed : d = d' := nI_inj (by omega) (by omega) e1
    have ek : k = k' := nI_inj (by omega) (by omega) e2
    subst ed; subst ek
    have ez := hzm z' hz'
    subst ez
    exact ⟨fun _ => hN _ _ (zEnd_x (t := 2) (zRel_th (n := n) (zRel_mu hr (fun i hi => zTh_ne μ 0 i hi))) (by decide) (by decide) rfl), fun q1 q2 q3 => absurd g (fun q => q.elim (fun q => q1 (hbd.mp q)) (fun q => q.elim (fun q => q q2) (fun q => by omega)))⟩
  · have ed : d = d' := nI_inj (by omega) (by omega) e1
    have ek : k = k' := nI_inj (by omega) (by omega) e2
    subst ed; subst ek
    have ez := hzm z' hz'
    subst ez
    refine ⟨fun q => absurd q (fun q => q.elim (fun q => g1 (hbd.mpr q)) (fun q => q.elim (fun q => q g2) (fun q => by omega))), fun _ _ _ => hN _ _ ?_⟩
    have hc2 := hc.2.1
    obtain ⟨⟨e0, e67, ⟨e8, e9⟩, hx⟩, h2, ⟨o, h3, h3'⟩, ⟨q, h4, h4'⟩, h5, ⟨t, ht, t1, t2⟩, h7, h8', ⟨c', hc', c1, c2, hj⟩, h10, h11, h12⟩ := hr
    have ecc : c = c' := nI_inj (by omega) (by omega) (hc2.symm.trans c1)
    subst ecc
    refine zEnd_r ⟨⟨e0, e67, ⟨?_, ?_⟩, hx⟩, h2, ⟨o, by omega, h3'⟩, ⟨q, by omega, h4'⟩, h5, ⟨t, ht, t1, t2⟩, h7, h8', ⟨c + 1, by omega, rfl, rfl, fun i hi => ?_⟩, h10, h11, h12⟩ rfl (zupdL _ _)
    · show upd (α 8) c (nI d) = upd (β 8) c (nI d)
      rw [e8]
    · show upd (α 9) c (nI k) = upd (β 9) c (nI k)
      rw [e9]
    · show (∃ f, f < 6 ∧ upd (α 8) c (nI d) i = nI f) ∧ (∃ k', k' < 96 ∧ upd (α 9) c (nI k) i = nI k') ∧ ∃ b, b ≤ 1000000 ∧ upd (β 10) c (μ 0) i = nI b ∧ upd (α 10) c (ν 0 + nI 28800) i = nI (b + 28800)
      by_cases e : i = c
      · rw [e, pk_us, pk_us, pk_us, pk_us]
        exact ⟨⟨d, hd, rfl⟩, ⟨k, hk, rfl⟩, t, ht, t2, by rw [t1, nI_add]⟩
      · rw [pk_un e, pk_un e, pk_un e, pk_un e]
        exact hj i (by omega)
theorem j_renew (hr : zRel n α ν β μ) (x : Int32) : zJ sp_L_renew sp_X5_renew [.ref 0, .int x, .ref 36] [.ref 21, .int x] n α ν β μ f := by
  intro N1 X1 H
  obtain ⟨c, hc, hcm, h8, h8m, hrun, hho⟩ := zRel_c hr
  have hc1 := hc.1
  refine ⟨α, ν, β, μ, f, x, rfl, rfl, α, ν, _, c, x, hc.1, hc.2.1, rfl, rfl, fun g => ⟨1, by simp, H _ _ _ _ (fun N2 X2 hN => ⟨α, ν, β, μ, _, c, x, hcm.1, hcm.2.1, rfl, rfl, fun _ => hN _ _ (zEnd_x (t := 1) (zRel_th hr) (by decide) (by decide) rfl), fun j hj e => absurd (e ▸ vp_in_nI hj (by omega)) g⟩)⟩, ?_⟩
  rintro j hj rfl
  have hok : vp_in (nI j) c := vp_in_nI hj (by omega)
  refine ⟨fun g => ⟨2, by simp, H _ _ _ _ (fun N2 X2 hN => ⟨α, ν, β, μ, _, c, _, hcm.1, hcm.2.1, rfl, rfl, fun q => absurd hok q, fun j' hj' e => ?_⟩)⟩, fun g => ⟨_, _, _, rfl, rfl, H _ _ _ _ (fun N2 X2 hN => ⟨_, _, β, μ, _, c, _, hcm.1, hcm.2.1, rfl, rfl, fun q => absurd hok q, fun j' hj' e => ?_⟩)⟩⟩
  · have ej : j = j' := nI_inj (by omega) (by omega) e
    subst ej
    exact ⟨fun _ => hN _ _ (zEnd_x (t := 2) (zRel_th hr) (by decide) (by decide) rfl), fun q => absurd ((hrun j hj).mpr q) g⟩
  · have ej : j = j' := nI_inj (by omega) (by omega) e
    subst ej
    refine ⟨fun q => absurd ((hrun j hj).mp g) q, fun _ => hN _ _ ?_⟩
    have hc2 := hc.2.1
    obtain ⟨h1, h2, ⟨o, h3, h3'⟩, ⟨q, h4, h4'⟩, h5, ⟨t, ht, t1, t2⟩, h7, h8', ⟨c', hc', c1, c2, hj'⟩, h10, h11, h12⟩ := hr
    have ecc : c = c' := nI_inj (by omega) (by omega) (hc2.symm.trans c1)
    subst ecc
    refine zEnd_r ⟨h1, h2, ⟨o, by omega, h3'⟩, ⟨q, by omega, h4'⟩, h5, ⟨t, ht, t1, t2⟩, h7, h8', ⟨c, hc', c1, c2, fun i hi => ?_⟩, h10, h11, h12⟩ rfl ?_
    · show (∃ f, f < 6 ∧ α 8 i = nI f) ∧ (∃ k', k' < 96 ∧ α 9 i = nI k') ∧ ∃ b, b ≤ 1000000 ∧ upd (β 10) j (μ 0) i = nI b ∧ upd (α 10) j (ν 0 + nI 28800) i = nI (b + 28800)
      obtain ⟨j1, j2, j3⟩ := hj' i hi
      refine ⟨j1, j2, ?_⟩
      by_cases e : i = j
      · rw [e, pk_us, pk_us]
        exact ⟨t, ht, t2, by rw [t1, nI_add]⟩
      · rw [pk_un e, pk_un e]
        exact j3
    · obtain ⟨-, -, b, hb, b1, b2⟩ := hj' j hj
      rw [zupdL, b1, b2, t1, t2, nI_add]
theorem j_advance (hr : zRel n α ν β μ) (x : Int32) : zJ sp_L_advance sp_X5_advance [.ref 0, .int x, .ref 36] [.ref 21, .int x] n α ν β μ f := by
  intro N1 X1 H
  obtain ⟨t, ht, t1, t2⟩ : ∃ t, t ≤ 1000000 ∧ ν 0 = nI t ∧ μ 0 = nI t := hr.2.2.2.2.2.1
  refine ⟨α, ν, β, μ, f, x, rfl, rfl, α, ν, _, t, x, ht, t1, rfl, rfl, fun g => ⟨1, by simp, H _ _ _ _ (fun N2 X2 hN => ⟨α, ν, β, μ, _, t, x, ht, t2, rfl, rfl, fun _ μ' m1 m2 => hN _ _ (zEnd_x (t := 1) (zRel_up (zRel_mu hr m2)) (by decide) (by decide) m1), fun j hj e b1 b2 => absurd g (fun q => q.elim b1 b2)⟩)⟩, ?_⟩
  rintro j hj rfl b1 b2
  refine ⟨fun g => ⟨2, by simp, H _ _ _ _ (fun N2 X2 hN => ⟨α, ν, β, μ, _, t, _, ht, t2, rfl, rfl, fun q => absurd q (fun q => q.elim b1 b2), fun j' hj' e _ _ => ?_⟩)⟩, fun g => ⟨_, _, _, rfl, rfl, H _ _ _ _ (fun N2 X2 hN => ⟨_, _, β, μ, _, t, _, ht, t2, rfl, rfl, fun q => absurd q (fun q => q.elim b1 b2), fun j' hj' e _ _ => ?_⟩)⟩⟩
  · have ej : j = j' := nI_inj (by omega) (by omega) e
    subst ej
    exact ⟨fun _ μ' m1 m2 => hN _ _ (zEnd_x (t := 2) (zRel_up (zRel_mu hr m2)) (by decide) (by decide) m1), fun q => absurd g q⟩
  · have ej : j = j' := nI_inj (by omega) (by omega) e
    subst ej
    refine ⟨fun q => absurd q g, fun _ => hN _ _ ?_⟩
    obtain ⟨h1, h2, ⟨o, h3, h3'⟩, ⟨q, h4, h4'⟩, h5, h6, h7, h8', h9, h10, h11, h12⟩ := hr
    exact zEnd_r ⟨h1, h2, ⟨o, by omega, h3'⟩, ⟨q, by omega, h4'⟩, h5, ⟨t + j, by omega, rfl, rfl⟩, h7, h8', h9, h10, h11, h12⟩ rfl (zupdL _ _)
theorem j_finder (hr : zRel n α ν β μ) (x : Int32) : zJ sp_L_finder sp_X5_finder [.ref 0, .int x, .ref 36] [.ref 21, .int x] n α ν β μ f := by
  intro N1 X1 H
  have e3 := zRel_3 hr
  obtain ⟨c, hc, hcm, h8, h8m, hrun, hho⟩ := zRel_c hr
  refine ⟨α, ν, β, μ, f, x, rfl, rfl, α, ν, _, c, x, hc, rfl, rfl, fun g => ⟨1, by simp, H _ _ _ _ (fun N2 X2 hN => ⟨α, ν, β, μ, _, c, x, hcm, rfl, rfl, fun _ => hN _ _ (zEnd_x (t := 1) (zRel_th hr) (by decide) (by decide) rfl), fun k hk e => absurd (e ▸ vp_in_nI hk (by decide)) g⟩)⟩, ?_⟩
  rintro k hk rfl z hz
  refine ⟨_, _, _, rfl, rfl, H _ _ _ _ (fun N2 X2 hN => ⟨_, _, β, μ, _, c, _, hcm, rfl, rfl, fun q => absurd (vp_in_nI hk (by decide)) q, fun k' hk' e z' hz' => hN _ _ ?_⟩)⟩
  have ek : k = k' := nI_inj (by omega) (by omega) e
  subst ek
  rw [← e3 k hk] at hz'
  have ez : z = z' := zHM_one ((hho _ _).mp hz) hz'
  subst ez
  exact zEnd_r (zRel_th hr) rfl (by rw [zupdL, hr.1.2.2.1.1])
theorem j_finderBySoundings (hn : n ≤ 512) (hr : zRel n α ν β μ) (x : Int32) : zJ sp_L_finderBySoundings sp_X5_finderBySoundings [.ref 0, .int x, .ref 36] [.ref 21, .int x] n α ν β μ f := by
  intro N1 X1 H
  have e3 := zRel_3 hr
  obtain ⟨o, hou, ho⟩ := zRel_f hn hr
  obtain ⟨c, hc, hcm, h8, h8m, hrun, hho⟩ := zRel_c hr
  refine ⟨α, ν, β, μ, f, x, rfl, rfl, α, ν, _, o, c, x, hou, hc, hr.2.1.1, hr.2.2.2.2.1, rfl, rfl, fun g => ⟨1, by simp, H _ _ _ _ (fun N2 X2 hN => ⟨α, ν, β, μ, _, c, x, hcm, rfl, rfl, fun _ => hN _ _ (zEnd_x (t := 1) (zRel_th hr) (by decide) (by decide) rfl), fun k hk e => absurd (e ▸ vp_in_nI hk (by decide)) g⟩)⟩, ?_⟩
  rintro k hk rfl z a4 a5 hz h5
  refine ⟨_, _, _, rfl, rfl, H _ _ _ _ (fun N2 X2 hN => ⟨_, _, β, μ, _, c, _, hcm, rfl, rfl, fun q => absurd (vp_in_nI hk (by decide)) q, fun k' hk' e z' hz' => hN _ _ ?_⟩)⟩
  have ek : k = k' := nI_inj (by omega) (by omega) e
  subst ek
  rw [← e3 k hk] at hz'
  have ez : z = z' := zHM_one ((hho _ _).mp hz) hz'
  subst ez
  have e8 : α 8 = β 8 := hr.1.2.2.1.1
  obtain ⟨h1, h2, h3, ⟨q, h4, h4'⟩, h5', h6, h7, h8', h9, h10, h11, h12⟩ := hr
  exact zEnd_r ⟨h1, h2, ⟨o + 1, by omega, rfl, h5⟩, ⟨q, by omega, h4'⟩, h5', h6, h7, h8', h9, h10, h11, h12⟩ rfl (by rw [zupdL, e8])
/-- the same, of a call that answers with a truth -/
def zEndB (n : Nat) (k : Int32) (rv : Option Value) (w : zW) : Prop := ∃ α ν β μ f, w = zW3 α ν β μ f ∧ zRel (n + 1) α ν β μ ∧ ∃ t, ∃ b : Nat, k = nI t ∧ t ≤ 3 ∧ μ 7 = nI t ∧ b ≤ 1 ∧ rv = some (.int (nI b)) ∧ (t = 0 → f 0 = Int64.ofNat b)
def zJB (SpW SpM : zSpec) (aW aM : zS) (n : Nat) (α : Nat → Nat → Int32) (ν : Nat → Int32) (β : Nat → Nat → Int32) (μ : Nat → Int32) (f : Nat → Int64) : Prop := ∀ (N1 : Option Value → zW → Prop) (X1 : String → zW → Prop), (∀ k α' ν' f', (∀ (N2 : Option Value → zW → Prop) (X2 : String → zW → Prop), (∀ rv w2, zEndB n k rv w2 → N2 rv w2) → SpM aM (zW3 α' ν' β μ f') N2 X2) → N1 (some (.int k)) (zW3 α' ν' β μ f')) → SpW aW (zW3 α ν β μ f) N1 X1
theorem zEndB_x {α : Nat → Nat → Int32} {ν : Nat → Int32} {β : Nat → Nat → Int32} {μ : Nat → Int32} {f : Nat → Int64} (h : zRel (n + 1) α ν β μ) (e : μ 7 = nI 1) : zEndB n (nI 1) (some (.int 0)) (zW3 α ν β μ f) := ⟨α, ν, β, μ, f, rfl, h, 1, 0, rfl, by decide, e, by decide, rfl, fun q => absurd q (by decide)⟩
theorem zEndB_r {α : Nat → Nat → Int32} {ν : Nat → Int32} {β : Nat → Nat → Int32} {μ : Nat → Int32} {f : Nat → Int64} {b : Nat} (hb : b ≤ 1) (h : zRel (n + 1) α ν β μ) (e : μ 7 = nI 0) (ef : f 0 = Int64.ofNat b) : zEndB n (nI 0) (some (.int (nI b))) (zW3 α ν β μ f) := ⟨α, ν, β, μ, f, rfl, h, 0, b, rfl, by decide, e, hb, rfl, fun _ => ef⟩
theorem j_runs (hr : zRel n α ν β μ) (x : Int32) : zJB sp_L_runs sp_X5_runs [.ref 0, .int x, .ref 36] [.ref 21, .int x] n α ν β μ f := by
  intro N1 X1 H
  obtain ⟨c, hc, hcm, h8, h8m, hrun, hho⟩ := zRel_c hr
  have hc1 := hc.1
  refine ⟨α, ν, β, μ, f, x, rfl, rfl, α, ν, _, c, x, hc.1, hc.2.1, rfl, rfl, fun g => ⟨1, by simp, H _ _ _ _ (fun N2 X2 hN => ⟨α, ν, β, μ, _, c, x, hcm.1, hcm.2.1, rfl, rfl, fun _ => hN _ _ (zEndB_x (zRel_th hr) rfl), fun j hj e => absurd (e ▸ vp_in_nI hj (by omega)) g⟩)⟩, ?_⟩
  rintro j hj rfl
  have hok : vp_in (nI j) c := vp_in_nI hj (by omega)
  refine ⟨fun g => ⟨_, _, Or.inl ⟨rfl, rfl, H _ _ _ _ (fun N2 X2 hN => ⟨_, _, β, μ, _, c, _, hcm.1, hcm.2.1, rfl, rfl, fun q => absurd hok q, fun j' hj' e => ?_⟩)⟩⟩, fun g => ⟨_, _, Or.inr ⟨rfl, rfl, H _ _ _ _ (fun N2 X2 hN => ⟨_, _, β, μ, _, c, _, hcm.1, hcm.2.1, rfl, rfl, fun q => absurd hok q, fun j' hj' e => ?_⟩)⟩⟩⟩
  · have ej : j = j' := nI_inj (by omega) (by omega) e
    subst ej
    exact ⟨fun _ => hN _ _ (zEndB_r (b := 1) (by decide) (zRel_th hr) rfl (zupdL _ _)), fun q => absurd ((hrun j hj).mp g) q⟩
  · have ej : j = j' := nI_inj (by omega) (by omega) e
    subst ej
    exact ⟨fun q => absurd ((hrun j hj).mpr q) g, fun _ => hN _ _ (zEndB_r (b := 0) (by decide) (zRel_th hr) rfl (zupdL _ _))⟩
theorem j_holds (hr : zRel n α ν β μ) (x : Int32) : zJB sp_L_holds sp_X5_holds [.ref 0, .int x, .ref 36] [.ref 21, .int x] n α ν β μ f := by
  intro N1 X1 H
  have e3 := zRel_3 hr
  have e9 : α 9 = β 9 := hr.1.2.2.1.2
  obtain ⟨c, hc, hcm, h8, h8m, hrun, hho⟩ := zRel_c hr
  have hc1 := hc.1
  refine ⟨α, ν, β, μ, f, x, rfl, rfl, α, ν, _, c, x, hc, rfl, rfl, fun g => ⟨1, by simp, H _ _ _ _ (fun N2 X2 hN => ⟨α, ν, β, μ, _, c, x, hcm, rfl, rfl, fun _ => hN _ _ (zEndB_x (zRel_th hr) rfl), fun j k hj hk e => absurd (e ▸ vp_in_nI hj (by omega)) g⟩)⟩, ?_⟩
  rintro j k hj hk rfl ek z hz
  have hok : vp_in (nI j) c := vp_in_nI hj (by omega)
  have hz2 : ∀ j' k' z', nI j = nI j' → j' < c → k' < 96 → β 9 j' = nI k' → zHM β μ c (β 3 k') z' → j = j' ∧ z = z' := fun j' k' z' e hj' hk' e' hz' => by
    have ej : j = j' := nI_inj (by omega) (by omega) e
    subst ej
    have ekk : k = k' := nI_inj (by omega) (by omega) (ek.symm.trans ((congrFun e9 j).trans e'))
    subst ekk
    rw [← e3 k hk] at hz'
    exact ⟨rfl, zHM_one ((hho _ _).mp hz) hz'⟩
  refine ⟨fun g => ⟨_, _, Or.inl ⟨rfl, rfl, H _ _ _ _ (fun N2 X2 hN => ⟨_, _, β, μ, _, c, _, hcm, rfl, rfl, fun q => absurd hok q, fun j' k' hj' hk' e e' z' hz' => ?_⟩)⟩⟩, fun g => ⟨_, _, Or.inr ⟨rfl, rfl, H _ _ _ _ (fun N2 X2 hN => ⟨_, _, β, μ, _, c, _, hcm, rfl, rfl, fun q => absurd hok q, fun j' k' hj' hk' e e' z' hz' => ?_⟩)⟩⟩⟩
  · obtain ⟨rfl, rfl⟩ := hz2 j' k' z' e hj' hk' e' hz'
    exact ⟨fun _ => hN _ _ (zEndB_r (b := 1) (by decide) (zRel_th hr) rfl (zupdL _ _)), fun q => absurd g q⟩
  · obtain ⟨rfl, rfl⟩ := hz2 j' k' z' e hj' hk' e' hz'
    exact ⟨fun q => absurd q g, fun _ => hN _ _ (zEndB_r (b := 0) (by decide) (zRel_th hr) rfl (zupdL _ _))⟩
theorem j_thg (i : Nat) (hi : α i = β i) (hr : zRel n α ν β μ) (x : Int32) (N1 : Option Value → zW → Prop) (H : ∀ k α' ν' f', (∀ (N2 : Option Value → zW → Prop) (X2 : String → zW → Prop), (∀ rv w2, zEnd n k rv w2 → N2 rv w2) → zThgM i [.ref 21, .int x] (zW3 α' ν' β μ f') N2 X2) → N1 (some (.int k)) (zW3 α' ν' β μ f')) : zThg i [.ref 0, .int x] (zW3 α ν β μ f) (zQw β μ f N1) (zXw [(zIOO, 1)] N1) := by
  obtain ⟨h, hh, hν, hμ⟩ : ∃ h, h ≤ 60 ∧ ν 4 = nI h ∧ μ 4 = nI h := hr.2.2.2.2.2.2.2.2.2.1
  refine ⟨α, ν, _, h, x, hh, hν, rfl, rfl, fun g => ⟨1, by simp, H _ _ _ _ (fun N2 X2 hN => ⟨α, ν, β, μ, _, h, x, hh, hμ, rfl, rfl, fun _ => hN _ _ (zEnd_x (t := 1) (zRel_th hr) (by decide) (by decide) rfl), fun j hj e => absurd (e ▸ vp_in_nI hj (by omega)) g⟩)⟩, ?_⟩
  rintro j hj rfl
  refine ⟨_, _, _, rfl, rfl, H _ _ _ _ (fun N2 X2 hN => ⟨_, _, β, μ, _, h, _, hh, hμ, rfl, rfl, fun q => absurd (vp_in_nI hj (by omega)) q, fun j' hj' e => hN _ _ ?_⟩)⟩
  have ej : j = j' := nI_inj (by omega) (by omega) e
  subst ej
  exact zEnd_r (zRel_th hr) rfl (by rw [zupdL, hi])
theorem j_shapeOfThing (hr : zRel n α ν β μ) (x : Int32) : zJ sp_L_shapeOfThing sp_X5_shapeOfThing [.ref 0, .int x, .ref 36] [.ref 21, .int x] n α ν β μ f := fun N1 X1 H => ⟨α, ν, β, μ, f, x, rfl, rfl, j_thg 11 hr.1.2.2.2.1 hr x N1 H⟩
theorem j_finderOfThing (hr : zRel n α ν β μ) (x : Int32) : zJ sp_L_finderOfThing sp_X5_finderOfThing [.ref 0, .int x, .ref 36] [.ref 21, .int x] n α ν β μ f := fun N1 X1 H => ⟨α, ν, β, μ, f, x, rfl, rfl, j_thg 12 hr.1.2.2.2.2.1 hr x N1 H⟩
theorem j_reward (hr : zRel n α ν β μ) (x : Int32) : zJ sp_L_reward sp_X5_reward [.ref 0, .int x, .ref 36] [.ref 21, .int x] n α ν β μ f := by
  intro N1 X1 H
  refine ⟨α, ν, β, μ, f, x, rfl, rfl, α, ν, _, x, rfl, rfl, fun g => ⟨1, by simp, H _ _ _ _ (fun N2 X2 hN => ⟨α, ν, β, μ, _, x, rfl, rfl, fun _ => hN _ _ (zEnd_x (t := 1) (zRel_th hr) (by decide) (by decide) rfl), fun d hd e => absurd (e ▸ vp_in_nI hd (by decide)) g⟩)⟩, ?_⟩
  rintro d hd rfl
  refine ⟨_, _, _, rfl, rfl, H _ _ _ _ (fun N2 X2 hN => ⟨_, _, β, μ, _, _, rfl, rfl, fun q => absurd (vp_in_nI hd (by decide)) q, fun d' hd' e => hN _ _ ?_⟩)⟩
  have ed : d = d' := nI_inj (by omega) (by omega) e
  subst ed
  exact zEnd_r (zRel_th hr) rfl (by rw [zupdL, hr.1.2.2.2.2.2])
end ZJ3
