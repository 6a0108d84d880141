/-! ===== THE LAW: its loop and its entry ===== -/
theorem zblk {Γ : zX} {T : zT} {own : String} (C : zOK Γ T own) {P : List zE} (hP : zPg Γ P) {q0 : zE} {P' : List zE} (e : P = q0 :: P') {cut : List (Nat × zK)} (hcut : ∀ q ∈ cut, ∀ L S w cu su, q.2 L S w cu su → zSm Γ q.1 L S w cu su) {fuel : Nat} {L : zL} {S : zS} {w : zW} {cu su : Nat} (h : zwp T Γ.nL P cut fuel P L S w cu su) : zSm Γ q0.1 L S w cu su :=
  zwp_sound C hP hcut fuel P (fun _ h => h) L S w cu su h q0 P' e
section ZLOOP
variable {Γ : zX} {own : String}
theorem zcut0 : ∀ q ∈ ([] : List (Nat × zK)), ∀ L S w cu su, q.2 L S w cu su → zSm Γ q.1 L S w cu su := fun q hq => absurd hq List.not_mem_nil
theorem zcut1 (a : Nat) : ∀ q ∈ [(a, zSm Γ a)], ∀ L S w cu su, q.2 L S w cu su → zSm Γ q.1 L S w cu su := fun q hq => by
  rw [List.mem_singleton.mp hq]
  exact fun _ _ _ _ _ h => h
theorem zcut2 (a b : Nat) : ∀ q ∈ [(a, zSm Γ a), (b, zSm Γ b)], ∀ L S w cu su, q.2 L S w cu su → zSm Γ q.1 L S w cu su := fun q hq => by
  rcases List.mem_cons.mp hq with e | hq
  · rw [e]
    exact fun _ _ _ _ _ h => h
  · rw [List.mem_singleton.mp hq]
    exact fun _ _ _ _ _ h => h
theorem zhpg (hcc : Γ.cc = code) {P : List zE} (h : ∀ q ∈ P, decode code q.1 = .ok (q.2.1, q.2.2.1) ∧ ztg q.2.1 q.1 q.2.2.1 q.2.2.2 = true) : zPg Γ P := by
  unfold zPg
  rw [hcc]
  exact h
/-- a turn's call and checks, from the sort on -/
theorem w_case (C : zOK Γ zLT own) (hcc : Γ.cc = code) (hnL : Γ.nL = 14) {T n k d s B c0 s0 : Nat} {W v : Int32} {α : Nat → Nat → Int32} {ν : Nat → Int32} (hv : zIv B α ν) (hB : B ≤ 700000) (hW : zSu α ν 6 = W) (hk : k < 96) (hd : d < 4) (hc0 : c0 ≤ 90000) (hs0 : s0 ≤ 900000)
    (h873 : ∀ Lc W' α' ν' cu' su', zsub (zI1 T n W' v k) Lc → zIv (B + 200) α' ν' → zSu α' ν' 6 = W' → cu' ≤ c0 + 40 → su' ≤ s0 + 240 → zSm Γ 873 Lc [] (WX α' ν' []) cu' su') : ∀ Lc cu su, zsub (zI2 T n W v k d s) Lc → cu ≤ c0 → su ≤ s0 → zSm Γ 127 Lc [] (WX α ν []) cu su := by
  have h838 : ∀ Lc b cu su, 1 ≤ b → b ≤ 14400 → zsub (zI1 T n W v k) Lc → cu ≤ c0 + 14 → su ≤ s0 + 84 → zSm Γ 838 Lc [.int (nI b)] (WX α ν []) cu su := fun Lc b cu su b1 b2 hz hcu hsu => by
    refine zSm_sub hz ?_
    refine zblk C (zhpg hcc hp_PC7b) rfl (cut := [(873, zSm Γ 873)]) (zcut1 873) (fuel := 100) ?_
    rw [hnL]
    exact wp_C7b hv (by omega) hW hk b1 b2 (by omega) (by omega) (fun Lc W' α' ν' cu' su' g1 g2 g3 g4 g5 => h873 Lc W' α' ν' cu' su' g1 g2 g3 (by omega) (by omega))
  have h807 : ∀ Lc cu su, zsub (zI2 T n W v k d s) Lc → cu ≤ c0 + 14 → su ≤ s0 + 84 → zSm Γ 807 Lc [] (WX α ν []) cu su := fun Lc cu su hz hcu hsu => by
    refine zSm_sub hz ?_
    refine zblk C (zhpg hcc hp_PC7) rfl (cut := [(838, zSm Γ 838)]) (zcut1 838) (fuel := 100) ?_
    rw [hnL]
    refine wp_C7 (by omega) (by omega) (fun Lc y b cu' su' e b1 b2 g1 g4 g5 => ?_)
    rw [e]
    exact h838 Lc b cu' su' b1 b2 g1 (by omega) (by omega)
  have h716 : ∀ Lc cu su, zsub (zI2 T n W v k d s) Lc → cu ≤ c0 + 12 → su ≤ s0 + 72 → zSm Γ 716 Lc [] (WX α ν []) cu su := fun Lc cu su hz hcu hsu => by
    refine zSm_sub hz ?_
    refine zblk C (zhpg hcc hp_PC6) rfl (cut := [(807, zSm Γ 807), (873, zSm Γ 873)]) (zcut2 807 873) (fuel := 150) ?_
    rw [hnL]
    exact wp_C6 hv (by omega) hW hk (by omega) (by omega) (fun Lc cu' su' g1 g4 g5 => h807 Lc cu' su' g1 (by omega) (by omega)) (fun Lc W' α' ν' cu' su' g1 g2 g3 g4 g5 => h873 Lc W' α' ν' cu' su' g1 g2 g3 (by omega) (by omega))
  have h628 : ∀ Lc cu su, zsub (zI2 T n W v k d s) Lc → cu ≤ c0 + 10 → su ≤ s0 + 60 → zSm Γ 628 Lc [] (WX α ν []) cu su := fun Lc cu su hz hcu hsu => by
    refine zSm_sub hz ?_
    refine zblk C (zhpg hcc hp_PC5) rfl (cut := [(716, zSm Γ 716), (873, zSm Γ 873)]) (zcut2 716 873) (fuel := 150) ?_
    rw [hnL]
    exact wp_C5 hv (by omega) hW hk (by omega) (by omega) (fun Lc cu' su' g1 g4 g5 => h716 Lc cu' su' g1 (by omega) (by omega)) (fun Lc W' α' ν' cu' su' g1 g2 g3 g4 g5 => h873 Lc W' α' ν' cu' su' g1 g2 g3 (by omega) (by omega))
  have h555 : ∀ Lc cu su, zsub (zI2 T n W v k d s) Lc → cu ≤ c0 + 8 → su ≤ s0 + 48 → zSm Γ 555 Lc [] (WX α ν []) cu su := fun Lc cu su hz hcu hsu => by
    refine zSm_sub hz ?_
    refine zblk C (zhpg hcc hp_PC4) rfl (cut := [(628, zSm Γ 628), (873, zSm Γ 873)]) (zcut2 628 873) (fuel := 150) ?_
    rw [hnL]
    exact wp_C4 hv (by omega) hW hk hd (by omega) (by omega) (fun Lc cu' su' g1 g4 g5 => h628 Lc cu' su' g1 (by omega) (by omega)) (fun Lc W' α' ν' cu' su' g1 g2 g3 g4 g5 => h873 Lc W' α' ν' cu' su' g1 g2 g3 (by omega) (by omega))
  have h420 : ∀ Lc cu su, zsub (zI2 T n W v k d s) Lc → cu ≤ c0 + 6 → su ≤ s0 + 36 → zSm Γ 420 Lc [] (WX α ν []) cu su := fun Lc cu su hz hcu hsu => by
    refine zSm_sub hz ?_
    refine zblk C (zhpg hcc hp_PC3) rfl (cut := [(555, zSm Γ 555), (873, zSm Γ 873)]) (zcut2 555 873) (fuel := 150) ?_
    rw [hnL]
    exact wp_C3 hv (by omega) hW hk hd (by omega) (by omega) (fun Lc cu' su' g1 g4 g5 => h555 Lc cu' su' g1 (by omega) (by omega)) (fun Lc W' α' ν' cu' su' g1 g2 g3 g4 g5 => h873 Lc W' α' ν' cu' su' g1 g2 g3 (by omega) (by omega))
  have h287 : ∀ Lc cu su, zsub (zI2 T n W v k d s) Lc → cu ≤ c0 + 4 → su ≤ s0 + 24 → zSm Γ 287 Lc [] (WX α ν []) cu su := fun Lc cu su hz hcu hsu => by
    refine zSm_sub hz ?_
    refine zblk C (zhpg hcc hp_PC2) rfl (cut := [(420, zSm Γ 420), (873, zSm Γ 873)]) (zcut2 420 873) (fuel := 150) ?_
    rw [hnL]
    exact wp_C2 hv (by omega) hW hk hd (by omega) (by omega) (fun Lc cu' su' g1 g4 g5 => h420 Lc cu' su' g1 (by omega) (by omega)) (fun Lc W' α' ν' cu' su' g1 g2 g3 g4 g5 => h873 Lc W' α' ν' cu' su' g1 g2 g3 (by omega) (by omega))
  have h230 : ∀ Lc cu su, zsub (zI2 T n W v k d s) Lc → cu ≤ c0 + 2 → su ≤ s0 + 12 → zSm Γ 230 Lc [] (WX α ν []) cu su := fun Lc cu su hz hcu hsu => by
    refine zSm_sub hz ?_
    refine zblk C (zhpg hcc hp_PC1) rfl (cut := [(287, zSm Γ 287), (873, zSm Γ 873)]) (zcut2 287 873) (fuel := 150) ?_
    rw [hnL]
    exact wp_C1 hv (by omega) hW hk (by omega) (by omega) (fun Lc cu' su' g1 g4 g5 => h287 Lc cu' su' g1 (by omega) (by omega)) (fun Lc W' α' ν' cu' su' g1 g2 g3 g4 g5 => h873 Lc W' α' ν' cu' su' g1 g2 g3 (by omega) (by omega))
  have h156 : ∀ Lc h cu su, h ≤ 9 → zsub (zI1 T n W v k) Lc → cu ≤ c0 → su ≤ s0 → zSm Γ 156 Lc [.int (nI h)] (WX α ν []) cu su := fun Lc h cu su hh hz hcu hsu => by
    refine zSm_sub hz ?_
    refine zblk C (zhpg hcc hp_PC0b) rfl (cut := [(873, zSm Γ 873)]) (zcut1 873) (fuel := 100) ?_
    rw [hnL]
    exact wp_C0b hv (by omega) hW hk hh (by omega) (by omega) (fun Lc W' α' ν' cu' su' g1 g2 g3 g4 g5 => h873 Lc W' α' ν' cu' su' g1 g2 g3 (by omega) (by omega))
  intro Lc cu su hz hcu hsu
  refine zSm_sub hz ?_
  refine zblk C (zhpg hcc hp_PC0) rfl (cut := [(230, zSm Γ 230), (156, zSm Γ 156)]) (zcut2 230 156) (fuel := 100) ?_
  rw [hnL]
  exact wp_C0 (by omega) (by omega) (fun Lc cu' su' g1 g4 g5 => h230 Lc cu' su' g1 (by omega) (by omega)) (fun Lc h cu' su' hh g1 g4 g5 => h156 Lc h cu' su' hh g1 (by omega) (by omega))
set_option maxHeartbeats 4000000 in
set_option maxRecDepth 40000 in
/-- a turn of the law's loop -/
theorem w_turn (C : zOK Γ zLT own) (hcc : Γ.cc = code) (hnL : Γ.nL = 14) {T n : Nat} (hT : T ≤ 60) (hn : n ≤ T)
    (next : n < T → ∀ Lc W α ν cu su, zsub (zI0 T (n + 1) W) Lc → zIv (300 * (n + 1)) α ν → zSu α ν 6 = W → cu ≤ 100 + 400 * (n + 1) → su ≤ 2000 + 2000 * (n + 1) → zSm Γ 55 Lc [] (WX α ν []) cu su) :
    ∀ Lc W α ν cu su, zsub (zI0 T n W) Lc → zIv (300 * n) α ν → zSu α ν 6 = W → cu ≤ 100 + 400 * n → su ≤ 2000 + 2000 * n → zSm Γ 55 Lc [] (WX α ν []) cu su := by
  intro Lc W α ν cu su hz hv hW hcu hsu
  obtain ⟨b, hb⟩ : ∃ b, b = 300 * n := ⟨_, rfl⟩
  rw [← hb] at hv
  refine zSm_sub hz ?_
  refine zblk C (zhpg hcc hp_PB) rfl (cut := [(922, zSm Γ 922), (102, zSm Γ 102)]) (zcut2 922 102) (fuel := 100) ?_
  rw [hnL]
  refine wp_B hT hn (by omega) (by omega) (fun _ Lc cu' su' g1 g2 g3 => ?_) (fun hlt Lc v k cu' su' hk g1 g2 g3 => ?_)
  · refine zSm_sub g1 ?_
    refine zblk C (zhpg hcc hp_PE) rfl (cut := []) zcut0 (fuel := 60) ?_
    rw [hnL]
    exact wp_E hW (by omega) (by omega)
  · refine zSm_sub g1 ?_
    refine zblk C (zhpg hcc hp_PB2) rfl (cut := [(127, zSm Γ 127)]) (zcut1 127) (fuel := 100) ?_
    rw [hnL]
    refine wp_B2 (by omega) (by omega) (fun Lc d s cu2 su2 hd hs g4 g5 g6 => ?_)
    refine w_case C hcc hnL (B := b) (c0 := 100 + 400 * n) (s0 := 2000 + 2000 * n) hv (by omega) hW hk hd (by omega) (by omega) (fun Lc W' α' ν' cu3 su3 q1 q2 q3 q4 q5 => ?_) Lc cu2 su2 g4 (by omega) (by omega)
    refine zSm_sub q1 ?_
    refine zblk C (zhpg hcc hp_PD) rfl (cut := [(55, zSm Γ 55)]) (zcut1 55) (fuel := 100) ?_
    rw [hnL]
    exact wp_D (B := b + 200) q2 (by omega) q3 hk (by omega) (by omega) (fun Lc α4 ν4 cu4 su4 r1 r2 r3 r4 r5 => next hlt Lc W' α4 ν4 cu4 su4 r1 (zIv_mono (B := b + 200 + 2) r2 (by omega)) r3 (by omega) (by omega))
theorem w_loop (C : zOK Γ zLT own) (hcc : Γ.cc = code) (hnL : Γ.nL = 14) {T : Nat} (hT : T ≤ 60) : ∀ m n, n + m = T → ∀ Lc W α ν cu su, zsub (zI0 T n W) Lc → zIv (300 * n) α ν → zSu α ν 6 = W → cu ≤ 100 + 400 * n → su ≤ 2000 + 2000 * n → zSm Γ 55 Lc [] (WX α ν []) cu su
  | 0, n, h => w_turn C hcc hnL hT (by omega) (fun hlt => by omega)
  | m + 1, n, h => w_turn C hcc hnL hT (by omega) (fun _ => w_loop C hcc hnL hT m (n + 1) (by omega))
/-- the law, from its entry -/
theorem w_all (C : zOK Γ zLT own) (hcc : Γ.cc = code) (hnL : Γ.nL = 14) : zSm Γ 0 [(0, .ref 1000)] [] [] 0 0 := by
  refine zblk C (zhpg hcc hp_PA) rfl (cut := [(55, zSm Γ 55)]) (zcut1 55) (fuel := 100) ?_
  rw [hnL]
  exact wp_A (fun Lc T cu su hT hz hcu hsu => w_loop C hcc hnL hT T 0 (by omega) Lc (nI 0) zα0 zν0 cu su hz zIv_0 (by decide) (by omega) (by omega))
end ZLOOP
