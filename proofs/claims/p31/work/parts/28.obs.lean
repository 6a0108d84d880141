/-! ===== WHAT CALLS TELL: the claim that holds a shape, the finder, the title; the invariant ===== -/
theorem zleast {P : Nat → Prop} : ∀ c, (∃ j, j < c ∧ P j ∧ ∀ i, i < j → ¬ P i) ∨ ∀ j, j < c → ¬ P j
  | 0 => Or.inr fun j h => absurd h (Nat.not_lt_zero j)
  | c + 1 => by
    rcases zleast (P := P) c with ⟨j, hj, p, q⟩ | h
    · exact Or.inl ⟨j, by omega, p, q⟩
    · by_cases e : P c
      · exact Or.inl ⟨c, by omega, e, h⟩
      · refine Or.inr fun j hj => ?_
        by_cases e2 : j < c
        · exact h j e2
        · have : j = c := by omega
          rw [this]; exact e
section ZOB
variable {α α' : Nat → Nat → Int32} {ν ν' : Nat → Int32} {B : Nat} {s : Int32}
theorem zHR_ex (α : Nat → Nat → Int32) (ν : Nat → Int32) (c : Nat) (s : Int32) : ∃ x, zHR α ν c s x := by
  unfold zHR zHr
  by_cases b : zBad α s
  · exact ⟨-1, Or.inl ⟨b, rfl⟩⟩
  · rcases zleast (P := zP α ν s) c with ⟨j, hj, p, q⟩ | h
    · exact ⟨nI j, Or.inr ⟨b, Or.inl ⟨j, hj, p, q, rfl⟩⟩⟩
    · exact ⟨-1, Or.inr ⟨b, Or.inr ⟨h, rfl⟩⟩⟩
/-- how many claims -/
def zc (ν : Nat → Int32) : Nat := (ν 3).toNatClampNeg
/-- the claim by which a shape has its finder, or -1 -/
noncomputable def zHx (α : Nat → Nat → Int32) (ν : Nat → Int32) (s : Int32) : Int32 := Classical.epsilon (fun x => zHR α ν (zc ν) s x)
theorem zHx_ok (α : Nat → Nat → Int32) (ν : Nat → Int32) (s : Int32) : zHR α ν (zc ν) s (zHx α ν s) := Classical.epsilon_spec (zHR_ex α ν (zc ν) s)
theorem zHx_eq {x : Int32} (h : zHR α ν (zc ν) s x) : x = zHx α ν s := zHr_one Iff.rfl (fun _ _ => Iff.rfl) h (zHx_ok α ν s)
theorem zHx_bad (h : zBad α s) : zHx α ν s = -1 := (zHx_eq (Or.inl ⟨h, rfl⟩)).symm
theorem zHx_or (α : Nat → Nat → Int32) (ν : Nat → Int32) (s : Int32) : zHx α ν s = -1 ∨ ∃ j, j < zc ν ∧ zHx α ν s = nI j ∧ ν 0 < α 10 j ∧ α 3 (α 9 j).toNatClampNeg = s := by
  rcases zHx_ok α ν s with ⟨_, e⟩ | ⟨b, ⟨j, hj, p, q, e⟩ | ⟨_, e⟩⟩
  · exact Or.inl e
  · exact Or.inr ⟨j, hj, e, p.1, p.2⟩
  · exact Or.inl e
theorem zHx_cg (e1 : α' 1 = α 1) (e2 : α' 2 = α 2) (e3 : α' 3 = α 3) (e9 : α' 9 = α 9) (e10 : α' 10 = α 10) (n0 : ν' 0 = ν 0) (n3 : ν' 3 = ν 3) (s : Int32) : zHx α' ν' s = zHx α ν s := by
  have h : (fun x => zHR α' ν' (zc ν') s x) = (fun x => zHR α ν (zc ν) s x) := by
    funext x
    unfold zHR zBad zNm zP zc
    rw [e1, e2, e3, e9, e10, n0, n3]
  unfold zHx
  rw [h]
/-- the finder of a shape -/
noncomputable def zFn (α : Nat → Nat → Int32) (ν : Nat → Int32) (s : Int32) : Int32 := zfd (α 8) (zHx α ν s)
theorem zFn_bad (h : zBad α s) : zFn α ν s = -1 := by
  unfold zFn
  rw [zHx_bad h]
  rfl
noncomputable def zfo (α : Nat → Nat → Int32) (ν : Nat → Int32) (s : Int32) : Option Nat := if zHx α ν s = -1 then none else some (α 8 (zHx α ν s).toNatClampNeg).toNatClampNeg
theorem zFd_eq {fd : Option Nat} (hc : zc ν ≤ 40) (h : zFd α ν (zc ν) s fd) : fd = zfo α ν s := by
  obtain ⟨x, hx, g⟩ := h
  have e := zHx_eq hx
  unfold zfo
  rcases g with ⟨e1, e2⟩ | ⟨j, f, hj, hf, e1, e2, e3⟩
  · rw [← e, e1, if_pos rfl, e2]
  · rw [← e, e1, if_neg (nI_ne_m1 (by omega)), nI_clamp (by omega), e2, nI_clamp (by omega), e3]
/-- a sign of a title -/
noncomputable def zTv (α : Nat → Nat → Int32) (ν : Nat → Int32) (s : Nat) (p : Int32) : Int32 := zTat (zTt α s (zfo α ν (nI s))) p
/-- what the world holds between two calls; B bounds its counters -/
def zIv (B : Nat) (α : Nat → Nat → Int32) (ν : Nat → Int32) : Prop :=
  (zLow (α 0) (α 3) ∧ ∀ c, c < 96 → ∃ h, h ≤ 9 ∧ α 0 c = nI h) ∧
  (∃ o, o ≤ B ∧ ν 2 = nI o ∧ ∀ c, c < 96 → ∃ t, α 5 c = nI t ∧ t ≤ o) ∧
  ((∃ k, k ≤ B ∧ ν 1 = nI k ∧ ∀ c, c < 96 → ∃ j, j ≤ k ∧ α 2 c = nI j) ∧ zTu α) ∧
  ((∀ d, d < 4 → ∃ a, a ≤ 200 ∧ α 6 d = nI a) ∧ ∀ d, d < 4 → ∃ f, f ≤ 1002000 ∧ α 7 d = nI f) ∧
  (∃ t c, (t ≤ 1000000 ∧ ν 0 = nI t) ∧ (c ≤ 40 ∧ ν 3 = nI c) ∧ ∀ j, j < c → (∃ f, f < 6 ∧ α 8 j = nI f) ∧ (∃ k, k < 96 ∧ α 9 j = nI k) ∧ ∃ b, b ≤ t ∧ α 10 j = nI (b + 28800)) ∧
  (∃ h, h ≤ 60 ∧ ν 4 = nI h) ∧ ∃ q, q ≤ 16 ∧ ν 6 = nI q
theorem zIv_mono {B' : Nat} (h : zIv B α ν) (hb : B ≤ B') : zIv B' α ν := by
  obtain ⟨h1, ⟨o, h2, h2'⟩, ⟨⟨k, h3, h3'⟩, h3''⟩, h4, h5, h6, h7⟩ := h
  exact ⟨h1, ⟨o, by omega, h2'⟩, ⟨⟨k, by omega, h3'⟩, h3''⟩, h4, h5, h6, h7⟩
/-- the claims' part, by how many there are -/
theorem zIv_c (h : zIv B α ν) : ∃ t, (t ≤ 1000000 ∧ ν 0 = nI t) ∧ (zc ν ≤ 40 ∧ ν 3 = nI (zc ν)) ∧ ∀ j, j < zc ν → (∃ f, f < 6 ∧ α 8 j = nI f) ∧ (∃ k, k < 96 ∧ α 9 j = nI k) ∧ ∃ b, b ≤ t ∧ α 10 j = nI (b + 28800) := by
  obtain ⟨-, -, -, -, ⟨t, c, ht, ⟨hc, hν⟩, hj⟩, -, -⟩ := h
  have e : zc ν = c := by
    unfold zc
    rw [hν, nI_clamp (by omega)]
  refine ⟨t, ht, ⟨by omega, by rw [e]; exact hν⟩, fun j h => hj j (by omega)⟩
theorem zIv_ck (h : zIv B α ν) : zCk α ν (zc ν) := by
  obtain ⟨t, _, ⟨h1, h2⟩, h3⟩ := zIv_c h
  exact ⟨h1, h2, fun j hj => (h3 j hj).2.1⟩
theorem zIv_8 (h : zIv B α ν) : ∀ j, j < zc ν → ∃ f, f < 6 ∧ α 8 j = nI f := by
  obtain ⟨t, _, _, h3⟩ := zIv_c h
  exact fun j hj => (h3 j hj).1
theorem zIv_le (h : zIv B α ν) : zc ν ≤ 40 := (zIv_ck h).1
theorem zIv_ou (h : zIv B α ν) (hB : B ≤ 1000000) : ∃ o, o ≤ B ∧ zOu α ν o := by
  obtain ⟨-, ⟨o, h1, h2, h3⟩, -⟩ := h
  exact ⟨o, h1, by omega, h2, h3⟩
theorem zfo_lt (h : zIv B α ν) {f : Nat} (e : zfo α ν s = some f) : f < 6 := by
  have h8 := zIv_8 h
  have hc := zIv_le h
  unfold zfo at e
  rcases zHx_or α ν s with e1 | ⟨j, hj, e1, -, -⟩
  · rw [e1, if_pos rfl] at e
    cases e
  · obtain ⟨g, hg, e8⟩ := h8 j hj
    rw [e1, if_neg (nI_ne_m1 (by omega)), nI_clamp (by omega), e8, nI_clamp (by omega)] at e
    cases e
    exact hg
theorem zTv_12 (h : zIv B α ν) (s : Nat) : zTv α ν s (nI 12) = -1 := by
  have hl : (zTt α s (zfo α ν (nI s))).length ≤ 8 := zTtl_l (fun f e => zfo_lt h e)
  unfold zTv zTat
  rw [if_neg (nI_nlt (by omega) (by decide))]
/-- what asking leaves as it was -/
def zSame (α : Nat → Nat → Int32) (ν : Nat → Int32) (α' : Nat → Nat → Int32) (ν' : Nat → Int32) : Prop := (α' 0 = α 0 ∧ α' 1 = α 1 ∧ α' 2 = α 2 ∧ α' 3 = α 3) ∧ (α' 6 = α 6 ∧ α' 7 = α 7) ∧ (α' 8 = α 8 ∧ α' 9 = α 9 ∧ α' 10 = α 10) ∧ (α' 11 = α 11 ∧ α' 12 = α 12 ∧ α' 13 = α 13) ∧ (ν' 0 = ν 0 ∧ ν' 1 = ν 1 ∧ ν' 3 = ν 3 ∧ ν' 4 = ν 4 ∧ ν' 5 = ν 5)
theorem zSame_r (α : Nat → Nat → Int32) (ν : Nat → Int32) : zSame α ν α ν := ⟨⟨rfl, rfl, rfl, rfl⟩, ⟨rfl, rfl⟩, ⟨rfl, rfl, rfl⟩, ⟨rfl, rfl, rfl⟩, rfl, rfl, rfl, rfl, rfl⟩
theorem zSame_t {α'' : Nat → Nat → Int32} {ν'' : Nat → Int32} (h : zSame α ν α' ν') (g : zSame α' ν' α'' ν'') : zSame α ν α'' ν'' := by
  obtain ⟨⟨a0, a1, a2, a3⟩, ⟨a6, a7⟩, ⟨a8, a9, a10⟩, ⟨a11, a12, a13⟩, n0, n1, n3, n4, n5⟩ := h
  obtain ⟨⟨b0, b1, b2, b3⟩, ⟨b6, b7⟩, ⟨b8, b9, b10⟩, ⟨b11, b12, b13⟩, m0, m1, m3, m4, m5⟩ := g
  exact ⟨⟨b0.trans a0, b1.trans a1, b2.trans a2, b3.trans a3⟩, ⟨b6.trans a6, b7.trans a7⟩, ⟨b8.trans a8, b9.trans a9, b10.trans a10⟩, ⟨b11.trans a11, b12.trans a12, b13.trans a13⟩, m0.trans n0, m1.trans n1, m3.trans n3, m4.trans n4, m5.trans n5⟩
theorem zSame_Hx (h : zSame α ν α' ν') (s : Int32) : zHx α' ν' s = zHx α ν s := by
  obtain ⟨⟨a0, a1, a2, a3⟩, ⟨a6, a7⟩, ⟨a8, a9, a10⟩, ⟨a11, a12, a13⟩, n0, n1, n3, n4, n5⟩ := h
  exact zHx_cg a1 a2 a3 a9 a10 n0 n3 s
theorem zSame_Fn (h : zSame α ν α' ν') (s : Int32) : zFn α' ν' s = zFn α ν s := by
  unfold zFn
  rw [zSame_Hx h, h.2.2.1.1]
theorem zSame_Nm (h : zSame α ν α' ν') (s : Int32) : zNm α' s = zNm α s := by
  obtain ⟨⟨a0, a1, a2, a3⟩, -⟩ := h
  unfold zNm
  rw [a1, a2, a3]
theorem zSame_Tv (h : zSame α ν α' ν') (s : Nat) (p : Int32) : zTv α' ν' s p = zTv α ν s p := by
  unfold zTv zTt zfo
  rw [zSame_Hx h, zSame_Nm h, h.2.2.1.1, h.1.2.2.2]
theorem zIv_ttl {a : Nat → Int32} {y : Int32} {q : Nat} (h : zIv B α ν) (hq : q ≤ 16) : zIv B (zu α 14 a) (zu (zu ν 7 y) 6 (nI q)) := by
  obtain ⟨h1, h2, h3, h4, h5, h6, h7⟩ := h
  exact ⟨h1, h2, h3, h4, h5, h6, q, hq, rfl⟩
theorem zSame_ttl (α : Nat → Nat → Int32) (ν : Nat → Int32) (a : Nat → Int32) (y v : Int32) : zSame α ν (zu α 14 a) (zu (zu ν 7 y) 6 v) := ⟨⟨rfl, rfl, rfl, rfl⟩, ⟨rfl, rfl⟩, ⟨rfl, rfl, rfl⟩, ⟨rfl, rfl, rfl⟩, rfl, rfl, rfl, rfl, rfl⟩
theorem zIv_fbs {a4 a5 : Nat → Int32} {o : Nat} (h : zIv B α ν) (ho : o ≤ B) (h5 : ∀ c, c < 96 → ∃ t, a5 c = nI t ∧ t ≤ o + 1) : zIv (B + 1) (zu (zu α 5 a5) 4 a4) (zu ν 2 (nI (o + 1))) := by
  obtain ⟨h1, h2, ⟨⟨k, h3, h3'⟩, h3''⟩, h4, h5', h6, h7⟩ := h
  exact ⟨h1, ⟨o + 1, by omega, rfl, h5⟩, ⟨⟨k, by omega, h3'⟩, h3''⟩, h4, h5', h6, h7⟩
theorem zSame_fbs (α : Nat → Nat → Int32) (ν : Nat → Int32) (a4 a5 : Nat → Int32) (v : Int32) : zSame α ν (zu (zu α 5 a5) 4 a4) (zu ν 2 v) := ⟨⟨rfl, rfl, rfl, rfl⟩, ⟨rfl, rfl⟩, ⟨rfl, rfl, rfl⟩, ⟨rfl, rfl, rfl⟩, rfl, rfl, rfl, rfl, rfl⟩
/-- the rewards and what the law kept -/
def zSu (α : Nat → Nat → Int32) (ν : Nat → Int32) : Nat → Int32
  | 0 => ν 5
  | n + 1 => zSu α ν n + α 13 n
theorem zSu_cg (e : α' 13 = α 13) (e5 : ν' 5 = ν 5) : ∀ n, zSu α' ν' n = zSu α ν n
  | 0 => e5
  | n + 1 => by
    show zSu α' ν' n + α' 13 n = zSu α ν n + α 13 n
    rw [zSu_cg e e5 n, e]
theorem zSu_kept {v : Int32} (e : α' 13 = α 13) (e5 : ν' 5 = ν 5 + v) : ∀ n, zSu α' ν' n = zSu α ν n + v
  | 0 => e5
  | n + 1 => by
    show zSu α' ν' n + α' 13 n = zSu α ν n + α 13 n + v
    rw [zSu_kept e e5 n, e]
    ac_rfl
theorem zSu_lo {f : Nat} {x v : Int32} (e : α' 13 = upd (α 13) f x) (e5 : ν' 5 = ν 5 + v) : ∀ n, n ≤ f → zSu α' ν' n = zSu α ν n + v
  | 0, _ => e5
  | n + 1, h => by
    show zSu α' ν' n + α' 13 n = zSu α ν n + α 13 n + v
    rw [zSu_lo e e5 n (by omega), e, pk_un (by omega)]
    ac_rfl
theorem zSu_hi {f : Nat} {x v : Int32} (e : α' 13 = upd (α 13) f (α 13 f + x)) (e5 : ν' 5 = ν 5 + v) : ∀ n, f < n → zSu α' ν' n = zSu α ν n + (v + x)
  | 0, h => absurd h (Nat.not_lt_zero f)
  | n + 1, h => by
    show zSu α' ν' n + α' 13 n = zSu α ν n + α 13 n + (v + x)
    by_cases e1 : n = f
    · subst e1
      rw [zSu_lo e e5 n (Nat.le_refl n), e, pk_us]
      ac_rfl
    · rw [zSu_hi e e5 n (by omega), e, pk_un e1]
      ac_rfl
/-! pure facts of shapes -/
theorem zcnt_m1 (f : Nat → Int32) : ∀ n, zcnt f (-1) n = 0
  | 0 => rfl
  | n + 1 => (zcnt_f (fun h => h.1 rfl)).trans (zcnt_m1 f n)
theorem znm_m1 (f t m : Nat → Int32) : ∀ n, znm f t m (-1) n = (0, 0)
  | 0 => rfl
  | n + 1 => (znm_f (Or.inl (fun h => h.1 rfl))).trans (znm_m1 f t m n)
theorem zmx_m1 (f h : Nat → Int32) : ∀ n, zmx f h (-1) n = 0
  | 0 => rfl
  | n + 1 => (zmx_f (fun h => h.1 rfl)).trans (zmx_m1 f h n)
theorem zmx_ge {f h : Nat → Int32} {k : Nat} (hs : s ≠ -1) (hk : f k = s) : ∀ n, k < n → ¬ zmx f h s n < h k
  | 0, q => absurd q (Nat.not_lt_zero k)
  | n + 1, hn => by
    by_cases q : s ≠ -1 ∧ f n = s
    · rw [zmx_t q]
      by_cases e : k = n
      · subst e
        split
        · exact i32_irrefl _
        · assumption
      · have ih := zmx_ge (h := h) hs hk n (by omega)
        split
        · rename_i g
          intro g2
          apply ih
          rw [Int32.lt_iff_toInt_lt] at g g2 ⊢
          omega
        · exact ih
    · rw [zmx_f q]
      have : k ≠ n := fun e => q ⟨hs, e ▸ hk⟩
      exact zmx_ge hs hk n (by omega)
theorem zLow_rep {h f : Nat → Int32} {k j : Nat} (hl : zLow h f) (hk : k < 96) (hj : j < 96) (e : f k = nI j) : j ≤ k ∧ f j = nI j ∧ h k ≠ 0 := by
  rcases hl k hk with ⟨_, e1⟩ | ⟨h0, i, e1, g, m⟩
  · exact absurd (e.symm.trans e1) (nI_ne_m1 (by omega))
  · have hi := (zcon_beg g).1
    have : j = i := nI_inj (by omega) (by omega) (e.symm.trans e1)
    subst this
    refine ⟨m k (zcon_refl hk h0), ?_, h0⟩
    rcases hl j hj with ⟨e0, _⟩ | ⟨_, i, e2, g2, m2⟩
    · exact absurd e0 (zcon_beg g).2
    · have h1 : j ≤ i := m i (zcon_trans g2 g)
      have h2 : i ≤ j := m2 j (zcon_refl hj (zcon_beg g).2)
      have : i = j := by omega
      rw [e2, this]
/-- the mark laid last tells the name -/
theorem znm_last {f t m : Nat → Int32} {k : Nat} {T : Nat} (hk : k < 96) (hs : s ≠ -1) (hf : f k = s) (ht : t k = nI T) (h0 : 0 < T) (hT : T < 2 ^ 31) (hlt : ∀ c, c < 96 → c ≠ k → ∃ j, j < T ∧ t c = nI j) : (znm f t m s 96).2 = m k := by
  rcases znm_mxp f t m s 96 with ⟨a, _⟩ | ⟨c, ⟨hc, _⟩, b, e, g⟩
  · have := a k ⟨hk, hs, hf⟩
    rw [ht] at this
    exact absurd (nI_lt (a := 0) h0 hT) this
  · rw [e]
    by_cases e2 : c = k
    · rw [e2]
    · obtain ⟨j, hj, ej⟩ := hlt c hc e2
      have := g k ⟨hk, hs, hf⟩
      rw [ht, ej] at this
      exact absurd (nI_lt hj hT) this
end ZOB
