/-! ===== CLASS AND MODEL SIDE BY SIDE ===== -/
def zRel (n : Nat) (α : Nat → Nat → Int32) (ν : Nat → Int32) (β : Nat → Nat → Int32) (μ : Nat → Int32) : Prop :=
  ((α 0 = β 0 ∧ α 1 = β 1 ∧ α 2 = β 2) ∧ (α 6 = β 6 ∧ α 7 = β 7) ∧ (α 8 = β 8 ∧ α 9 = β 9) ∧ (α 11 = β 11 ∧ α 12 = β 12 ∧ α 13 = β 13)) ∧
  (zLow (α 0) (α 3) ∧ zLow (β 0) (β 3)) ∧
  (∃ o, o ≤ 97 * n ∧ ν 2 = nI o ∧ ∀ c, c < 96 → ∃ t, α 5 c = nI t ∧ t ≤ o) ∧
  (∃ k, k ≤ n ∧ ν 1 = nI k ∧ μ 1 = nI k ∧ ∀ c, c < 96 → ∃ j, j ≤ k ∧ α 2 c = nI j) ∧ zTu α ∧
  (∃ t, t ≤ 1000000 ∧ ν 0 = nI t ∧ μ 0 = nI t) ∧
  (∀ d, d < 4 → ∃ a, a ≤ 200 ∧ α 6 d = nI a) ∧ (∀ d, d < 4 → ∃ f, f ≤ 1002000 ∧ α 7 d = nI f) ∧
  (∃ c, c ≤ 40 ∧ ν 3 = nI c ∧ μ 3 = nI c ∧ ∀ j, j < c → (∃ f, f < 6 ∧ α 8 j = nI f) ∧ (∃ k, k < 96 ∧ α 9 j = nI k) ∧ ∃ b, b ≤ 1000000 ∧ β 10 j = nI b ∧ α 10 j = nI (b + 28800)) ∧
  (∃ h, h ≤ 60 ∧ ν 4 = nI h ∧ μ 4 = nI h) ∧ ν 5 = μ 5 ∧ ∃ q, q ≤ 16 ∧ ν 6 = nI q
theorem zRel_th {n t : Nat} {α : Nat → Nat → Int32} {ν : Nat → Int32} {β : Nat → Nat → Int32} {μ : Nat → Int32} (h : zRel n α ν β μ) : zRel (n + 1) α ν β (zTh μ t) := by
  obtain ⟨h1, h2, ⟨o, h3, h3'⟩, ⟨k, h4, h4'⟩, h5, h6, h7, h8, h9, h10, h11, h12⟩ := h
  exact ⟨h1, h2, ⟨o, by omega, h3'⟩, ⟨k, by omega, h4'⟩, h5, h6, h7, h8, h9, h10, h11, h12⟩
/-- a number is told from n-1 calls on -/
theorem zRel_mu {n : Nat} {α : Nat → Nat → Int32} {ν : Nat → Int32} {β : Nat → Nat → Int32} {μ μ' : Nat → Int32} (h : zRel n α ν β μ) (e : ∀ i, i ≠ 7 → μ' i = μ i) : zRel n α ν β μ' := by
  obtain ⟨h1, h2, h3, ⟨k, h4, h4a, h4b, h4c⟩, h5, ⟨t, h6, h6a, h6b⟩, h7, h8, ⟨c, h9, h9a, h9b, h9c⟩, ⟨q, h10, h10a, h10b⟩, h11, h12⟩ := h
  exact ⟨h1, h2, h3, ⟨k, h4, h4a, (e 1 (by decide)).trans h4b, h4c⟩, h5, ⟨t, h6, h6a, (e 0 (by decide)).trans h6b⟩, h7, h8, ⟨c, h9, h9a, (e 3 (by decide)).trans h9b, h9c⟩, ⟨q, h10, h10a, (e 4 (by decide)).trans h10b⟩, h11.trans (e 5 (by decide)).symm, h12⟩
theorem zRel_up {n : Nat} {α : Nat → Nat → Int32} {ν : Nat → Int32} {β : Nat → Nat → Int32} {μ : Nat → Int32} (h : zRel n α ν β μ) : zRel (n + 1) α ν β μ := zRel_mu (zRel_th (t := 0) h) (fun i hi => (zTh_ne μ 0 i hi).symm)
section ZREL
variable {n : Nat} {α : Nat → Nat → Int32} {ν : Nat → Int32} {β : Nat → Nat → Int32} {μ : Nat → Int32}
theorem zRel_3 (h : zRel n α ν β μ) : ∀ k, k < 96 → α 3 k = β 3 k := by
  obtain ⟨⟨⟨e0, -⟩, -⟩, ⟨l1, l2⟩, -⟩ := h
  intro k hk
  have l3 := l1 k hk
  rw [e0] at l3
  exact zLow_one l3 (l2 k hk)
theorem zcs_congr {f g : Nat → Int32} : ∀ {n : Nat}, (∀ k, k < n → f k = g k) → zcs f n = zcs g n
  | 0, _ => rfl
  | n + 1, e => by
    have ih := zcs_congr (n := n) (fun k hk => e k (by omega))
    by_cases h : f n = nI n
    · rw [zcs_t h, zcs_t ((e n (by omega)).symm.trans h), ih]
    · rw [zcs_f h, zcs_f (fun q => h ((e n (by omega)).trans q)), ih]
theorem zcnt_congr {f g : Nat → Int32} {s : Int32} : ∀ {n : Nat}, (∀ k, k < n → f k = g k) → zcnt f s n = zcnt g s n
  | 0, _ => rfl
  | n + 1, e => by
    have ih := zcnt_congr (s := s) (n := n) (fun k hk => e k (by omega))
    have en := e n (by omega)
    by_cases h : s ≠ -1 ∧ f n = s
    · rw [zcnt_t h, zcnt_t (by rw [← en]; exact h), ih]
    · rw [zcnt_f h, zcnt_f (by rw [← en]; exact h), ih]
theorem znm_congr {f g t m : Nat → Int32} {s : Int32} : ∀ {n : Nat}, (∀ k, k < n → f k = g k) → znm f t m s n = znm g t m s n
  | 0, _ => rfl
  | n + 1, e => by
    have ih := znm_congr (t := t) (m := m) (s := s) (n := n) (fun k hk => e k (by omega))
    have en := e n (by omega)
    show (if (s ≠ -1 ∧ f n = s) ∧ (znm f t m s n).1 < t n then (t n, m n) else znm f t m s n) = (if (s ≠ -1 ∧ g n = s) ∧ (znm g t m s n).1 < t n then (t n, m n) else znm g t m s n)
    rw [en, ih]
theorem zmx_congr {f g h : Nat → Int32} {s : Int32} : ∀ {n : Nat}, (∀ k, k < n → f k = g k) → zmx f h s n = zmx g h s n
  | 0, _ => rfl
  | n + 1, e => by
    have ih := zmx_congr (h := h) (s := s) (n := n) (fun k hk => e k (by omega))
    have en := e n (by omega)
    show (if s ≠ -1 ∧ f n = s then (if zmx f h s n < h n then h n else zmx f h s n) else zmx f h s n) = (if s ≠ -1 ∧ g n = s then (if zmx g h s n < h n then h n else zmx g h s n) else zmx g h s n)
    rw [en, ih]
theorem zRel_nm (h : zRel n α ν β μ) (s : Int32) : zNm α s = zNm β s := by
  have e := zRel_3 h
  obtain ⟨⟨⟨-, e1, e2⟩, -⟩, -⟩ := h
  unfold zNm
  rw [e1, e2, znm_congr e]
theorem zRel_bad (h : zRel n α ν β μ) (s : Int32) : zBad α s ↔ zBad β s := by
  unfold zBad
  rw [zRel_nm h s]
theorem zHr_imp {bad bad' : Prop} {P P' : Nat → Prop} {c : Nat} {x : Int32} (eb : bad ↔ bad') (e : ∀ j, j < c → (P j ↔ P' j)) (h : zHr bad P c x) : zHr bad' P' c x := by
  rcases h with ⟨b, hx⟩ | ⟨b, ⟨j, hj, p, q, hx⟩ | ⟨q, hx⟩⟩
  · exact Or.inl ⟨eb.mp b, hx⟩
  · exact Or.inr ⟨fun g => b (eb.mpr g), Or.inl ⟨j, hj, (e j hj).mp p, fun i hi g => q i hi ((e i (by omega)).mpr g), hx⟩⟩
  · exact Or.inr ⟨fun g => b (eb.mpr g), Or.inr ⟨fun j hj g => q j hj ((e j hj).mpr g), hx⟩⟩
theorem zRun_iff {t b : Nat} (ht : t ≤ 1000000) (hb : b ≤ 1000000) : nI t < nI (b + 28800) ↔ nI t - nI b < nI 28800 := by
  rw [nI_ltI (by omega) (by omega), Int32.lt_iff_toInt_lt, pk_sub_toInt (by omega) (by omega), nI_toInt (by decide)]
  omega
/-- what the claims' numbers give -/
theorem zRel_c (h : zRel n α ν β μ) : ∃ c, zCk α ν c ∧ zCm β μ c ∧ (∀ j, j < c → ∃ f, f < 6 ∧ α 8 j = nI f) ∧ (∀ j, j < c → ∃ f, f < 6 ∧ β 8 j = nI f) ∧ (∀ j, j < c → (ν 0 < α 10 j ↔ μ 0 - β 10 j < nI 28800)) ∧ ∀ s x, zHR α ν c s x ↔ zHM β μ c s x := by
  have e3 := zRel_3 h
  have hb := zRel_bad h
  obtain ⟨⟨-, -, ⟨e8, e9⟩, -⟩, -, -, -, -, ⟨t, ht, t1, t2⟩, -, -, ⟨c, hc, c1, c2, hj⟩, -⟩ := h
  have hr : ∀ j, j < c → (ν 0 < α 10 j ↔ μ 0 - β 10 j < nI 28800) := fun j h => by
    obtain ⟨-, -, b, hb1, hb2, hb3⟩ := hj j h
    rw [t1, t2, hb2, hb3]
    exact zRun_iff ht hb1
  have hp : ∀ s j, j < c → (zP α ν s j ↔ zQr β μ s j) := fun s j h => by
    obtain ⟨-, ⟨k, hk, ek⟩, -⟩ := hj j h
    unfold zP zQr
    rw [hr j h, ← e9, show (α 9 j).toNatClampNeg = k by rw [ek, nI_clamp (by omega)], e3 k hk]
  refine ⟨c, ⟨hc, c1, fun j h => (hj j h).2.1⟩, ⟨hc, c2, fun j h => by rw [← e9]; exact (hj j h).2.1⟩, fun j h => (hj j h).1, fun j h => by rw [← e8]; exact (hj j h).1, hr, fun s x => ⟨fun q => zHr_imp (hb s) (hp s) q, fun q => zHr_imp (hb s).symm (fun j h => (hp s j h).symm) q⟩⟩
theorem zRst_iff {f t : Nat} (hf : f ≤ 1002000) (ht : t ≤ 1000000) : (zrst (nI f) (nI t) = 0 ↔ ¬ nI t < nI f) ∧ zrst (nI f) (nI t) = zrsm (nI f) (nI t) := by
  have e0 : (0 : Int32).toInt = 0 := by decide
  have h1 : (0 < nI f - nI t) ↔ nI t < nI f := by
    rw [Int32.lt_iff_toInt_lt, pk_sub_toInt (by omega) (by omega), nI_ltI (by omega) (by omega), e0]
    omega
  constructor
  · unfold zrst
    by_cases h : (0 : Int32) < nI f - nI t
    · rw [if_pos h]
      constructor
      · intro e
        rw [e] at h
        exact absurd h (i32_irrefl 0)
      · intro e
        exact absurd (h1.mp h) e
    · rw [if_neg h]
      exact ⟨fun _ q => h (h1.mpr q), fun _ => rfl⟩
  · unfold zrst zrsm
    by_cases h : nI t < nI f
    · rw [if_pos h, if_pos (h1.mpr h)]
    · rw [if_neg h, if_neg (fun q => h (h1.mp q))]
theorem zRel_free (h : zRel n α ν β μ) {d : Nat} (hd : d < 4) : (zrst (α 7 d) (ν 0) = 0 ↔ ¬ μ 0 < β 7 d) ∧ zrst (α 7 d) (ν 0) = zrsm (β 7 d) (μ 0) := by
  obtain ⟨⟨-, ⟨-, e7⟩, -⟩, -, -, -, -, ⟨t, ht, t1, t2⟩, -, h8, -⟩ := h
  obtain ⟨f, hf, ef⟩ := h8 d hd
  rw [← e7, ef, t1, t2]
  exact zRst_iff hf ht
theorem zRel_dv (h : zRel n α ν β μ) {d k m : Nat} (hd : d < 4) : zDv α ν d k m ↔ zDm β μ d k m := by
  have h1 := (zRel_free h hd).1
  obtain ⟨⟨-, ⟨e6, -⟩, -⟩, -⟩ := h
  unfold zDv zDm
  rw [h1, e6]
end ZREL
/-- how a call of class and model ends -/
def zEnd (n : Nat) (k : Int32) (rv : Option Value) (w : zW) : Prop := ∃ α ν β μ f, w = zW3 α ν β μ f ∧ zRel (n + 1) α ν β μ ∧ ∃ t b, k = nI t ∧ t ≤ 3 ∧ μ 7 = nI t ∧ rv = some (.int b) ∧ (t = 0 → f 0 = b.toInt64)
theorem zEnd_x {n t : Nat} {α : Nat → Nat → Int32} {ν : Nat → Int32} {β : Nat → Nat → Int32} {μ : Nat → Int32} {f : Nat → Int64} {b : Int32} (h : zRel (n + 1) α ν β μ) (h0 : t ≠ 0) (h3 : t ≤ 3) (e : μ 7 = nI t) : zEnd n (nI t) (some (.int b)) (zW3 α ν β μ f) := ⟨α, ν, β, μ, f, rfl, h, t, b, rfl, h3, e, rfl, fun q => absurd q h0⟩
theorem zEnd_r {n : Nat} {α : Nat → Nat → Int32} {ν : Nat → Int32} {β : Nat → Nat → Int32} {μ : Nat → Int32} {f : Nat → Int64} {b : Int32} (h : zRel (n + 1) α ν β μ) (e : μ 7 = nI 0) (ef : f 0 = b.toInt64) : zEnd n (nI 0) (some (.int b)) (zW3 α ν β μ f) := ⟨α, ν, β, μ, f, rfl, h, 0, b, rfl, by decide, e, rfl, fun _ => ef⟩
theorem zupdL (f : Nat → Int64) (v : Int64) : vp_updL f 0 v 0 = v := by simp [vp_updL]
def zJ (SpW SpM : zSpec) (aW aM : zS) (n : Nat) (α : Nat → Nat → Int32) (ν : Nat → Int32) (β : Nat → Nat → Int32) (μ : Nat → Int32) (f : Nat → Int64) : Prop := ∀ (N1 : Option Value → zW → Prop) (X1 : String → zW → Prop), (∀ k α' ν' f', (∀ (N2 : Option Value → zW → Prop) (X2 : String → zW → Prop), (∀ rv w2, zEnd n k rv w2 → N2 rv w2) → SpM aM (zW3 α' ν' β μ f') N2 X2) → N1 (some (.int k)) (zW3 α' ν' β μ f')) → SpW aW (zW3 α ν β μ f) N1 X1
