/-! ===== SHAPES: pure facts of the chart ===== -/
theorem zholes : ∀ (m n : Nat) (f : Nat → Nat), (∀ i, i < n → f i < m) → (∀ i j, i < j → j < n → f i ≠ f j) → n ≤ m := by
  intro m
  induction m with
  | zero =>
    intro n f h1 _
    rcases Nat.eq_zero_or_pos n with h | h
    · omega
    · exact absurd (h1 0 h) (Nat.not_lt_zero _)
  | succ m ih =>
    intro n f h1 h2
    by_cases hx : ∃ i, i < n ∧ f i = m
    · obtain ⟨a, ha, hfa⟩ := hx
      have hg := ih (n - 1) (fun i => if i < a then f i else f (i + 1)) (by
        intro i hi
        by_cases q : i < a
        · simp only [if_pos q]
          have b1 := h1 i (by omega)
          have b2 := h2 i a q ha
          omega
        · simp only [if_neg q]
          have b1 := h1 (i + 1) (by omega)
          have b2 := h2 a (i + 1) (by omega) (by omega)
          omega) (by
        intro i j hij hj
        by_cases q : i < a
        · by_cases r : j < a
          · simp only [if_pos q, if_pos r]
            exact h2 i j hij (by omega)
          · simp only [if_pos q, if_neg r]
            exact h2 i (j + 1) (by omega) (by omega)
        · have r : ¬ j < a := by omega
          simp only [if_neg q, if_neg r]
          exact h2 (i + 1) (j + 1) (by omega) (by omega))
      omega
    · have hg := ih n f (by
        intro i hi
        have b1 := h1 i hi
        have b2 : f i ≠ m := fun e => hx ⟨i, hi, e⟩
        omega) h2
      omega
/-- neighbours -/
def zadj (a b : Nat) : Prop := b + 12 = a ∨ a + 12 = b ∨ (a % 12 > 0 ∧ b + 1 = a) ∨ (a % 12 < 11 ∧ b = a + 1)
theorem zadj_symm {a b : Nat} (h : zadj a b) : zadj b a := by
  unfold zadj at h ⊢
  omega
/-- from a to b over n steps between neighbours with heights above 0 -/
def zrc (h : Nat → Int32) : Nat → Nat → Nat → Prop
  | 0, a, b => a = b ∧ a < 96 ∧ h a ≠ 0
  | n + 1, a, b => ∃ c, zrc h n a c ∧ zadj c b ∧ b < 96 ∧ h b ≠ 0
def zcon (h : Nat → Int32) (a b : Nat) : Prop := ∃ n, zrc h n a b
theorem zrc_end {h : Nat → Int32} : ∀ {n a b : Nat}, zrc h n a b → b < 96 ∧ h b ≠ 0
  | 0, a, b, q => by obtain ⟨rfl, q⟩ := q; exact q
  | n + 1, a, b, q => by obtain ⟨c, -, -, q⟩ := q; exact q
theorem zcon_end {h : Nat → Int32} {a b : Nat} (q : zcon h a b) : b < 96 ∧ h b ≠ 0 := zrc_end q.choose_spec
theorem zcon_refl {h : Nat → Int32} {a : Nat} (h1 : a < 96) (h2 : h a ≠ 0) : zcon h a a := ⟨0, rfl, h1, h2⟩
theorem zcon_step {h : Nat → Int32} {a b c : Nat} (q : zcon h a b) (hb : zadj b c) (h1 : c < 96) (h2 : h c ≠ 0) : zcon h a c := by
  obtain ⟨n, q⟩ := q
  exact ⟨n + 1, b, q, hb, h1, h2⟩
theorem zcon_trans {h : Nat → Int32} {a b c : Nat} (q : zcon h a b) (r : zcon h b c) : zcon h a c := by
  obtain ⟨n, r⟩ := r
  induction n generalizing c with
  | zero => obtain ⟨rfl, -, -⟩ := r; exact q
  | succ n ih =>
    obtain ⟨d, r1, r2, r3, r4⟩ := r
    exact zcon_step (ih r1) r2 r3 r4
theorem zcon_symm {h : Nat → Int32} {a b : Nat} (q : zcon h a b) : zcon h b a := by
  obtain ⟨n, q⟩ := q
  induction n generalizing b with
  | zero => obtain ⟨rfl, h1, h2⟩ := q; exact zcon_refl h1 h2
  | succ n ih =>
    obtain ⟨c, q1, q2, q3, q4⟩ := q
    have e := zrc_end q1
    exact zcon_trans (zcon_step (zcon_refl q3 q4) (zadj_symm q2) e.1 e.2) (ih q1)
theorem zcon_beg {h : Nat → Int32} {a b : Nat} (q : zcon h a b) : a < 96 ∧ h a ≠ 0 := zcon_end (zcon_symm q)
theorem zcon_closed {h : Nat → Int32} {a b : Nat} {S : Nat → Prop} (h0 : S a) (hs : ∀ c d, S c → zadj c d → d < 96 → h d ≠ 0 → S d) (q : zcon h a b) : S b := by
  obtain ⟨n, q⟩ := q
  induction n generalizing b with
  | zero => obtain ⟨rfl, -, -⟩ := q; exact h0
  | succ n ih =>
    obtain ⟨c, q1, q2, q3, q4⟩ := q
    exact hs c b (ih q1) q2 q3 q4
theorem zcon_congr {h g : Nat → Int32} (e : ∀ k, k < 96 → h k = g k) {a b : Nat} (q : zcon h a b) : zcon g a b := by
  obtain ⟨n, q⟩ := q
  induction n generalizing b with
  | zero => obtain ⟨rfl, h1, h2⟩ := q; exact zcon_refl h1 (by rw [← e a h1]; exact h2)
  | succ n ih =>
    obtain ⟨c, q1, q2, q3, q4⟩ := q
    exact zcon_step (ih q1) q2 q3 (by rw [← e b q3]; exact q4)
/-- cell k is told by the lowest of its shape, or by -1 -/
def zlowAt (h f : Nat → Int32) (k : Nat) : Prop := (h k = 0 ∧ f k = -1) ∨ (h k ≠ 0 ∧ ∃ j, f k = nI j ∧ zcon h j k ∧ ∀ i, zcon h i k → j ≤ i)
def zLow (h f : Nat → Int32) : Prop := ∀ k, k < 96 → zlowAt h f k
theorem nI_ne_m1 {j : Nat} (hj : j < 2 ^ 31) : nI j ≠ -1 := by
  intro e
  have h := congrArg Int32.toInt e
  rw [nI_toInt hj] at h
  have h2 : (-1 : Int32).toInt = -1 := by decide
  rw [h2] at h
  omega
theorem nI_inj {a b : Nat} (ha : a < 2 ^ 31) (hb : b < 2 ^ 31) (e : nI a = nI b) : a = b := (nI_eq ha hb).mp e
theorem zLow_one {h f g : Nat → Int32} {k : Nat} (hf : zlowAt h f k) (hg : zlowAt h g k) : f k = g k := by
  rcases hf with ⟨a1, a2⟩ | ⟨a1, i, a2, a3, a4⟩ <;> rcases hg with ⟨b1, b2⟩ | ⟨b1, j, b2, b3, b4⟩
  · rw [a2, b2]
  · exact absurd a1 b1
  · exact absurd b1 a1
  · have e : i = j := Nat.le_antisymm (a4 j b3) (b4 i a3)
    rw [a2, b2, e]
/-- the shapes whose lowest cells lie below c are told, all else is -1 -/
def zLowTo (h : Nat → Int32) (c : Nat) (f : Nat → Int32) : Prop := ∀ k, k < 96 → ((∃ i, i < c ∧ zcon h i k) → zlowAt h f k) ∧ ((¬ ∃ i, i < c ∧ zcon h i k) → f k = -1)
theorem zLowTo_all {h f : Nat → Int32} (q : zLowTo h 96 f) : zLow h f := by
  intro k hk
  by_cases e : h k = 0
  · refine Or.inl ⟨e, (q k hk).2 ?_⟩
    rintro ⟨i, -, hi⟩
    exact (zcon_end hi).2 e
  · exact (q k hk).1 ⟨k, hk, zcon_refl hk e⟩
theorem zLowTo_0 {h f : Nat → Int32} (q : ∀ k, k < 96 → f k = -1) : zLowTo h 0 f := fun k hk => ⟨fun ⟨_, hi, _⟩ => absurd hi (Nat.not_lt_zero _), fun _ => q k hk⟩
/-- where c is in a shape that is told, or in none, there is nothing to do -/
theorem zLowTo_skip {h f : Nat → Int32} {c : Nat} (hc : c < 96) (q : zLowTo h c f) (hn : f c ≠ -1 ∨ h c = 0) : zLowTo h (c + 1) f := by
  have key : ∀ k, (∃ i, i < c + 1 ∧ zcon h i k) → ∃ i, i < c ∧ zcon h i k := by
    rintro k ⟨i, hi, hik⟩
    by_cases e : i < c
    · exact ⟨i, e, hik⟩
    · have e2 : i = c := by omega
      subst e2
      rcases hn with hn | hn
      · by_cases x : ∃ j, j < i ∧ zcon h j i
        · obtain ⟨j, hj, hji⟩ := x
          exact ⟨j, hj, zcon_trans hji hik⟩
        · exact absurd ((q i hc).2 x) hn
      · exact absurd hn (zcon_beg hik).2
  intro k hk
  exact ⟨fun x => (q k hk).1 (key k x), fun x => (q k hk).2 (fun ⟨i, hi, hik⟩ => x ⟨i, by omega, hik⟩)⟩
/-- c is the lowest of a shape: its cells are told by c -/
theorem zLowTo_put {h f g : Nat → Int32} {c : Nat} (hc : c < 96) (q : zLowTo h c f) (hn : f c = -1) (h0 : h c ≠ 0) (h1 : ∀ k, k < 96 → zcon h c k → g k = nI c) (h2 : ∀ k, k < 96 → ¬ zcon h c k → g k = f k) : zLowTo h (c + 1) g := by
  have hno : ∀ i, i < c → ¬ zcon h i c := by
    intro i hi hic
    rcases (q c hc).1 ⟨i, hi, hic⟩ with ⟨e, -⟩ | ⟨-, j, e, hj, -⟩
    · exact h0 e
    · rw [hn] at e
      exact nI_ne_m1 (by have := (zcon_beg hj).1; omega) e.symm
  intro k hk
  by_cases e : zcon h c k
  · refine ⟨fun _ => Or.inr ⟨(zcon_end e).2, c, h1 k hk e, e, fun i hi => ?_⟩, fun x => absurd ⟨c, by omega, e⟩ x⟩
    apply Classical.byContradiction
    intro hlt
    exact hno i (by omega) (zcon_trans hi (zcon_symm e))
  · have hg := h2 k hk e
    constructor
    · rintro ⟨i, hi, hik⟩
      have hi2 : i < c := by
        apply Classical.byContradiction
        intro x
        have : i = c := by omega
        subst this
        exact e hik
      rcases (q k hk).1 ⟨i, hi2, hik⟩ with ⟨a, b⟩ | ⟨a, j, b, d⟩
      · exact Or.inl ⟨a, by rw [hg]; exact b⟩
      · exact Or.inr ⟨a, j, by rw [hg]; exact b, d⟩
    · intro x
      rw [hg]
      exact (q k hk).2 (fun ⟨i, hi, hik⟩ => x ⟨i, by omega, hik⟩)
/-- an outing from k: n cells ρ reached, of the first i of them all neighbours -/
def zBF (h : Nat → Int32) (k n i : Nat) (ρ : Nat → Nat) : Prop :=
  i ≤ n ∧ (∀ j, j < n → zcon h k (ρ j)) ∧ (∀ a b, a < b → b < n → ρ a ≠ ρ b) ∧ (h k ≠ 0 → ∃ j, j < n ∧ ρ j = k) ∧ (∀ j, j < i → ∀ b, b < 96 → zadj (ρ j) b → h b ≠ 0 → ∃ j', j' < n ∧ ρ j' = b)
theorem zBF_le {h : Nat → Int32} {k n i : Nat} {ρ : Nat → Nat} (q : zBF h k n i ρ) : n ≤ 96 := zholes 96 n ρ (fun j hj => (zcon_end (q.2.1 j hj)).1) q.2.2.1
theorem zBF_lt {h : Nat → Int32} {k n i : Nat} {ρ : Nat → Nat} (q : zBF h k n i ρ) {b : Nat} (hb : b < 96) (hv : ∀ j, j < n → ρ j ≠ b) : n < 96 := by
  have h1 := zholes 96 (n + 1) (fun j => if j < n then ρ j else b) (fun j hj => by
    by_cases e : j < n
    · simp only [if_pos e]
      exact (zcon_end (q.2.1 j e)).1
    · simp only [if_neg e]
      exact hb) (fun a c hac hc => by
    by_cases e : c < n
    · have e2 : a < n := by omega
      simp only [if_pos e, if_pos e2]
      exact q.2.2.1 a c hac e
    · have e2 : a < n := by omega
      simp only [if_neg e, if_pos e2]
      exact hv a e2)
  omega
theorem zBF_done {h : Nat → Int32} {k n : Nat} {ρ : Nat → Nat} (q : zBF h k n n ρ) (b : Nat) : zcon h k b ↔ ∃ j, j < n ∧ ρ j = b := by
  obtain ⟨-, q1, q2, q3, q4⟩ := q
  constructor
  · intro hb
    refine zcon_closed (S := fun b => ∃ j, j < n ∧ ρ j = b) (q3 (zcon_beg hb).2) ?_ hb
    rintro c d ⟨j, hj, rfl⟩ h1 h2 h3
    exact q4 j hj d h2 h1 h3
  · rintro ⟨j, hj, rfl⟩
    exact q1 j hj
theorem zBF_0 {h : Nat → Int32} {k : Nat} (ρ : Nat → Nat) (e : h k = 0) : zBF h k 0 0 ρ :=
  ⟨Nat.le_refl 0, fun j hj => absurd hj (Nat.not_lt_zero j), fun _ b _ hb => absurd hb (Nat.not_lt_zero b), fun x => absurd e x, fun j hj => absurd hj (Nat.not_lt_zero j)⟩
theorem zBF_1 {h : Nat → Int32} {k : Nat} {ρ : Nat → Nat} (hk : k < 96) (e : h k ≠ 0) (hr : ρ 0 = k) : zBF h k 1 0 ρ := by
  refine ⟨Nat.zero_le 1, fun j hj => ?_, fun a b hab hb => by omega, fun _ => ⟨0, Nat.zero_lt_one, hr⟩, fun j hj => absurd hj (Nat.not_lt_zero j)⟩
  have : j = 0 := by omega
  subst this
  rw [hr]
  exact zcon_refl hk e
/-- one more cell -/
theorem zBF_add {h : Nat → Int32} {k n i b : Nat} {ρ : Nat → Nat} (q : zBF h k n i ρ) (hb : zcon h k b) (hv : ∀ j, j < n → ρ j ≠ b) : zBF h k (n + 1) i (va_up ρ n b) := by
  obtain ⟨q0, q1, q2, q3, q4⟩ := q
  have hlo : ∀ j, j < n → va_up ρ n b j = ρ j := fun j hj => by
    have : j ≠ n := by omega
    simp [va_up, this]
  have hhi : va_up ρ n b n = b := by simp [va_up]
  refine ⟨by omega, fun j hj => ?_, fun a c hac hc => ?_, fun x => ?_, fun j hj d hd hjd h0 => ?_⟩
  · by_cases e : j < n
    · rw [hlo j e]; exact q1 j e
    · have : j = n := by omega
      subst this
      rw [hhi]; exact hb
  · by_cases e : c < n
    · rw [hlo c e, hlo a (by omega)]
      exact q2 a c hac e
    · have : c = n := by omega
      subst this
      rw [hhi, hlo a hac]
      exact hv a hac
  · obtain ⟨j, hj, e⟩ := q3 x
    exact ⟨j, by omega, by rw [hlo j hj]; exact e⟩
  · rw [hlo j (by omega)] at hjd
    obtain ⟨j', hj', e⟩ := q4 j hj d hd hjd h0
    exact ⟨j', by omega, by rw [hlo j' hj']; exact e⟩
/-- the next cell has been looked at all round -/
theorem zBF_next {h : Nat → Int32} {k n i : Nat} {ρ : Nat → Nat} (q : zBF h k n i ρ) (hi : i < n) (hall : ∀ b, b < 96 → zadj (ρ i) b → h b ≠ 0 → ∃ j', j' < n ∧ ρ j' = b) : zBF h k n (i + 1) ρ := by
  obtain ⟨q0, q1, q2, q3, q4⟩ := q
  refine ⟨by omega, q1, q2, q3, fun j hj b hb hjb h0 => ?_⟩
  by_cases e : j < i
  · exact q4 j e b hb hjb h0
  · have : j = i := by omega
    subst this
    exact hall b hb hjb h0
