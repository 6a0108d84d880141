/-! ===== AN ABSTRACT MACHINE: a world is a list of cells, a reference is a place in it ===== -/
abbrev zL : Type := List (Nat × Value)
abbrev zS : Type := List Value
abbrev zW : Type := List va_E
abbrev zK : Type := zL → zS → zW → Nat → Nat → Prop
abbrev zSpec : Type := zS → zW → (Option Value → zW → Prop) → (String → zW → Prop) → Prop
abbrev zCall : Type := Nat × Nat × Option Nat × Nat × Nat × Bool × zSpec
/-- the classes whose objects a world may hold -/
abbrev zCl : List vw_C := [(RJ4, TJ4, 4), (RX0, TX0, 8), (RX1, TX1, 4), (RX2, TX2, 2), (RX3, TX3, 5), (RX4, TX4, 6)]
def zTy (ci : Nat) : Nat → FieldType := match ci with
  | 0 => tyJ4
  | 1 => tyX0
  | 2 => tyX1
  | 3 => tyX2
  | 4 => tyX3
  | _ => tyX4
def zlk {α : Type} (k : Nat) : List (Nat × α) → Option α
  | [] => none
  | q :: t => match Nat.beq q.1 k with
    | true => some q.2
    | false => zlk k t
/-- the locals but the one at k -/
def zdel (k : Nat) : zL → zL
  | [] => []
  | q :: t => match Nat.beq q.1 k with
    | true => zdel k t
    | false => match q.2 with
      | .long _ => zdel k t
      | .double _ => zdel k t
      | _ => q :: zdel k t
def zset (k : Nat) (v : Value) (L : zL) : zL := (k, v) :: zdel k L
def zcat : zS → Nat
  | [] => 0
  | v :: t => v.category + zcat t
def zpop : Nat → zS → zS → Option (zS × zS)
  | 0, S, acc => some (acc, S)
  | n + 1, v :: S, acc => zpop n S (v :: acc)
  | _ + 1, [], _ => none
def zpush (r : Option Value) (S : zS) : zS := match r with
  | some v => v :: S
  | none => S
/-- the references of a value, a stack, the locals, a world lie below n -/
def zbV (n : Nat) : Value → Bool
  | .ref k => Nat.blt k n || Nat.ble 1000 k
  | _ => true
def zbS (n : Nat) : zS → Bool
  | [] => true
  | v :: t => zbV n v && zbS n t
def zbL (n : Nat) : zL → Bool
  | [] => true
  | q :: t => zbV n q.2 && zbL n t
def zbE (n : Nat) : va_E → Bool
  | .inl _ => true
  | .inr o => zbS n o.2
def zbW (n : Nat) : zW → Bool
  | [] => true
  | e :: t => zbE n e && zbW n t
def zcv (ad : Nat → Nat) : Value → Value
  | .ref k => .ref (ad k)
  | .int x => .int x
  | .long x => .long x
  | .float x => .float x
  | .double x => .double x
  | .null => .null
  | .retAddr x => .retAddr x
def zce (cA : Nat → ClassId) (ad : Nat → Nat) : va_E → va_E
  | .inl a => .inl (cA a.1, a.2)
  | .inr o => .inr (o.1, o.2.map (zcv ad))
def zcw (cA : Nat → ClassId) (ad : Nat → Nat) (w : zW) : va_W := w.mapIdx (fun k e => (ad k, zce cA ad e))
def zcl (ad : Nat → Nat) (L : zL) : List (Nat × Value) := L.map (fun q => (q.1, zcv ad q.2))
theorem zcv_cat (ad : Nat → Nat) (v : Value) : (zcv ad v).category = v.category := by cases v <;> rfl
theorem zcat_map (ad : Nat → Nat) (S : zS) : ((S.map (zcv ad)).map fun v => v.category).sum = zcat S := by
  induction S with
  | nil => rfl
  | cons v t ih => simp only [List.map_cons, List.sum_cons, zcat, zcv_cat, ih]
theorem zlk_mem {α : Type} {k : Nat} {v : α} : ∀ {L : List (Nat × α)}, zlk k L = some v → (k, v) ∈ L
  | [], h => by cases h
  | q :: t, h => by
    unfold zlk at h
    split at h
    · rename_i hb
      have e := Nat.eq_of_beq_eq_true hb
      cases h
      subst e
      exact List.mem_cons_self
    · exact List.mem_cons_of_mem _ (zlk_mem h)
theorem zlk_at {ad : Nat → Nat} {ls : Array Slot} {nL k : Nat} {L : zL} {v : Value} (h : lv_has ls nL (zcl ad L)) (hk : zlk k L = some v) : ls[k]? = some (.val (zcv ad v)) :=
  h.2.2 (k, zcv ad v) (List.mem_map.mpr ⟨(k, v), zlk_mem hk, rfl⟩)
theorem zdel_mem {k : Nat} {q : Nat × Value} : ∀ {L : zL}, q ∈ zdel k L → q ∈ L ∧ q.1 ≠ k ∧ q.2.category = 1
  | [], h => by cases h
  | x :: t, h => by
    have go : q ∈ zdel k t → q ∈ x :: t ∧ q.1 ≠ k ∧ q.2.category = 1 := fun h => by
      obtain ⟨a, b⟩ := zdel_mem h
      exact ⟨List.mem_cons_of_mem _ a, b⟩
    unfold zdel at h
    split at h
    · exact go h
    · rename_i hb
      have hne : x.1 ≠ k := fun e => by rw [e] at hb; simp at hb
      split at h
      · exact go h
      · exact go h
      · rename_i h1 h2
        rcases List.mem_cons.mp h with e | h
        · subst e
          refine ⟨List.mem_cons_self, hne, ?_⟩
          cases hq : q.2 <;> first | rfl | exact absurd hq (h1 _) | exact absurd hq (h2 _)
        · exact go h
theorem zset_has {ad : Nat → Nat} {ls : Array Slot} {nL k : Nat} {L : zL} {v : Value} (h : lv_has ls nL ((k, zcv ad v) :: (zcl ad L).filter (fun q => !(q.1 == k) && !(q.1 + 1 == k && q.2.category == 2)))) : lv_has ls nL (zcl ad (zset k v L)) := by
  refine ⟨h.1, h.2.1, fun q hq => h.2.2 q ?_⟩
  obtain ⟨x, hx, rfl⟩ := List.mem_map.mp hq
  rcases List.mem_cons.mp hx with e | hx
  · subst e
    exact List.mem_cons_self
  · obtain ⟨a, b, c⟩ := zdel_mem hx
    refine List.mem_cons_of_mem _ (List.mem_filter.mpr ⟨List.mem_map.mpr ⟨x, a, rfl⟩, ?_⟩)
    have c' : (zcv ad x.2).category = 1 := by rw [zcv_cat]; exact c
    simp [b, c']
theorem zcw_get {cA : Nat → ClassId} {ad : Nat → Nat} {w : zW} {k : Nat} {e : va_E} (h : w[k]? = some e) : (zcw cA ad w)[k]? = some (ad k, zce cA ad e) := by
  unfold zcw
  rw [List.getElem?_mapIdx, h]
  rfl
theorem zcw_inv {cA : Nat → ClassId} {ad : Nat → Nat} {w : zW} {k : Nat} {q : Nat × va_E} (h : (zcw cA ad w)[k]? = some q) : ∃ e, w[k]? = some e ∧ q = (ad k, zce cA ad e) := by
  unfold zcw at h
  rw [List.getElem?_mapIdx] at h
  cases hw : w[k]? with
  | none => rw [hw] at h; cases h
  | some e => rw [hw] at h; exact ⟨e, rfl, (Option.some.inj h).symm⟩
theorem zcw_set {cA : Nat → ClassId} {ad : Nat → Nat} {w : zW} {k : Nat} {e : va_E} (h : k < w.length) : (zcw cA ad w).set k (ad k, zce cA ad e) = zcw cA ad (w.set k e) := by
  apply List.ext_getElem?
  intro i
  unfold zcw
  rw [List.getElem?_set, List.getElem?_mapIdx, List.getElem?_mapIdx, List.getElem?_set, List.length_mapIdx]
  by_cases e1 : k = i
  · subst e1
    simp [h]
  · simp [e1]
theorem zcv_up {ad : Nat → Nat} {n q : Nat} (hn : n < 1000) {v : Value} (h : zbV n v = true) : zcv (va_up ad n q) v = zcv ad v := by
  cases v <;> try rfl
  rename_i k
  simp only [zbV, Bool.or_eq_true] at h
  have hne : k ≠ n := by
    rcases h with h | h
    · exact Nat.ne_of_lt (by simpa [Nat.blt_eq] using h)
    · have h' : 1000 ≤ k := Nat.le_of_ble_eq_true h
      exact fun e => Nat.lt_irrefl _ (Nat.lt_of_lt_of_le hn (e ▸ h'))
  simp [zcv, va_up, hne]
theorem zcS_up {ad : Nat → Nat} {n q : Nat} (hn : n < 1000) : ∀ {S : zS}, zbS n S = true → S.map (zcv (va_up ad n q)) = S.map (zcv ad)
  | [], _ => rfl
  | v :: t, h => by
    simp only [zbS, Bool.and_eq_true] at h
    simp only [List.map_cons, zcv_up hn h.1, zcS_up hn h.2]
theorem zcl_up {ad : Nat → Nat} {n q : Nat} (hn : n < 1000) : ∀ {L : zL}, zbL n L = true → zcl (va_up ad n q) L = zcl ad L
  | [], _ => rfl
  | v :: t, h => by
    simp only [zbL, Bool.and_eq_true] at h
    have e := zcl_up (ad := ad) (q := q) hn h.2
    unfold zcl at e ⊢
    simp only [List.map_cons, zcv_up hn h.1, e]
theorem zbW_get {n : Nat} : ∀ {w : zW} {k : Nat} {e : va_E}, zbW n w = true → w[k]? = some e → zbE n e = true
  | [], _, _, _, h => by cases h
  | x :: t, 0, e, hb, h => by
    simp only [zbW, Bool.and_eq_true] at hb
    cases h
    exact hb.1
  | x :: t, k + 1, e, hb, h => by
    simp only [zbW, Bool.and_eq_true] at hb
    exact zbW_get hb.2 (by simpa using h)
theorem zce_up {cA : Nat → ClassId} {ad : Nat → Nat} {n q : Nat} (hn : n < 1000) {e : va_E} (h : zbE n e = true) : zce cA (va_up ad n q) e = zce cA ad e := by
  cases e with
  | inl a => rfl
  | inr o => simp only [zce, zcS_up hn (show zbS n o.2 = true from h)]
theorem zcw_push {cA : Nat → ClassId} {ad : Nat → Nat} {w : zW} {q : Nat} {e : va_E} (hn : w.length < 1000) (hw : zbW w.length w = true) (he : zbE w.length e = true) :
    zcw cA ad w ++ [(q, zce cA ad e)] = zcw cA (va_up ad w.length q) (w ++ [e]) := by
  apply List.ext_getElem?
  intro i
  by_cases hi : i < w.length
  · rw [List.getElem?_append_left (by unfold zcw; rw [List.length_mapIdx]; exact hi)]
    have hg : w[i]? = some w[i] := List.getElem?_eq_getElem hi
    rw [zcw_get hg, zcw_get (e := w[i]) (by rw [List.getElem?_append_left hi]; exact hg), zce_up hn (zbW_get hw hg)]
    have hne : i ≠ w.length := Nat.ne_of_lt hi
    simp [va_up, hne]
  · rw [List.getElem?_append_right (by unfold zcw; rw [List.length_mapIdx]; omega)]
    unfold zcw
    rw [List.length_mapIdx, List.getElem?_mapIdx, List.getElem?_append_right (by omega)]
    by_cases h0 : i = w.length
    · subst h0
      simp [va_up, zce_up hn he]
    · have h1 : ∃ j, i - w.length = j + 1 := ⟨i - w.length - 1, by omega⟩
      obtain ⟨j, hj⟩ := h1
      simp [hj]
