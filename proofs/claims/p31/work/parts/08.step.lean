/-! ===== the whole step, the whole run ===== -/
def ztgt (pc : Nat) (off : Int) (tg : List Nat) : Bool := match tg with
  | [t] => decide ((pc : Int) + off = (t : Int))
  | _ => false
def ztgts (pc : Nat) : List Int → List Nat → Bool
  | [], [] => true
  | o :: os, t :: ts => decide ((pc : Int) + o = (t : Int)) && ztgts pc os ts
  | _, _ => false
/-- what the row of a program must keep -/
def ztg (i : Instr) (pc len : Nat) (tg : List Nat) : Bool := match i with
  | .iconst n => Nat.beq len 1 && decide (Int32.ofInt n = zkon tg)
  | .bipush n => Nat.beq len 2 && decide ((Int8.ofInt n).toInt32 = zkon tg)
  | .sipush n => Nat.beq len 3 && decide ((Int16.ofInt n).toInt32 = zkon tg)
  | .iinc _ n => Nat.beq len 3 && decide (Int32.ofInt n = zkon tg)
  | .ifCond _ off => Nat.beq len 3 && ztgt pc off tg
  | .if_icmp _ off => Nat.beq len 3 && ztgt pc off tg
  | .goto off => Nat.beq len 3 && ztgt pc off tg
  | .tableswitch d lo hi offs => match tg with
    | t :: ts => decide ((pc : Int) + d = (t : Int)) && decide (0 ≤ lo) && decide (hi = lo + offs.size - 1) && decide (hi < 1000) && ztgts pc offs.toList ts
    | [] => false
  | .lookupswitch d ps => match tg with
    | t :: ts => decide ((pc : Int) + d = (t : Int)) && ps.toList.all (fun q => decide (0 ≤ q.1) && decide (q.1 < 1000)) && (ps.toList.zip (ps.toList.drop 1)).all (fun (a, next) => a.1 < next.1) && ztgts pc (ps.toList.map (fun q => q.2)) ts
    | [] => false
  | .iload _ => Nat.beq len 2
  | .aload _ => Nat.beq len 2
  | .istore _ => Nat.beq len 2
  | .astore _ => Nat.beq len 2
  | .ldc _ => Nat.beq len 2
  | .newarray _ => Nat.beq len 2
  | .getfield _ => Nat.beq len 3
  | .putfield _ => Nat.beq len 3
  | .getstatic _ => Nat.beq len 3
  | .new _ => Nat.beq len 3
  | .invokevirtual _ => Nat.beq len 3
  | .invokestatic _ => Nat.beq len 3
  | .invokespecial _ => Nat.beq len 3
  | _ => Nat.beq len 1
section ZI
variable {Γ : zX} {T : zT} {own : String} {pc i nL : Nat} {L : zL} {S : zS} {w : zW} {cu su : Nat} {N : zK}
theorem zload_s (h : zload i L S w cu su N) : ∃ x, zlk i L = some (.int x) ∧ N L (.int x :: S) w cu su := by
  unfold zload at h
  split at h
  · exact ⟨_, by assumption, h⟩
  · exact h.elim
theorem zaload_s (h : zaload i L S w cu su N) : (∃ x, zlk i L = some (.ref x) ∧ N L (.ref x :: S) w cu su) ∨ (zlk i L = some .null ∧ N L (.null :: S) w cu su) := by
  unfold zaload at h
  split at h
  · exact Or.inl ⟨_, by assumption, h⟩
  · exact Or.inr ⟨by assumption, h⟩
  · exact h.elim
theorem zblt {a b : Nat} (h : Nat.blt a b = true) : a < b := by simpa [Nat.blt_eq] using h
theorem zstore_s (h : zstore nL i L S w cu su N) : ∃ x S', i < nL ∧ S = .int x :: S' ∧ N (zset i (.int x) L) S' w cu su := by
  unfold zstore at h
  split at h
  · rename_i hb
    split at h
    · exact ⟨_, _, zblt hb, rfl, h⟩
    · exact h.elim
  · exact h.elim
theorem zastore_s (h : zastore nL i L S w cu su N) : (∃ x S', i < nL ∧ S = .ref x :: S' ∧ N (zset i (.ref x) L) S' w cu su) ∨ (∃ S', i < nL ∧ S = .null :: S' ∧ N (zset i .null L) S' w cu su) := by
  unfold zastore at h
  split at h
  · rename_i hb
    split at h
    · exact Or.inl ⟨_, _, zblt hb, rfl, h⟩
    · exact Or.inr ⟨_, zblt hb, rfl, h⟩
    · exact h.elim
  · exact h.elim
theorem zinc_s {d : Int32} (h : zinc nL i d L S w cu su N) : ∃ x, i < nL ∧ zlk i L = some (.int x) ∧ N (zset i (.int (x + d)) L) S w cu su := by
  unfold zinc at h
  split at h
  · rename_i hb
    split at h
    · exact ⟨_, zblt hb, by assumption, h⟩
    · exact h.elim
  · exact h.elim
theorem zbin_s {f : Int32 → Int32 → Int32} (h : zbin f L S w cu su N) : ∃ x y S', S = .int y :: .int x :: S' ∧ N L (.int (f x y) :: S') w cu su := by
  unfold zbin at h
  split at h
  · exact ⟨_, _, _, rfl, h⟩
  · exact h.elim
theorem zdiv_s {f : Int32 → Int32 → Int32} (h : zdiv f L S w cu su N) : ∃ x y S', S = .int y :: .int x :: S' ∧ ¬ y = 0 ∧ N L (.int (f x y) :: S') w cu su := by
  unfold zdiv at h
  split at h
  · exact ⟨_, _, _, rfl, h⟩
  · exact h.elim
theorem zun_s {f : Int32 → Int32} (h : zun f L S w cu su N) : ∃ x S', S = .int x :: S' ∧ N L (.int (f x) :: S') w cu su := by
  unfold zun at h
  split at h
  · exact ⟨_, _, rfl, h⟩
  · exact h.elim
theorem zbr_t {f : Int32 → Prop} {J N : zS → Prop} (h : zbr f true S J N) : ∃ x S', S = .int x :: S' ∧ (f x → J S') ∧ (¬ f x → N S') := by
  unfold zbr at h
  split at h
  · exact ⟨_, _, rfl, h⟩
  · exact h.elim
theorem zbr_f {f : Int32 → Prop} {J N : zS → Prop} (h : zbr f false S J N) : ∃ x S', S = .int x :: S' ∧ (f x → N S') ∧ (¬ f x → J S') := by
  unfold zbr at h
  split at h
  · exact ⟨_, _, rfl, h⟩
  · exact h.elim
theorem zbr2_t {f : Int32 → Int32 → Prop} {J N : zS → Prop} (h : zbr2 f true S J N) : ∃ x y S', S = .int y :: .int x :: S' ∧ (f x y → J S') ∧ (¬ f x y → N S') := by
  unfold zbr2 at h
  split at h
  · exact ⟨_, _, _, rfl, h⟩
  · exact h.elim
theorem zbr2_f {f : Int32 → Int32 → Prop} {J N : zS → Prop} (h : zbr2 f false S J N) : ∃ x y S', S = .int y :: .int x :: S' ∧ (f x y → N S') ∧ (¬ f x y → J S') := by
  unfold zbr2 at h
  split at h
  · exact ⟨_, _, _, rfl, h⟩
  · exact h.elim
theorem zgetf_s {k : Nat} (h : zgetf T k L S w cu su N) : ∃ ci j a S' o v, zlk k T.fl = some (ci, j) ∧ S = .ref a :: S' ∧ w[a]? = some (.inr o) ∧ o.1 = ci ∧ o.2[j]? = some v ∧ N L (v :: S') w cu su := by
  unfold zgetf at h
  split at h
  · split at h
    · split at h
      · split at h
        · rename_i hb
          split at h
          · exact ⟨_, _, _, _, _, _, by assumption, rfl, by assumption, Nat.eq_of_beq_eq_true hb, by assumption, h⟩
          · exact h.elim
        · exact h.elim
      · exact h.elim
    · exact h.elim
  · exact h.elim
theorem zfit_s {ty : FieldType} {v : Value} {K : Prop} (h : zfit ty v K) : (narrow ty v = v ∧ fits ty v = true) ∧ K := by
  unfold zfit at h
  split at h
  · exact ⟨⟨rfl, rfl⟩, h⟩
  · exact ⟨⟨rfl, rfl⟩, h⟩
  · exact ⟨⟨rfl, rfl⟩, h⟩
  · exact ⟨⟨rfl, rfl⟩, h⟩
  · exact ⟨⟨rfl, rfl⟩, h⟩
  · exact ⟨⟨h.1, h.2.1⟩, h.2.2⟩
theorem zputf_s {k : Nat} (h : zputf T k L S w cu su N) : ∃ ci j a S' v q, ∃ o : Nat × List Value, zlk k T.fl = some (ci, j) ∧ S = v :: .ref a :: S' ∧ w[a]? = some (.inr o) ∧ o.1 = ci ∧ j < o.2.length ∧ zCl[ci]? = some q ∧ ((q.2.1 j).2.2.2 = false ∨ T.ini = true) ∧ (narrow (zTy ci j) v = v ∧ fits (zTy ci j) v = true) ∧ N L S' (w.set a (.inr (ci, o.2.set j v))) cu su := by
  unfold zputf at h
  split at h
  · split at h
    · split at h
      · split at h
        · rename_i hb
          simp only [Bool.and_eq_true] at hb
          split at h
          · split at h
            · rename_i hc
              obtain ⟨h1, h2⟩ := zfit_s h
              refine ⟨_, _, _, _, _, _, _, by assumption, rfl, by assumption, Nat.eq_of_beq_eq_true hb.1, zblt hb.2, by assumption, ?_, h1, h2⟩
              simpa using hc
            · exact h.elim
          · exact h.elim
        · exact h.elim
      · exact h.elim
    · exact h.elim
  · exact h.elim
theorem zsw_s {x : Int32} {K : Nat → Prop} {D : Prop} : ∀ {k : Nat} {ts : List Nat}, zsw x K D k ts → (∃ j t, ts[j]? = some t ∧ x = nI (k + j) ∧ K t) ∨ ((∀ j, j < ts.length → ¬ x = nI (k + j)) ∧ D)
  | _, [], h => Or.inr ⟨fun j hj => absurd hj (Nat.not_lt_zero j), h⟩
  | k, t :: ts, h => by
    by_cases e : x = nI k
    · exact Or.inl ⟨0, t, rfl, e, h.1 e⟩
    · rcases zsw_s (h.2 e) with ⟨j, t', h1, h2, h3⟩ | ⟨h1, h2⟩
      · exact Or.inl ⟨j + 1, t', h1, by rw [h2]; congr 1; omega, h3⟩
      · refine Or.inr ⟨fun j hj => ?_, h2⟩
        match j, hj with
        | 0, _ => exact e
        | j + 1, hj =>
          have h9 := h1 j (by simpa using hj)
          rw [show k + (j + 1) = k + 1 + j by omega]
          exact h9
theorem ztgts_get : ∀ {os : List Int} {ts : List Nat} {j t : Nat}, ztgts pc os ts = true → ts[j]? = some t → ∃ o, os[j]? = some o ∧ (pc : Int) + o = (t : Int)
  | [], [], _, _, _, h => by cases h
  | o :: os, t' :: ts, 0, t, h, hj => by
    simp only [ztgts, Bool.and_eq_true, decide_eq_true_eq] at h
    cases hj
    exact ⟨o, rfl, h.1⟩
  | o :: os, t' :: ts, j + 1, t, h, hj => by
    simp only [ztgts, Bool.and_eq_true, decide_eq_true_eq] at h
    obtain ⟨o', h1, h2⟩ := ztgts_get h.2 (by simpa using hj)
    exact ⟨o', by simpa using h1, h2⟩
  | [], _ :: _, _, _, h, _ => by cases h
  | _ :: _, [], _, _, h, _ => by cases h
theorem ztgts_len : ∀ {os : List Int} {ts : List Nat}, ztgts pc os ts = true → os.length = ts.length
  | [], [], _ => rfl
  | o :: os, t :: ts, h => by
    simp only [ztgts, Bool.and_eq_true] at h
    simp [ztgts_len h.2]
  | [], _ :: _, h => by cases h
  | _ :: _, [], h => by cases h
theorem zs_table (C : zOK Γ T own) {x : Int32} {d lo hi : Int} {offs : Array Int} {len t : Nat} {ts : List Nat} (hd : decode Γ.cc pc = .ok (.tableswitch d lo hi offs, len)) (ht : ztg (.tableswitch d lo hi offs) pc len (t :: ts) = true) {K : Nat → Prop} {D : Prop} (hK : ∀ t, K t → zSm Γ t L S w cu su) (hD : D → zSm Γ t L S w cu su) (h : zsw x K D lo.toNat ts) : zSm Γ pc L (.int x :: S) w cu su := by
  intro ad H locs ls hP hDd hS hl ha
  simp only [ztg, Bool.and_eq_true, decide_eq_true_eq] at ht
  obtain ⟨⟨⟨⟨t1, t2⟩, t3⟩, t4⟩, t5⟩ := ht
  have hlen : offs.size = ts.length := by rw [← ztgts_len t5]; simp
  rcases zsw_s h with ⟨j, t', h1, h2, h3⟩ | ⟨h1, h2⟩
  · obtain ⟨o, g1, g2⟩ := ztgts_get t5 h1
    have hj : j < offs.size := by
      rw [hlen]
      exact (List.getElem?_eq_some_iff.mp h1).1
    have hx : x.toInt = lo + j := by rw [h2, nI_toInt (by omega)]; omega
    refine lv_tableIn C.1 C.2.1 hd (x := x) (off := o) (tgt := t') (by omega) (by omega) ?_ g2 (hK _ h3 ad H locs ls hP hDd hS hl ha)
    rw [show (x.toInt - lo).toNat = j by omega, ← Array.getElem?_toList]
    exact g1
  · refine lv_tableOut C.1 C.2.1 hd (x := x) ?_ t1 (hD h2 ad H locs ls hP hDd hS hl ha)
    by_cases c1 : x.toInt < lo
    · exact Or.inl c1
    · by_cases c2 : hi < x.toInt
      · exact Or.inr c2
      · exfalso
        refine h1 (x.toInt - lo).toNat (by omega) ?_
        apply Int32.toInt_inj.mp
        rw [nI_toInt (by omega)]
        omega
theorem zlsw_s {x : Int32} {K : Nat → Prop} {D : Prop} : ∀ {ks ts : List Nat}, zlsw x K D ks ts → (∃ (j k t : Nat), ks[j]? = some k ∧ ts[j]? = some t ∧ x = nI k ∧ (∀ i k', i < j → ks[i]? = some k' → ¬ x = nI k') ∧ K t) ∨ ((∀ k ∈ ks, ¬ x = nI k) ∧ D)
  | [], _, h => Or.inr ⟨fun _ hk => absurd hk List.not_mem_nil, h⟩
  | _ :: _, [], h => h.elim
  | k :: ks, t :: ts, h => by
    by_cases e : x = nI k
    · exact Or.inl ⟨0, k, t, rfl, rfl, e, fun i _ hi => absurd hi (Nat.not_lt_zero i), h.1 e⟩
    · rcases zlsw_s (h.2 e) with ⟨j, k', t', h1, h2, h3, h4, h5⟩ | ⟨h1, h2⟩
      · refine Or.inl ⟨j + 1, k', t', h1, h2, h3, fun i k9 hi hk9 => ?_, h5⟩
        match i, hi, hk9 with
        | 0, _, hk9 => cases hk9; exact e
        | i + 1, hi, hk9 => exact h4 i k9 (by omega) (by simpa using hk9)
      · exact Or.inr ⟨fun k' hk' => (List.mem_cons.mp hk').elim (fun q => by rw [q]; exact e) (h1 k'), h2⟩
theorem zoff_at {x : Int32} {d : Int} : ∀ {ps : List (Int × Int)} {j : Nat} {q : Int × Int}, ps[j]? = some q → x.toInt = q.1 → (∀ i q', i < j → ps[i]? = some q' → ¬ x.toInt = q'.1) → Op.lookupswitch.offset ps d x.toInt = q.2
  | [], _, _, h, _, _ => by cases h
  | p :: ps, 0, q, h, hx, _ => by
    cases h
    rw [Op.lookupswitch.offset_cons, if_pos hx.symm]
  | p :: ps, j + 1, q, h, hx, hn => by
    rw [Op.lookupswitch.offset_cons, if_neg (fun e => hn 0 p (by omega) rfl e.symm)]
    exact zoff_at (j := j) (by simpa using h) hx (fun i q' hi hq' => hn (i + 1) q' (by omega) (by simpa using hq'))
theorem zoff_no {x : Int32} {d : Int} : ∀ {ps : List (Int × Int)}, (∀ q ∈ ps, ¬ x.toInt = q.1) → Op.lookupswitch.offset ps d x.toInt = d
  | [], _ => rfl
  | p :: ps, h => by
    rw [Op.lookupswitch.offset_cons, if_neg (fun e => h p List.mem_cons_self e.symm)]
    exact zoff_no (fun q hq => h q (List.mem_cons_of_mem _ hq))
theorem zs_lookup (C : zOK Γ T own) {x : Int32} {d : Int} {ps : Array (Int × Int)} {len t : Nat} {ts : List Nat} (hd : decode Γ.cc pc = .ok (.lookupswitch d ps, len)) (ht : ztg (.lookupswitch d ps) pc len (t :: ts) = true) {K : Nat → Prop} {D : Prop} (hK : ∀ t, K t → zSm Γ t L S w cu su) (hD : D → zSm Γ t L S w cu su) (h : zlsw x K D (ps.toList.map (fun q => q.1.toNat)) ts) : zSm Γ pc L (.int x :: S) w cu su := by
  intro ad H locs ls hP hDd hS hl ha
  simp only [ztg, Bool.and_eq_true, decide_eq_true_eq] at ht
  obtain ⟨⟨⟨t1, t2⟩, t3⟩, t4⟩ := ht
  have hb : ∀ q ∈ ps.toList, 0 ≤ q.1 ∧ q.1 < 1000 := by
    intro q hq
    have := List.all_eq_true.mp t2 q hq
    simpa using this
  have hkey : ∀ q ∈ ps.toList, (x = nI q.1.toNat ↔ x.toInt = q.1) := by
    intro q hq
    obtain ⟨b1, b2⟩ := hb q hq
    constructor
    · intro e
      rw [e, nI_toInt (by omega)]
      omega
    · intro e
      apply Int32.toInt_inj.mp
      rw [nI_toInt (by omega)]
      omega
  rcases zlsw_s h with ⟨j, k, t', h1, h2, h3, h4, h5⟩ | ⟨h1, h2⟩
  · rw [List.getElem?_map] at h1
    cases hq : ps.toList[j]? with
    | none => rw [hq] at h1; cases h1
    | some q =>
      rw [hq] at h1
      cases h1
      have hm := List.mem_of_getElem? hq
      obtain ⟨o, g1, g2⟩ := ztgts_get t4 h2
      have ho : o = q.2 := by
        rw [List.getElem?_map, hq] at g1
        exact (Option.some.inj g1).symm
      subst ho
      refine lv_lookup C.1 C.2.1 hd (x := x) (off := q.2) (tgt := t') t3 (zoff_at hq ((hkey q hm).mp h3) (fun i q' hi hq' e => ?_)) g2 (hK _ h5 ad H locs ls hP hDd hS hl ha)
      refine h4 i q'.1.toNat hi (by rw [List.getElem?_map, hq']; rfl) ((hkey q' (List.mem_of_getElem? hq')).mpr e)
  · refine lv_lookup C.1 C.2.1 hd (x := x) (off := d) (tgt := t) t3 (zoff_no (fun q hq e => ?_)) t1 (hD h2 ad H locs ls hP hDd hS hl ha)
    exact h1 q.1.toNat (List.mem_map.mpr ⟨q, hq, rfl⟩) ((hkey q hq).mpr e)
end ZI
