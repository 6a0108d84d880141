/-! ===== THE LAW'S ENTRY: what the Statement gives ===== -/
theorem zArr {s : State} {args : Array Value} {ty : FieldType} (h : (Cond.arrayClass ty).before args s = true) : ∃ c : ClassId, ArrOfT s c ty ∧ s.vm.findClass ("[" ++ ty.toString) = some c := by
  obtain ⟨c, k, comp, h1, h2, h3⟩ := Cond.arrayClass_spec h
  exact ⟨c, fun n z => ⟨fun k h => (by cases h), k, h2, comp, h3⟩, h1⟩
theorem zStrOf {s : State} {args : Array Value} {own tx : String} {k : Nat} (h1 : (Cond.stringRef own k tx).before args s = true) (h2 : (Cond.exactly (.string own k) "java/lang/String").before args s = true) : ∃ a, vk_R own k tx a s := by
  cases hv : (Term.string own k).eval args s none [] s with
  | none => simp [Cond.before, Cond.holds, Cond.value, hv] at h2
  | some v =>
    cases v with
    | ref a => exact ⟨a, vk_R.of h1 hv⟩
    | _ => cases hc : s.vm.findClass "java/lang/String" <;> simp [Cond.before, Cond.holds, Cond.value, hv, hc] at h2
theorem zeqi {args : Array Value} {s : State} {T : Term} {z : Int32} (h : (Cond.eq T (.int z)).before args s = true) : T.eval args s none [] s = some (.int z) := by
  cases hv : T.eval args s none [] s with
  | none => simp [Cond.before, Cond.holds, Cond.value, hv] at h
  | some w =>
    have hz : (Term.int z).eval args s none [] s = some (.int z) := rfl
    simp only [Cond.before, Cond.holds, Cond.value, hv, hz] at h
    cases w <;> simp_all
/-- all of l stand in m, in their order -/
def zsl : List Cond → List Cond → Bool
  | [], _ => true
  | _ :: _, [] => false
  | x :: t, y :: u => match decide (x = y) with
    | true => zsl t u
    | false => zsl (x :: t) u
theorem zsl_in : ∀ {m l : List Cond}, zsl l m = true → ∀ x ∈ l, x ∈ m
  | _, [], _, x, hx => absurd hx List.not_mem_nil
  | [], _ :: _, h, _, _ => by simp [zsl] at h
  | y :: u, z :: t, h, x, hx => by
    unfold zsl at h
    split at h
    · rename_i he
      have e := of_decide_eq_true he
      rcases List.mem_cons.mp hx with e2 | hx
      · rw [e2, e]; exact List.mem_cons_self
      · exact List.mem_cons_of_mem _ (zsl_in h x hx)
    · exact List.mem_cons_of_mem _ (zsl_in h x hx)
set_option maxRecDepth 100000 in
theorem zdg_o : zsl ((List.range 100).map (fun j => Cond.eq (.elem (.static "java/lang/Integer" "DigitOnes" "[B") (.int (Int32.ofNat j))) (.int (zOnes j)))) (flatC (Jvm.Cond.and given_1 narrow_1)) = true := by decide +kernel
set_option maxRecDepth 100000 in
theorem zdg_t : zsl ((List.range 100).map (fun j => Cond.eq (.elem (.static "java/lang/Integer" "DigitTens" "[B") (.int (Int32.ofNat j))) (.int (zTens j)))) (flatC (Jvm.Cond.and given_1 narrow_1)) = true := by decide +kernel
theorem zdg_ones (j : Fin 100) : Cond.eq (.elem (.static "java/lang/Integer" "DigitOnes" "[B") (.int (Int32.ofNat j.val))) (.int (zOnes j.val)) ∈ flatC (Jvm.Cond.and given_1 narrow_1) := zsl_in zdg_o _ (List.mem_map.mpr ⟨j.val, List.mem_range.mpr j.isLt, rfl⟩)
theorem zdg_tens (j : Fin 100) : Cond.eq (.elem (.static "java/lang/Integer" "DigitTens" "[B") (.int (Int32.ofNat j.val))) (.int (zTens j.val)) ∈ flatC (Jvm.Cond.and given_1 narrow_1) := zsl_in zdg_t _ (List.mem_map.mpr ⟨j.val, List.mem_range.mpr j.isLt, rfl⟩)
theorem zstr_in : ∀ q ∈ zStr, Cond.stringRef q.1 q.2.1 q.2.2 ∈ lw_tbl ∧ Cond.exactly (.string q.1 q.2.1) "java/lang/String" ∈ flatC (Jvm.Cond.and given_1 narrow_1) := by decide +kernel
theorem znest_in : ∀ q ∈ zNest, Cond.methodLinkNest q.1 q.2.1 q.2.2.1 q.2.2.2 ∈ lw_tbl := by decide +kernel
theorem zoth_in : ∀ w ∈ zOth, w ∈ lw_tbl := by decide +kernel
theorem zK_of {s : State} {args : Array Value} (hT : ∀ w ∈ zTs, w.before args s = true) (hts : ∀ w ∈ lw_tbl, w.before args s = true) : ∃ (G : va_G) (cA : Nat → ClassId), va_K G zCl (ztys cA) s := by
  obtain ⟨c0, i0, h0⟩ := u_known (C := RJ4) (T := TJ4) (N := 4) (n := 4) hT (zc0).1 (hts (.instantiable RJ4 4) (List.mem_of_getElem? (i := 136) (by decide +kernel)))
  obtain ⟨c1, i1, h1⟩ := u_known (C := RX0) (T := TX0) (N := 8) (n := 8) hT (zc1).1 (hts (.instantiable RX0 8) (List.mem_of_getElem? (i := 46) (by decide +kernel)))
  obtain ⟨c2, i2, h2⟩ := u_known (C := RX1) (T := TX1) (N := 4) (n := 4) hT (zc2).1 (hts (.instantiable RX1 4) (List.mem_of_getElem? (i := 95) (by decide +kernel)))
  obtain ⟨c3, i3, h3⟩ := u_known (C := RX2) (T := TX2) (N := 2) (n := 2) hT (zc3).1 (hts (.instantiable RX2 2) (List.mem_of_getElem? (i := 81) (by decide +kernel)))
  obtain ⟨c4, i4, h4⟩ := u_known (C := RX3) (T := TX3) (N := 5) (n := 5) hT (zc4).1 (hts (.instantiable RX3 5) (List.mem_of_getElem? (i := 114) (by decide +kernel)))
  obtain ⟨c5, i5, h5⟩ := u_known (C := RX4) (T := TX4) (N := 6) (n := 6) hT (zc5).1 (hts (.instantiable RX4 6) (List.mem_of_getElem? (i := 38) (by decide +kernel)))
  obtain ⟨a0, ha0, hb0⟩ := zArr (hts (.arrayClass .int) (List.mem_of_getElem? (i := 79) (by decide +kernel)))
  obtain ⟨a2, ha2, hb2⟩ := zArr (hts (.arrayClass .byte) (List.mem_of_getElem? (i := 166) (by decide +kernel)))
  refine ⟨(fun k => match k with | 0 => c0 | 1 => c1 | 2 => c2 | 3 => c3 | 4 => c4 | _ => c5, fun k => match k with | 0 => i0 | 1 => i1 | 2 => i2 | 3 => i3 | 4 => i4 | _ => i5), fun k => match k with | 0 => a0 | 1 => a0 | _ => a2, fun k q hq => ?_, fun k q hq => ?_⟩
  · match k, hq with
    | 0, hq => cases hq; exact h0
    | 1, hq => cases hq; exact h1
    | 2, hq => cases hq; exact h2
    | 3, hq => cases hq; exact h3
    | 4, hq => cases hq; exact h4
    | 5, hq => cases hq; exact h5
    | k + 6, hq => cases hq
  · match k, hq with
    | 0, hq => cases hq; exact ⟨ha0, hb0⟩
    | 1, hq => cases hq; exact ⟨ha0, hb0⟩
    | 2, hq => cases hq; exact ⟨ha2, hb2⟩
    | k + 3, hq => cases hq
theorem zTs_of {s : State} {args : Array Value} (hts : ∀ w ∈ lw_tbl, w.before args s = true) : ∀ w ∈ zTs, w.before args s = true := by
  intro w hw
  rcases List.mem_cons.mp (List.mem_filter.mp hw).1 with e | h
  · rw [e]
    exact zsel_private (y := yJ5_ensureCapacityInternal_d00df) (y' := yJ5_isLatin1_aae02) (n := 4) ⟨by decide +kernel, by decide +kernel⟩ rfl (hts _ (List.mem_of_getElem? (i := 136) (by decide +kernel))) (hts _ (List.mem_of_getElem? (i := 652) (by decide +kernel))) (hts _ (List.mem_of_getElem? (i := 653) (by decide +kernel))) (hts _ (List.mem_of_getElem? (i := 687) (by decide +kernel)))
  · exact hts w h
theorem zEnv_of {s : State} {b : Nat} (hts : ∀ w ∈ lw_tbl, w.before #[Value.ref b] s = true) (hgv : (Jvm.Cond.and given_1 narrow_1).before #[Value.ref b] s = true) (hscr : ∃ (L : Nat) (xs : Nat → Int32), L < 2 ^ 31 ∧ va_T .int b L (fun j => .int (xs j)) (fun q => s.heap.size ≤ q) s s.heap) : ∃ (G : va_G) (cA : Nat → ClassId) (ad : Nat → Nat), ad 1000 = b ∧ zEnv G cA ad s (fun q => s.heap.size ≤ q) s.heap := by
  have hs := flat_of_before _ hgv
  have hA : ∀ a : Nat, a < s.heap.size → ¬ (fun q : Nat => s.heap.size ≤ q) a := fun a h => Nat.not_le.mpr h
  have hT := zTs_of hts
  obtain ⟨G, cA, hK⟩ := zK_of hT hts
  have w1 : (Term.length (.static "java/lang/Integer" "DigitOnes" "[B")).eval #[Value.ref b] s none [] s = some (.int (Int32.ofNat 100)) := zeqi (hs _ (by decide +kernel))
  have w2 : (Term.length (.static "java/lang/Integer" "DigitTens" "[B")).eval #[Value.ref b] s none [] s = some (.int (Int32.ofNat 100)) := zeqi (hs _ (by decide +kernel))
  obtain ⟨t1, e1, ht1⟩ := va_Tof (A := fun q : Nat => s.heap.size ≤ q) (tm := .static "java/lang/Integer" "DigitOnes" "[B") (ty := .byte) (N := 100) (f := fun j => .int (zOnes j)) (by decide) (hs _ (by decide +kernel)) w1 (fun j hj => zeqi (hs _ (zdg_ones ⟨j, hj⟩))) hA
  obtain ⟨t2, e2, ht2⟩ := va_Tof (A := fun q : Nat => s.heap.size ≤ q) (tm := .static "java/lang/Integer" "DigitTens" "[B") (ty := .byte) (N := 100) (f := fun j => .int (zTens j)) (by decide) (hs _ (by decide +kernel)) w2 (fun j hj => zeqi (hs _ (zdg_tens ⟨j, hj⟩))) hA
  have hz1 : va_Z "java/lang/Integer" "DigitOnes" "[B" (.ref t1) (fun q : Nat => s.heap.size ≤ q) s s.heap := va_Zof (hts _ (List.mem_of_getElem? (i := 774) (by decide +kernel))) (hts _ (List.mem_of_getElem? (i := 36) (by decide +kernel))) e1 hA
  have hz2 : va_Z "java/lang/Integer" "DigitTens" "[B" (.ref t2) (fun q : Nat => s.heap.size ≤ q) s s.heap := va_Zof (hts _ (List.mem_of_getElem? (i := 776) (by decide +kernel))) (hts _ (List.mem_of_getElem? (i := 36) (by decide +kernel))) e2 hA
  have hzc : va_Z "java/lang/String" "COMPACT_STRINGS" "Z" (.int 1) (fun q : Nat => s.heap.size ≤ q) s s.heap := va_Zof (hts _ (List.mem_of_getElem? (i := 145) (by decide +kernel))) (hts _ (List.mem_of_getElem? (i := 22) (by decide +kernel))) (zeqi (hs _ (by decide +kernel))) hA
  have hzs : va_Zq "jdk/internal/util/Preconditions" "SIOOBE_FORMATTER" "Ljava/util/function/BiFunction;" (fun q : Nat => s.heap.size ≤ q) s s.heap := va_Zqof (args := #[Value.ref b]) (hts _ (List.mem_of_getElem? (i := 735) (by decide +kernel))) (hts _ (List.mem_of_getElem? (i := 34) (by decide +kernel))) (hs _ (by decide +kernel)) hA
  have hu : vx_Zq Bundle.tN "UNASSIGNED_STACK" Bundle.steD (fun q : Nat => s.heap.size ≤ q) s s.heap := vx_Zqof (args := #[Value.ref b]) (hts _ (List.mem_of_getElem? (i := 223) (by decide +kernel))) (hts _ (List.mem_of_getElem? (i := 24) (by decide +kernel))) (hs _ (by decide +kernel)) hA
  have hv : vx_Zq Bundle.tN "SUPPRESSED_SENTINEL" Bundle.listD (fun q : Nat => s.heap.size ≤ q) s s.heap := vx_Zqof (args := #[Value.ref b]) (hts _ (List.mem_of_getElem? (i := 225) (by decide +kernel))) (hts _ (List.mem_of_getElem? (i := 24) (by decide +kernel))) (hs _ (by decide +kernel)) hA
  have hW : ∀ w ∈ zTs, w.before #[] s = true := fun w hw => word_at (State.WarmedH.refl s) (good_of_word (zgood hw)) (hT w hw)
  have fin : ∀ (v0 : Value) (t0 : Nat), (v0 = .null ∨ v0 = .ref 1001) → va_Z "jdk/internal/util/Preconditions" "SIOOBE_FORMATTER" "Ljava/util/function/BiFunction;" (zcv (fun k => if k = 1000 then b else if k = 1001 then t0 else if k = 1002 then t1 else t2) v0) (fun q : Nat => s.heap.size ≤ q) s s.heap → ∃ (G : va_G) (cA : Nat → ClassId) (ad : Nat → Nat), ad 1000 = b ∧ zEnv G cA ad s (fun q => s.heap.size ≤ q) s.heap := fun v0 t0 h0 hz =>
    ⟨G, cA, _, rfl, hW, ⟨fun q hq => va_Nw.of rfl (hts _ (znest_in q hq)), fun w hw => (by
      rcases zOth_w w hw with ⟨x, rfl⟩ | ⟨C, T, rfl⟩
      · exact va_Nw.of rfl (hts _ (zoth_in _ hw))
      · exact va_Nw.of rfl (hts _ (zoth_in _ hw))), hscr⟩, fun q hq => zStrOf (hts _ (zstr_in q hq).1) (hs _ (zstr_in q hq).2), hu, hv, hzc, ⟨v0, h0, hz⟩, hK, ⟨hz1, ht1⟩, ⟨hz2, ht2⟩⟩
  rcases hzs with h | ⟨t0, h⟩
  · exact fin .null 0 (Or.inl rfl) h
  · exact fin (.ref 1001) t0 (Or.inr rfl) h
