/-! ===== THE LAW'S ENTRY: what the Statement gives ===== -/
theorem zArr {s : State} {args : Array Value} {ty : FieldType} (h : (Cond.arrayClass ty).before args s = true) : ∃ c : ClassId, ArrOfT s c ty ∧ s.vm.findClass ("[" ++ ty.toString) = some c := by
  obtain ⟨c, k, comp, h1, h2, h3⟩ := Cond.arrayClass_spec h
  exact ⟨c, fun n z => ⟨fun k h => (by cases h), k, h2, comp, h3⟩, h1⟩
theorem zStrOf {s : State} {args : Array Value} {own tx : String} {k : Nat} (h1 : (Cond.stringRef own k tx).before args s = true) (h2 : (Cond.exactly (.string own k) "java/lang/String").before args s = true) : ∃ a, vk_R own k tx a s := by
  cases hv : (Term.string own k).eval #[] s none [] s with
  | none => 
    have hv2 : (Term.string own k).eval args s none [] s = none := by rw [← hv]; rfl
    simp [Cond.before, Cond.holds, Cond.value, hv2] at h2
  | some v =>
    have hv2 : (Term.string own k).eval args s none [] s = some v := by rw [← hv]; rfl
    cases v with
    | ref a => exact ⟨a, vk_R.of h1 hv2⟩
    | _ => simp [Cond.before, Cond.holds, Cond.value, hv2] at h2
