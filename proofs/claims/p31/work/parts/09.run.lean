section ZR
variable {Γ : zX} {T : zT} {own : String} {pc : Nat} {L : zL} {S : zS} {w : zW} {cu su : Nat}
theorem zald_s {t : Nat} {N : zK} (h : zald t T L S w cu su N) : ∃ i a S', S = .int i :: .ref a :: S' ∧ ((∃ n f, w[a]? = some (.inl (t, n, .inl f)) ∧ vp_in i n ∧ N L (.int (f i.toNatClampNeg) :: S') w cu su) ∨ (∃ n f, 1000 ≤ a ∧ zlk a T.sc = some (t, n, f) ∧ vp_in i n ∧ N L (.int (f i.toNatClampNeg) :: S') w cu su)) := by
  unfold zald at h
  split at h
  · split at h
    · rename_i h1
      split at h
      · rename_i h2
        split at h
        · rename_i hb
          have e := Nat.eq_of_beq_eq_true hb
          subst e
          exact ⟨_, _, _, rfl, Or.inr ⟨_, _, Nat.le_of_ble_eq_true h1, h2, h.1, h.2⟩⟩
        · exact h.elim
      · exact h.elim
    · split at h
      · split at h
        · rename_i hw _ hb
          have e := Nat.eq_of_beq_eq_true hb
          subst e
          exact ⟨_, _, _, rfl, Or.inl ⟨_, _, hw, h.1, h.2⟩⟩
        · exact h.elim
      · exact h.elim
  · exact h.elim
theorem zast_s {t : Nat} {nr : Int32 → Int32} {N : zK} (h : zast t nr L S w cu su N) : ∃ x i a S' n f, S = .int x :: .int i :: .ref a :: S' ∧ w[a]? = some (.inl (t, n, .inl f)) ∧ vp_in i n ∧ N L S' (w.set a (.inl (t, n, .inl (upd f i.toNatClampNeg (nr x))))) cu su := by
  unfold zast at h
  split at h
  · split at h
    · split at h
      · rename_i hw _ hb
        have e := Nat.eq_of_beq_eq_true hb
        subst e
        exact ⟨_, _, _, _, _, _, rfl, hw, h.1, h.2⟩
      · exact h.elim
    · exact h.elim
  · exact h.elim
theorem zlald_s {N : zK} (h : zlald L S w cu su N) : ∃ i a S' n f, S = .int i :: .ref a :: S' ∧ w[a]? = some (.inl (1, n, .inr (.inl f))) ∧ vp_in i n ∧ N L (.long (f i.toNatClampNeg) :: S') w cu su := by
  unfold zlald at h
  split at h
  · split at h
    · split at h
      · rename_i hw _ hb
        have e := Nat.eq_of_beq_eq_true hb
        subst e
        exact ⟨_, _, _, _, _, rfl, hw, h.1, h.2⟩
      · exact h.elim
    · exact h.elim
  · exact h.elim
theorem zlast_s {N : zK} (h : zlast L S w cu su N) : ∃ x i a S' n f, S = .long x :: .int i :: .ref a :: S' ∧ w[a]? = some (.inl (1, n, .inr (.inl f))) ∧ vp_in i n ∧ N L S' (w.set a (.inl (1, n, .inr (.inl (vp_updL f i.toNatClampNeg x))))) cu su := by
  unfold zlast at h
  split at h
  · split at h
    · split at h
      · rename_i hw _ hb
        have e := Nat.eq_of_beq_eq_true hb
        subst e
        exact ⟨_, _, _, _, _, _, rfl, hw, h.1, h.2⟩
      · exact h.elim
    · exact h.elim
  · exact h.elim
theorem zalen_s {N : zK} (h : zalen T L S w cu su N) : ∃ a S', S = .ref a :: S' ∧ ((∃ t n x, w[a]? = some (.inl (t, n, x)) ∧ t < 3 ∧ N L (.int (nI n) :: S') w cu su) ∨ (∃ t n f, 1000 ≤ a ∧ zlk a T.sc = some (t, n, f) ∧ N L (.int (nI n) :: S') w cu su)) := by
  unfold zalen at h
  split at h
  · split at h
    · rename_i h1
      split at h
      · rename_i h2
        exact ⟨_, _, rfl, Or.inr ⟨_, _, _, Nat.le_of_ble_eq_true h1, h2, h⟩⟩
      · exact h.elim
    · split at h
      · split at h
        · rename_i hw _ hb
          exact ⟨_, _, rfl, Or.inl ⟨_, _, _, hw, zblt hb, h⟩⟩
        · exact h.elim
      · exact h.elim
  · exact h.elim
theorem znew_sound (C : zOK Γ T own) {k : Nat} {N : zK} (hd : decode Γ.cc pc = .ok (.new k, 3)) (hN : ∀ L S w cu su, N L S w cu su → zSm Γ (pc + 3) L S w cu su) (h : znew T k pc L S w cu su N) : zSm Γ pc L S w cu su := by
  unfold znew at h
  split at h
  · rename_i E he
    split at h
    · rename_i hb
      exact C.th _ (zlk_mem he) L S w cu su h (Nat.le_of_ble_eq_true hb)
    · exact h.elim
  · split at h
    · rename_i hf
      split at h
      · rename_i hb
        simp only [Bool.and_eq_true] at hb
        obtain ⟨⟨⟨⟨⟨⟨⟨b1, b2⟩, b3⟩, b4⟩, b5⟩, b6⟩, b7⟩, b8⟩ := hb
        exact zs_new C hd hf b1 (zblt b2) (Nat.le_of_ble_eq_true b3) b4 b5 b6 (Nat.le_of_ble_eq_true b7) (Nat.le_of_ble_eq_true b8) (hN _ _ _ _ _ h)
      · exact h.elim
    · exact h.elim
theorem znewa_sound (C : zOK Γ T own) {t : Nat} {z : Nat → vp_A} {ty : ArrayType} {ft : FieldType} {N : zK} (hd : decode Γ.cc pc = .ok (.newarray ty, 2)) (harr : (Cond.arrayClass (newarray.typeOf ty)).before Γ.args Γ.s = true) (hty : newarray.typeOf ty = ft) (ht : (ztys Γ.cA)[t]? = some (Γ.cA t, ft)) (hprim : ∀ U : State, ∀ c : ClassId, va_RA U c ft → U.vm.findClass ("[" ++ ft.toString) = some c) (hcell : ∀ (n : Nat) (cA : ClassId), vp_cell cA (z n) = arrV cA n (fun _ => defaultValue ft)) (hcb : componentBytes ft ≤ 8)
    (hN : ∀ L S w cu su, N L S w cu su → zSm Γ (pc + 2) L S w cu su) (h : znewa T t z L S w cu su N) : zSm Γ pc L S w cu su := by
  unfold znewa at h
  split at h
  · split at h
    · rename_i hb
      simp only [Bool.and_eq_true] at hb
      obtain ⟨⟨⟨⟨⟨⟨b1, b2⟩, b3⟩, b4⟩, b5⟩, b6⟩, b7⟩ := hb
      obtain ⟨n0, e1, e2, e3, h⟩ := h
      exact zs_newa C hd harr hty ht hprim (hcell n0) e1 e2 hcb b1 (zblt b2) (Nat.le_of_ble_eq_true b3) b4 b5 b6 (Nat.le_of_ble_eq_true b7) e3 (hN _ _ _ _ _ h)
    · exact h.elim
  · exact h.elim
theorem zinv_sound (C : zOK Γ T own) {k ik : Nat} {N : zK} (hik : ik < 3) (hd : decode Γ.cc pc = .ok (zinstr ik k, 3)) (hN : ∀ L S w cu su, N L S w cu su → zSm Γ (pc + 3) L S w cu su) (h : zinv ik T k pc L S w cu su N) : zSm Γ pc L S w cu su := by
  unfold zinv at h
  split at h
  · rename_i hf
    split at h
    · rename_i hp
      split at h
      · rename_i hb
        simp only [Bool.and_eq_true] at hb
        obtain ⟨⟨⟨⟨⟨b1, b2⟩, b3⟩, b4⟩, b5⟩, b6⟩ := hb
        have e := Nat.eq_of_beq_eq_true b1
        subst e
        refine C.cs _ (zlk_mem hf) pc L S _ _ w cu su _ hik hd hp b2 (Nat.le_of_ble_eq_true b3) (Nat.le_of_ble_eq_true b4) (Nat.le_of_ble_eq_true b5) (fun ha => ?_) (fun r w' hq => hN _ _ _ _ _ hq) h
        simp only [Bool.or_eq_true, Bool.and_eq_true, Bool.not_eq_true'] at b6
        rcases b6 with b6 | ⟨⟨⟨c1, c2⟩, c3⟩, c4⟩
        · exact absurd (b6.symm.trans ha) (by decide)
        exact ⟨c1, Nat.le_of_ble_eq_true c2, c3, c4⟩
      · exact h.elim
    · exact h.elim
  · exact h.elim
theorem ztgt_s {off : Int} {t : Nat} {tg : List Nat} (h : ztgt pc off tg = true) (e : tg = [t]) : (pc : Int) + off = (t : Int) := by
  subst e
  simpa [ztgt] using h
theorem zlen_s {len n : Nat} (h : Nat.beq len n = true) : len = n := Nat.eq_of_beq_eq_true h
set_option maxHeartbeats 4000000 in
/-- one step -/
theorem zi_sound (C : zOK Γ T own) {i : Instr} {len : Nat} {tg : List Nat} {N : zK} {J : Nat → zK} (hd : decode Γ.cc pc = .ok (i, len)) (ht : ztg i pc len tg = true) (hN : ∀ L S w cu su, N L S w cu su → zSm Γ (pc + len) L S w cu su) (hJ : ∀ t L S w cu su, J t L S w cu su → zSm Γ t L S w cu su) (h : zi T Γ.nL i pc tg L S w cu su N J) : zSm Γ pc L S w cu su := by
  unfold zi at h
  split at h
  -- iconst
  · simp only [ztg, Bool.and_eq_true, decide_eq_true_eq] at ht
    obtain ⟨t1, t2⟩ := ht; cases zlen_s t1
    exact zs_iconst C hd t2 (hN _ _ _ _ _ h)
  · simp only [ztg, Bool.and_eq_true, decide_eq_true_eq] at ht
    obtain ⟨t1, t2⟩ := ht; cases zlen_s t1
    exact zs_bipush C hd t2 (hN _ _ _ _ _ h)
  · simp only [ztg, Bool.and_eq_true, decide_eq_true_eq] at ht
    obtain ⟨t1, t2⟩ := ht; cases zlen_s t1
    exact zs_sipush C hd t2 (hN _ _ _ _ _ h)
  · cases zlen_s ht
    exact zs_lconst C hd (hN _ _ _ _ _ h)
  · cases zlen_s ht
    split at h
    · exact zs_ldc C hd (by assumption) (hN _ _ _ _ _ h)
    · exact h.elim
  · cases zlen_s ht
    exact zs_null C hd (hN _ _ _ _ _ h)
  -- loads
  · cases zlen_s ht
    obtain ⟨x, h1, h2⟩ := zload_s h
    exact zs_iload_n C hd h1 (hN _ _ _ _ _ h2)
  · cases zlen_s ht
    obtain ⟨x, h1, h2⟩ := zload_s h
    exact zs_iload C hd h1 (hN _ _ _ _ _ h2)
  · cases zlen_s ht
    rcases zaload_s h with ⟨x, h1, h2⟩ | ⟨h1, h2⟩
    · exact zs_aload_n C hd h1 (hN _ _ _ _ _ h2)
    · exact zs_aload_nN C hd h1 (hN _ _ _ _ _ h2)
  · cases zlen_s ht
    rcases zaload_s h with ⟨x, h1, h2⟩ | ⟨h1, h2⟩
    · exact zs_aload C hd h1 (hN _ _ _ _ _ h2)
    · exact zs_aloadN C hd h1 (hN _ _ _ _ _ h2)
  -- stores
  · cases zlen_s ht
    obtain ⟨x, S', h1, rfl, h2⟩ := zstore_s h
    exact zs_istore_n C hd h1 (hN _ _ _ _ _ h2)
  · cases zlen_s ht
    obtain ⟨x, S', h1, rfl, h2⟩ := zstore_s h
    exact zs_istore C hd h1 (hN _ _ _ _ _ h2)
  · cases zlen_s ht
    rcases zastore_s h with ⟨x, S', h1, rfl, h2⟩ | ⟨S', h1, rfl, h2⟩
    · exact zs_astore_n C hd h1 (hN _ _ _ _ _ h2)
    · exact zs_astore_nN C hd h1 (hN _ _ _ _ _ h2)
  · cases zlen_s ht
    rcases zastore_s h with ⟨x, S', h1, rfl, h2⟩ | ⟨S', h1, rfl, h2⟩
    · exact zs_astore C hd h1 (hN _ _ _ _ _ h2)
    · exact zs_astoreN C hd h1 (hN _ _ _ _ _ h2)
  · simp only [ztg, Bool.and_eq_true, decide_eq_true_eq] at ht
    obtain ⟨t1, t2⟩ := ht; cases zlen_s t1
    obtain ⟨x, h1, h2, h3⟩ := zinc_s h
    exact zs_iinc C hd h1 h2 t2 (hN _ _ _ _ _ h3)
  -- arithmetic
  · cases zlen_s ht; obtain ⟨x, y, S', rfl, h2⟩ := zbin_s h; exact zs_iadd C hd (hN _ _ _ _ _ h2)
  · cases zlen_s ht; obtain ⟨x, y, S', rfl, h2⟩ := zbin_s h; exact zs_isub C hd (hN _ _ _ _ _ h2)
  · cases zlen_s ht; obtain ⟨x, y, S', rfl, h2⟩ := zbin_s h; exact zs_imul C hd (hN _ _ _ _ _ h2)
  · cases zlen_s ht; obtain ⟨x, y, S', rfl, h2⟩ := zbin_s h; exact zs_iand C hd (hN _ _ _ _ _ h2)
  · cases zlen_s ht; obtain ⟨x, y, S', rfl, h2⟩ := zbin_s h; exact zs_ior C hd (hN _ _ _ _ _ h2)
  · cases zlen_s ht; obtain ⟨x, y, S', rfl, h2⟩ := zbin_s h; exact zs_ishl C hd (hN _ _ _ _ _ h2)
  · cases zlen_s ht; obtain ⟨x, y, S', rfl, h2⟩ := zbin_s h; exact zs_ishr C hd (hN _ _ _ _ _ h2)
  · cases zlen_s ht; obtain ⟨x, y, S', rfl, h2⟩ := zbin_s h; exact zs_iushr C hd (hN _ _ _ _ _ h2)
  · cases zlen_s ht; obtain ⟨x, y, S', rfl, h1, h2⟩ := zdiv_s h; exact zs_idiv C hd h1 (hN _ _ _ _ _ h2)
  · cases zlen_s ht; obtain ⟨x, y, S', rfl, h1, h2⟩ := zdiv_s h; exact zs_irem C hd h1 (hN _ _ _ _ _ h2)
  · cases zlen_s ht; obtain ⟨x, S', rfl, h2⟩ := zun_s h; exact zs_ineg C hd (hN _ _ _ _ _ h2)
  · cases zlen_s ht; obtain ⟨x, S', rfl, h2⟩ := zun_s h; exact zs_i2b C hd (hN _ _ _ _ _ h2)
  · cases zlen_s ht; obtain ⟨x, S', rfl, h2⟩ := zun_s h; exact zs_i2c C hd (hN _ _ _ _ _ h2)
  · cases zlen_s ht
    split at h
    · exact zs_i2l C hd (hN _ _ _ _ _ h)
    · exact h.elim
  -- stack
  · cases zlen_s ht
    split at h
    · split at h
      · rename_i hb
        exact zs_dup C hd (Nat.eq_of_beq_eq_true hb) (hN _ _ _ _ _ h)
      · exact h.elim
    · exact h.elim
  · cases zlen_s ht
    split at h
    · split at h
      · rename_i hb
        simp only [Bool.and_eq_true] at hb
        exact zs_dup_x1 C hd (Nat.eq_of_beq_eq_true hb.1) (Nat.eq_of_beq_eq_true hb.2) (hN _ _ _ _ _ h)
      · exact h.elim
    · exact h.elim
  · cases zlen_s ht
    split at h
    · split at h
      · rename_i hb
        simp only [Bool.and_eq_true] at hb
        exact zs_dup2 C hd (Nat.eq_of_beq_eq_true hb.1) (Nat.eq_of_beq_eq_true hb.2) (hN _ _ _ _ _ h)
      · exact h.elim
    · exact h.elim
  · cases zlen_s ht
    split at h
    · split at h
      · rename_i hb
        exact zs_pop C hd (Nat.eq_of_beq_eq_true hb) (hN _ _ _ _ _ h)
      · exact h.elim
    · exact h.elim
  -- branches
  · simp only [ztg, Bool.and_eq_true] at ht
    obtain ⟨t1, t2⟩ := ht; cases zlen_s t1
    split at h
    · obtain ⟨x, S', rfl, h1, h2⟩ := zbr_t h
      exact zs_if_eq C hd (ztgt_s t2 rfl) (fun q => hJ _ _ _ _ _ _ (h1 q)) (fun q => hN _ _ _ _ _ (h2 q))
    · exact h.elim
  · simp only [ztg, Bool.and_eq_true] at ht
    obtain ⟨t1, t2⟩ := ht; cases zlen_s t1
    split at h
    · obtain ⟨x, S', rfl, h1, h2⟩ := zbr_f h
      exact zs_if_ne C hd (ztgt_s t2 rfl) (fun q => hJ _ _ _ _ _ _ (h2 q)) (fun q => hN _ _ _ _ _ (h1 q))
    · exact h.elim
  · simp only [ztg, Bool.and_eq_true] at ht
    obtain ⟨t1, t2⟩ := ht; cases zlen_s t1
    split at h
    · obtain ⟨x, S', rfl, h1, h2⟩ := zbr_t h
      exact zs_if_lt C hd (ztgt_s t2 rfl) (fun q => hJ _ _ _ _ _ _ (h1 q)) (fun q => hN _ _ _ _ _ (h2 q))
    · exact h.elim
  · simp only [ztg, Bool.and_eq_true] at ht
    obtain ⟨t1, t2⟩ := ht; cases zlen_s t1
    split at h
    · obtain ⟨x, S', rfl, h1, h2⟩ := zbr_f h
      exact zs_if_ge C hd (ztgt_s t2 rfl) (fun q => hJ _ _ _ _ _ _ (h2 q)) (fun q => hN _ _ _ _ _ (h1 q))
    · exact h.elim
  · simp only [ztg, Bool.and_eq_true] at ht
    obtain ⟨t1, t2⟩ := ht; cases zlen_s t1
    split at h
    · obtain ⟨x, S', rfl, h1, h2⟩ := zbr_f h
      exact zs_if_le C hd (ztgt_s t2 rfl) (fun q => hJ _ _ _ _ _ _ (h2 q)) (fun q => hN _ _ _ _ _ (h1 q))
    · exact h.elim
  · simp only [ztg, Bool.and_eq_true] at ht
    obtain ⟨t1, t2⟩ := ht; cases zlen_s t1
    split at h
    · obtain ⟨x, S', rfl, h1, h2⟩ := zbr_t h
      exact zs_if_gt C hd (ztgt_s t2 rfl) (fun q => hJ _ _ _ _ _ _ (h1 q)) (fun q => hN _ _ _ _ _ (h2 q))
    · exact h.elim
  · simp only [ztg, Bool.and_eq_true] at ht
    obtain ⟨t1, t2⟩ := ht; cases zlen_s t1
    split at h
    · obtain ⟨x, y, S', rfl, h1, h2⟩ := zbr2_t h
      exact zs_icmp_eq C hd (ztgt_s t2 rfl) (fun q => hJ _ _ _ _ _ _ (h1 q)) (fun q => hN _ _ _ _ _ (h2 q))
    · exact h.elim
  · simp only [ztg, Bool.and_eq_true] at ht
    obtain ⟨t1, t2⟩ := ht; cases zlen_s t1
    split at h
    · obtain ⟨x, y, S', rfl, h1, h2⟩ := zbr2_f h
      exact zs_icmp_ne C hd (ztgt_s t2 rfl) (fun q => hJ _ _ _ _ _ _ (h2 q)) (fun q => hN _ _ _ _ _ (h1 q))
    · exact h.elim
  · simp only [ztg, Bool.and_eq_true] at ht
    obtain ⟨t1, t2⟩ := ht; cases zlen_s t1
    split at h
    · obtain ⟨x, y, S', rfl, h1, h2⟩ := zbr2_t h
      exact zs_icmp_lt C hd (ztgt_s t2 rfl) (fun q => hJ _ _ _ _ _ _ (h1 q)) (fun q => hN _ _ _ _ _ (h2 q))
    · exact h.elim
  · simp only [ztg, Bool.and_eq_true] at ht
    obtain ⟨t1, t2⟩ := ht; cases zlen_s t1
    split at h
    · obtain ⟨x, y, S', rfl, h1, h2⟩ := zbr2_f h
      exact zs_icmp_ge C hd (ztgt_s t2 rfl) (fun q => hJ _ _ _ _ _ _ (h2 q)) (fun q => hN _ _ _ _ _ (h1 q))
    · exact h.elim
  · simp only [ztg, Bool.and_eq_true] at ht
    obtain ⟨t1, t2⟩ := ht; cases zlen_s t1
    split at h
    · obtain ⟨x, y, S', rfl, h1, h2⟩ := zbr2_t h
      exact zs_icmp_gt C hd (ztgt_s t2 rfl) (fun q => hJ _ _ _ _ _ _ (h1 q)) (fun q => hN _ _ _ _ _ (h2 q))
    · exact h.elim
  · simp only [ztg, Bool.and_eq_true] at ht
    obtain ⟨t1, t2⟩ := ht; cases zlen_s t1
    split at h
    · obtain ⟨x, y, S', rfl, h1, h2⟩ := zbr2_f h
      exact zs_icmp_le C hd (ztgt_s t2 rfl) (fun q => hJ _ _ _ _ _ _ (h2 q)) (fun q => hN _ _ _ _ _ (h1 q))
    · exact h.elim
  · simp only [ztg, Bool.and_eq_true] at ht
    obtain ⟨t1, t2⟩ := ht; cases zlen_s t1
    split at h
    · exact zs_goto C hd (ztgt_s t2 rfl) (hJ _ _ _ _ _ _ h)
    · exact h.elim
  · split at h
    · split at h
      · exact zs_table C hd ht (fun t => hJ t _ _ _ _ _) (hJ _ _ _ _ _ _) h
      · exact h.elim
    · exact h.elim
  · split at h
    · split at h
      · exact zs_lookup C hd ht (fun t => hJ t _ _ _ _ _) (hJ _ _ _ _ _ _) h
      · exact h.elim
    · exact h.elim
  · cases zlen_s ht
    split at h
    · exact zs_lcmp C hd (fun q => hN _ _ _ _ _ (h.1 q)) (fun q z hz => hN _ _ _ _ _ (h.2 q z hz))
    · exact h.elim
  -- the heap
  · cases zlen_s ht
    obtain ⟨ci, j, a, S', o, v, h1, rfl, h2, h3, h4, h5⟩ := zgetf_s h
    exact zs_getf C hd h1 h2 h3 h4 (hN _ _ _ _ _ h5)
  · cases zlen_s ht
    obtain ⟨ci, j, a, S', v, q, o, h1, rfl, h2, h3, h4, h5, h6, h7, h8⟩ := zputf_s h
    exact zs_putf C hd h1 h2 h3 h4 h5 h6 h7 (hN _ _ _ _ _ h8)
  · cases zlen_s ht
    split at h
    · exact zs_gets C hd (by assumption) (hN _ _ _ _ _ h)
    · exact h.elim
  · cases zlen_s ht
    obtain ⟨j, a, S', rfl, ⟨n, f, h1, h2, h3⟩ | ⟨n, f, h0, h1, h2, h3⟩⟩ := zald_s h
    · exact zs_iald C hd h1 h2 (hN _ _ _ _ _ h3)
    · exact zs_sald C hd h0 h1 h2 (hN _ _ _ _ _ h3)
  · cases zlen_s ht
    obtain ⟨j, a, S', rfl, ⟨n, f, h1, h2, h3⟩ | ⟨n, f, h0, h1, h2, h3⟩⟩ := zald_s h
    · exact zs_bald C hd h1 h2 (hN _ _ _ _ _ h3)
    · exact zs_sbld C hd h0 h1 h2 (hN _ _ _ _ _ h3)
  · cases zlen_s ht
    obtain ⟨x, j, a, S', n, f, rfl, h1, h2, h3⟩ := zast_s h
    exact zs_iast C hd h1 h2 (hN _ _ _ _ _ h3)
  · cases zlen_s ht
    obtain ⟨x, j, a, S', n, f, rfl, h1, h2, h3⟩ := zast_s h
    exact zs_bast C hd h1 h2 (hN _ _ _ _ _ h3)
  · cases zlen_s ht
    obtain ⟨a, S', rfl, ⟨t, n, x, h1, h2, h3⟩ | ⟨t, n, f, h0, h1, h3⟩⟩ := zalen_s h
    · exact zs_alen C hd h1 h2 (hN _ _ _ _ _ h3)
    · exact zs_slen C hd h0 h1 (hN _ _ _ _ _ h3)
  · cases zlen_s ht
    exact znewa_sound C hd (zarr_i C) rfl rfl (fun _ _ h => h) (fun _ _ => rfl) (by decide) hN h
  · cases zlen_s ht
    exact znewa_sound C hd (zarr_b C) rfl rfl (fun _ _ h => h) (fun _ _ => rfl) (by decide) hN h
  · cases zlen_s ht
    exact znew_sound C hd hN h
  · cases zlen_s ht
    exact zinv_sound (ik := 0) C (by decide) hd hN h
  · cases zlen_s ht
    exact zinv_sound (ik := 1) C (by decide) hd hN h
  · cases zlen_s ht
    exact zinv_sound (ik := 2) C (by decide) hd hN h
  -- ends
  · cases zlen_s ht
    split at h
    · exact C.ret _ pc _ L w cu su hd rfl h
    · exact h.elim
  · cases zlen_s ht
    split at h
    · exact C.ret _ pc _ L w cu su hd rfl h
    · exact h.elim
  · cases zlen_s ht
    split at h
    · exact C.ret none pc _ L w cu su hd rfl h
    · exact h.elim
  · exact h.elim
/-- a program's rows: what each must keep -/
def zPg (Γ : zX) (P : List zE) : Prop := ∀ q ∈ P, decode Γ.cc q.1 = .ok (q.2.1, q.2.2.1) ∧ ztg q.2.1 q.1 q.2.2.1 q.2.2.2 = true
theorem zfind_s {t : Nat} : ∀ {P : List zE}, (∀ q ∈ zfind t P, q ∈ P) ∧ (∀ q r, zfind t P = q :: r → q.1 = t)
  | [] => ⟨fun _ h => absurd h List.not_mem_nil, fun _ _ h => (by cases h)⟩
  | x :: P => by
    unfold zfind
    split
    · rename_i hb
      refine ⟨fun q h => h, fun q r h => ?_⟩
      cases h
      exact Nat.eq_of_beq_eq_true hb
    · exact ⟨fun q h => List.mem_cons_of_mem _ (zfind_s.1 q h), zfind_s.2⟩
/-- the whole run: where every place of cut is safe, so is every place from which the run holds -/
theorem zwp_sound (C : zOK Γ T own) {P : List zE} (hP : zPg Γ P) {cut : List (Nat × zK)} (hcut : ∀ q ∈ cut, ∀ L S w cu su, q.2 L S w cu su → zSm Γ q.1 L S w cu su) : ∀ (n : Nat) (r : List zE), (∀ q ∈ r, q ∈ P) → ∀ (L : zL) (S : zS) (w : zW) (cu su : Nat), zwp T Γ.nL P cut n r L S w cu su → ∀ q r', r = q :: r' → zSm Γ q.1 L S w cu su := by
  intro n
  induction n with
  | zero => intro r _ L S w cu su h; cases r <;> exact h.elim
  | succ n ih =>
    intro r hr L S w cu su h q r' e
    subst e
    obtain ⟨hd, ht⟩ := hP q (hr q List.mem_cons_self)
    unfold zwp at h
    refine zi_sound C hd ht (fun L' S' w' cu' su' h1 => ?_) (fun t L' S' w' cu' su' h1 => ?_) h
    · split at h1
      · exact h1.elim
      · rename_i q' r''
        split at h1
        · rename_i hb
          have e1 := Nat.eq_of_beq_eq_true hb
          rw [← e1]
          split at h1
          · rename_i hc
            exact hcut _ (zlk_mem hc) _ _ _ _ _ h1
          · exact ih _ (fun x hx => hr x (List.mem_cons_of_mem _ hx)) _ _ _ _ _ h1 _ _ rfl
        · exact h1.elim
    · split at h1
      · rename_i hc
        exact hcut _ (zlk_mem hc) _ _ _ _ _ h1
      · cases hf : zfind t P with
        | nil => rw [hf] at h1; cases n <;> exact h1.elim
        | cons x r'' =>
          rw [hf] at h1
          have e1 := zfind_s.2 x r'' hf
          rw [← e1]
          exact ih _ (fun y hy => zfind_s.1 y (by rw [hf]; exact hy)) _ _ _ _ _ h1 _ _ rfl
/-- fewer, or other, locals are enough -/
def zsub : zL → zL → Prop
  | [], _ => True
  | q :: t, L => zlk q.1 L = some q.2 ∧ zsub t L
theorem zsub_mem : ∀ {L' L : zL}, zsub L' L → ∀ q ∈ L', zlk q.1 L = some q.2
  | [], _, _, _, hq => by cases hq
  | x :: t, L, h, q, hq => by
    rcases List.mem_cons.mp hq with e | hq
    · rw [e]; exact h.1
    · exact zsub_mem h.2 q hq
theorem zSm_sub {L' : zL} (h : zsub L' L) (k : zSm Γ pc L' S w cu su) : zSm Γ pc L S w cu su := by
  intro ad H locs ls hP hD hS hl ha
  refine k ad H locs ls hP hD hS ⟨hl.1, hl.2.1, fun q hq => ?_⟩ ha
  obtain ⟨x, hx, rfl⟩ := List.mem_map.mp hq
  exact zlk_at hl (zsub_mem h x hx)
theorem zSm_widen {k n : Nat} (h1 : cu ≤ k) (h2 : su ≤ n) (kk : zSm Γ pc L S w k n) : zSm Γ pc L S w cu su :=
  fun ad H locs ls hP hD hS hl ha => W.widen h1 h2 (kk ad H locs ls hP hD hS hl ha)
/-- two worlds that hold the same -/
def zeqE : va_E → va_E → Prop
  | .inl (t, n, .inl f), .inl (t', n', .inl f') => t = t' ∧ n = n' ∧ ∀ j, j < n → f j = f' j
  | e, e' => e = e'
theorem zSm_cells {w' : zW} (h : ∀ ad H, va_P Γ.G zCl (zcw Γ.cA ad w) H → va_P Γ.G zCl (zcw Γ.cA ad w') H) (hl : w'.length = w.length) (k : zSm Γ pc L S w' cu su) : zSm Γ pc L S w cu su := by
  intro ad H locs ls hP hD hS hl2 ha
  refine k ad H locs ls (h ad H hP) ⟨fun i j p q hi hj hpq => ?_, fun i q hq => ?_⟩ hS hl2 ha
  · obtain ⟨e1, g1, rfl⟩ := zcw_inv hi
    obtain ⟨e2, g2, rfl⟩ := zcw_inv hj
    have l1 : i < w.length := by rw [← hl]; exact (List.getElem?_eq_some_iff.mp g1).1
    have l2 : j < w.length := by rw [← hl]; exact (List.getElem?_eq_some_iff.mp g2).1
    exact hD.1 i j _ _ (zcw_get (List.getElem?_eq_getElem l1)) (zcw_get (List.getElem?_eq_getElem l2)) hpq
  · obtain ⟨e1, g1, rfl⟩ := zcw_inv hq
    have l1 : i < w.length := by rw [← hl]; exact (List.getElem?_eq_some_iff.mp g1).1
    have h9 := hD.2 i _ (zcw_get (List.getElem?_eq_getElem l1))
    exact h9
end ZR
