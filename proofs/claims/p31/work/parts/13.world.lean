/-! ===== helpers of the tables; the world of the class ===== -/
theorem zpg_of {cc : ByteArray} {P : List zE} (h : P.all (fun q => decide (decode cc q.1 = .ok (q.2.1, q.2.2.1)) && ztg q.2.1 q.1 q.2.2.1 q.2.2.2) = true) : ∀ q ∈ P, decode cc q.1 = .ok (q.2.1, q.2.2.1) ∧ ztg q.2.1 q.1 q.2.2.1 q.2.2.2 = true := by
  intro q hq
  have h1 := List.all_eq_true.mp h q hq
  simpa using h1
def zfldb (own : String) : List Nat → List (Nat × Nat × Nat) → Bool
  | [], [] => true
  | p :: ps, q :: fl => (match zCl[q.2.1]? with
    | some C => Nat.blt q.2.2 C.2.2 && decide (lw_tbl[p]? = some (Cond.fieldLink own q.1 (C.2.1 q.2.2).1 (C.2.1 q.2.2).2.1 (C.2.1 q.2.2).2.2.1))
    | none => false) && zfldb own ps fl
  | _, _ => false
theorem zfld_of {own : String} : ∀ {ps : List Nat} {fl : List (Nat × Nat × Nat)}, zfldb own ps fl = true → ∀ q ∈ fl, zFld own q
  | [], [], _, q, hq => absurd hq List.not_mem_nil
  | p :: ps, x :: fl, h, q, hq => by
    simp only [zfldb, Bool.and_eq_true] at h
    rcases List.mem_cons.mp hq with e | hq
    · subst e
      have h1 := h.1
      split at h1
      · rename_i C hC
        simp only [Bool.and_eq_true, decide_eq_true_eq] at h1
        exact ⟨C, hC, zblt h1.1, zmem h1.2 rfl⟩
      · cases h1
    · exact zfld_of h.2 q hq
  | [], _ :: _, h, _, _ => nomatch h
  | _ :: _, [], h, _, _ => nomatch h
theorem zini_of {own : String} {fl : List (Nat × Nat × Nat)} (h : fl.all (fun q => match zCl[q.2.1]? with
    | some C => decide ((C.2.1 q.2.2).1 = own)
    | none => true) = true) : ∀ q ∈ fl, ∀ C : vw_C, zCl[q.2.1]? = some C → (C.2.1 q.2.2).1 = own := by
  intro q hq C hC
  have h1 := List.all_eq_true.mp h q hq
  rw [hC] at h1
  simpa using h1
def zspO : zSpec := fun _ w Q _ => Q none w
/-- a store of numbered things -/
def zu {β : Type} (f : Nat → β) (k : Nat) (v : β) : Nat → β := fun j => match Nat.beq j k with
  | true => v
  | false => f j
/-- the cells of an EchoRegistry (from place 0 on), and others behind them -/
def WX (α : Nat → Nat → Int32) (ν : Nat → Int32) (r : zW) : zW :=
  .inr (5, [.ref 1, .ref 8, .ref 11, .ref 15, .ref 19, .int (ν 0)]) ::
  .inr (1, [.ref 2, .ref 3, .ref 4, .ref 5, .ref 6, .ref 7, .int (ν 1), .int (ν 2)]) ::
  .inl (0, 96, .inl (α 0)) :: .inl (0, 96, .inl (α 1)) :: .inl (0, 96, .inl (α 2)) :: .inl (0, 96, .inl (α 3)) :: .inl (0, 96, .inl (α 4)) :: .inl (0, 96, .inl (α 5)) ::
  .inr (3, [.ref 9, .ref 10]) :: .inl (0, 4, .inl (α 6)) :: .inl (0, 4, .inl (α 7)) ::
  .inr (2, [.ref 12, .ref 13, .ref 14, .int (ν 3)]) :: .inl (0, 40, .inl (α 8)) :: .inl (0, 40, .inl (α 9)) :: .inl (0, 40, .inl (α 10)) ::
  .inr (4, [.ref 16, .ref 17, .ref 18, .int (ν 4), .int (ν 5)]) :: .inl (0, 60, .inl (α 11)) :: .inl (0, 60, .inl (α 12)) :: .inl (0, 6, .inl (α 13)) ::
  .inr (0, [.ref 20, .int 0, .int (ν 7), .int (ν 6)]) :: .inl (2, 16, .inl (α 14)) :: r
/-- a truth, as a call answers it -/
def zB (Q : Option Value → zW → Prop) (b : Prop) (w : zW) : Prop := (b → Q (some (.int 1)) w) ∧ (¬ b → Q (some (.int 0)) w)
def sp_X4_isCell : zSpec := fun args w Q _ => ∃ x, args = [.int x] ∧ zB Q (vp_in x 96) w
theorem vp_in_lt {x : Int32} {n : Nat} (hn : n < 2 ^ 31) (h0 : ¬ x < 0) (h : x < nI n) : vp_in x n := by
  obtain ⟨j, hj, rfl⟩ := nI_of h0
  exact vp_in_nI ((nI_ltI hj hn).mp h) hn
theorem vp_in_nlt {x : Int32} {n : Nat} (hn : n < 2 ^ 31) (h : ¬ x < nI n) : ¬ vp_in x n := by
  intro hv
  obtain ⟨j, hj, rfl⟩ := vp_in_of hv hn
  exact h (nI_lt hj hn)
theorem vp_in_neg {x : Int32} {n : Nat} (h : x < 0) : ¬ vp_in x n := fun hv => hv (Or.inl h)
def fl_RX4 : List (Nat × Nat × Nat) := [(12, 5, 0), (19, 5, 1), (26, 5, 2), (33, 5, 3), (40, 5, 4), (44, 5, 5)]
theorem hfl_RX4 : ∀ q ∈ fl_RX4, zFld RX4 q := zfld_of (ps := [167, 168, 169, 170, 171, 172]) (by decide +kernel)
def pg_X4_isCell : List zE := [(0, .iload_n 0, 1, []), (1, .ifCond .lt 13, 3, [14]), (4, .iload_n 0, 1, []), (5, .bipush 96, 2, [96]), (7, .if_icmp .ge 7, 3, [14]), (10, .iconst 1, 1, [1]), (11, .goto 4, 3, [15]), (14, .iconst 0, 1, [0]), (15, .ireturn, 1, [])]
theorem hp_X4_isCell : ∀ q ∈ pg_X4_isCell, decode cX4_isCell q.1 = .ok (q.2.1, q.2.2.1) ∧ ztg q.2.1 q.1 q.2.2.1 q.2.2.2 = true := zpg_of (by decide +kernel)
def cs_X4_isCell : List (Nat × zCall) := []
theorem hcs_X4_isCell {l : Launch} (hl0 : l.stackTraces = false) : ∀ q ∈ cs_X4_isCell, zCallable l RX4 1 q := fun _ h => absurd h List.not_mem_nil
def th_X4_isCell : List (Nat × String) := []
theorem hth_X4_isCell : ∀ q ∈ th_X4_isCell, zThrow cX4_isCell RX4 q := fun _ h => absurd h List.not_mem_nil
def kc_X4_isCell : List (Nat × Int32) := []
theorem hkc_X4_isCell : ∀ q ∈ kc_X4_isCell, Cond.constant RX4 q.1 q.2 ∈ zTs := fun _ h => absurd h List.not_mem_nil
def nw_X4_isCell : List (Nat × Nat × Nat × List Value) := []
theorem hnw_X4_isCell : ∀ q ∈ nw_X4_isCell, zNew RX4 q := fun _ h => absurd h List.not_mem_nil
set_option maxHeartbeats 4000000 in
set_option maxRecDepth 20000 in
theorem c_X4_isCell {l : Launch} (hl0 : l.stackTraces = false) : CT l yX4_isCell (.code yX4_isCell cX4_isCell 1 (some .boolean)) 1 0 0 false sp_X4_isCell := by
  refine zCT_of hl0 (own := RX4) fl_RX4 cs_X4_isCell nw_X4_isCell th_X4_isCell kc_X4_isCell (fun _ => []) false pg_X4_isCell rfl (by decide +kernel) hp_X4_isCell ⟨_, _, rfl, rfl⟩ hfl_RX4 (fun h => nomatch h) (hcs_X4_isCell hl0) hnw_X4_isCell hth_X4_isCell (fun _ _ h => absurd h List.not_mem_nil) hkc_X4_isCell (fun args w Q X v0 hv0 h => ?_)
  obtain ⟨x, rfl, h1, h2⟩ := h
  refine ⟨Nat.le_of_ble_eq_true rfl, 20, [], ?_, fun q hq => absurd hq List.not_mem_nil⟩
  (conv => whnf)
  refine And.intro (fun c => ?_) (fun c => ?_) <;> dsimp only at c
  · (conv => whnf); exact ⟨Or.inl rfl, h2 (vp_in_neg c)⟩
  · (conv => whnf)
    refine And.intro (fun d => ?_) (fun d => ?_) <;> dsimp only at d
    · (conv => whnf); exact ⟨Or.inr rfl, h1 (vp_in_lt (by decide) c d)⟩
    · (conv => whnf); exact ⟨Or.inl rfl, h2 (vp_in_nlt (by decide) d)⟩
def sp_X4_columnOf : zSpec := fun args w Q _ => ∃ k, k < 96 ∧ args = [.int (nI k)] ∧ Q (some (.int (nI (k % 12)))) w
def pg_X4_columnOf : List zE := [(0, .iload_n 0, 1, []), (1, .bipush 12, 2, [12]), (3, .irem, 1, []), (4, .ireturn, 1, [])]
theorem hp_X4_columnOf : ∀ q ∈ pg_X4_columnOf, decode cX4_columnOf q.1 = .ok (q.2.1, q.2.2.1) ∧ ztg q.2.1 q.1 q.2.2.1 q.2.2.2 = true := zpg_of (by decide +kernel)
def cs_X4_columnOf : List (Nat × zCall) := []
theorem hcs_X4_columnOf {l : Launch} (hl0 : l.stackTraces = false) : ∀ q ∈ cs_X4_columnOf, zCallable l RX4 1 q := fun _ h => absurd h List.not_mem_nil
def th_X4_columnOf : List (Nat × String) := []
theorem hth_X4_columnOf : ∀ q ∈ th_X4_columnOf, zThrow cX4_columnOf RX4 q := fun _ h => absurd h List.not_mem_nil
def kc_X4_columnOf : List (Nat × Int32) := []
theorem hkc_X4_columnOf : ∀ q ∈ kc_X4_columnOf, Cond.constant RX4 q.1 q.2 ∈ zTs := fun _ h => absurd h List.not_mem_nil
def nw_X4_columnOf : List (Nat × Nat × Nat × List Value) := []
theorem hnw_X4_columnOf : ∀ q ∈ nw_X4_columnOf, zNew RX4 q := fun _ h => absurd h List.not_mem_nil
set_option maxHeartbeats 4000000 in
set_option maxRecDepth 20000 in
theorem c_X4_columnOf {l : Launch} (hl0 : l.stackTraces = false) : CT l yX4_columnOf (.code yX4_columnOf cX4_columnOf 1 (some .int)) 1 0 0 false sp_X4_columnOf := by
  refine zCT_of hl0 (own := RX4) fl_RX4 cs_X4_columnOf nw_X4_columnOf th_X4_columnOf kc_X4_columnOf (fun _ => []) false pg_X4_columnOf rfl (by decide +kernel) hp_X4_columnOf ⟨_, _, rfl, rfl⟩ hfl_RX4 (fun h => nomatch h) (hcs_X4_columnOf hl0) hnw_X4_columnOf hth_X4_columnOf (fun _ _ h => absurd h List.not_mem_nil) hkc_X4_columnOf (fun args w Q X v0 hv0 h => ?_)
  obtain ⟨k, hk, rfl, hQ⟩ := h
  refine ⟨Nat.le_of_ble_eq_true rfl, 20, [], ?_, fun q hq => absurd hq List.not_mem_nil⟩
  (conv => whnf)
  refine ⟨by decide, ?_⟩
  (conv => whnf)
  dsimp only [zkon]
  rw [pk_rem (by omega) (by omega) (by omega)]
  exact hQ
def sp_X4_depthAt : zSpec := fun args w Q _ => ∃ k, k < 96 ∧ args = [.int (nI k)] ∧ Q (some (.int (nI (10 * (k / 12 + 1))))) w
def pg_X4_depthAt : List zE := [(0, .bipush 10, 2, [10]), (2, .iload_n 0, 1, []), (3, .bipush 12, 2, [12]), (5, .idiv, 1, []), (6, .iconst 1, 1, [1]), (7, .iadd, 1, []), (8, .imul, 1, []), (9, .ireturn, 1, [])]
theorem hp_X4_depthAt : ∀ q ∈ pg_X4_depthAt, decode cX4_depthAt q.1 = .ok (q.2.1, q.2.2.1) ∧ ztg q.2.1 q.1 q.2.2.1 q.2.2.2 = true := zpg_of (by decide +kernel)
def cs_X4_depthAt : List (Nat × zCall) := []
theorem hcs_X4_depthAt {l : Launch} (hl0 : l.stackTraces = false) : ∀ q ∈ cs_X4_depthAt, zCallable l RX4 1 q := fun _ h => absurd h List.not_mem_nil
def th_X4_depthAt : List (Nat × String) := []
theorem hth_X4_depthAt : ∀ q ∈ th_X4_depthAt, zThrow cX4_depthAt RX4 q := fun _ h => absurd h List.not_mem_nil
def kc_X4_depthAt : List (Nat × Int32) := []
theorem hkc_X4_depthAt : ∀ q ∈ kc_X4_depthAt, Cond.constant RX4 q.1 q.2 ∈ zTs := fun _ h => absurd h List.not_mem_nil
def nw_X4_depthAt : List (Nat × Nat × Nat × List Value) := []
theorem hnw_X4_depthAt : ∀ q ∈ nw_X4_depthAt, zNew RX4 q := fun _ h => absurd h List.not_mem_nil
set_option maxHeartbeats 4000000 in
set_option maxRecDepth 20000 in
theorem c_X4_depthAt {l : Launch} (hl0 : l.stackTraces = false) : CT l yX4_depthAt (.code yX4_depthAt cX4_depthAt 1 (some .int)) 1 0 0 false sp_X4_depthAt := by
  refine zCT_of hl0 (own := RX4) fl_RX4 cs_X4_depthAt nw_X4_depthAt th_X4_depthAt kc_X4_depthAt (fun _ => []) false pg_X4_depthAt rfl (by decide +kernel) hp_X4_depthAt ⟨_, _, rfl, rfl⟩ hfl_RX4 (fun h => nomatch h) (hcs_X4_depthAt hl0) hnw_X4_depthAt hth_X4_depthAt (fun _ _ h => absurd h List.not_mem_nil) hkc_X4_depthAt (fun args w Q X v0 hv0 h => ?_)
  obtain ⟨k, hk, rfl, hQ⟩ := h
  refine ⟨Nat.le_of_ble_eq_true rfl, 20, [], ?_, fun q hq => absurd hq List.not_mem_nil⟩
  (conv => whnf)
  refine ⟨by decide, ?_⟩
  (conv => whnf)
  dsimp only [zkon]
  rw [pk_div (by omega) (by omega) (by omega), nI_add, pk_mul]
  exact hQ
def sp_X0_heightAt : zSpec := fun args w Q _ => ∃ α ν r k, k < 96 ∧ args = [.ref 1, .int (nI k)] ∧ w = WX α ν r ∧ Q (some (.int (α 0 k))) (WX α ν r)
def fl_RX0 : List (Nat × Nat × Nat) := [(9, 1, 0), (15, 1, 1), (18, 1, 2), (21, 1, 3), (30, 1, 4), (33, 1, 5), (36, 1, 6), (40, 1, 7)]
theorem hfl_RX0 : ∀ q ∈ fl_RX0, zFld RX0 q := zfld_of (ps := [54, 55, 56, 57, 58, 59, 60, 61]) (by decide +kernel)
def pg_X0_heightAt : List zE := [(0, .iload_n 1, 1, []), (1, .invokestatic 43, 3, []), (4, .ifCond .eq 12, 3, [16]), (7, .aload_n 0, 1, []), (8, .getfield 9, 3, []), (11, .iload_n 1, 1, []), (12, .iaload, 1, []), (13, .goto 4, 3, [17]), (16, .iconst 0, 1, [0]), (17, .ireturn, 1, [])]
theorem hp_X0_heightAt : ∀ q ∈ pg_X0_heightAt, decode cX0_heightAt q.1 = .ok (q.2.1, q.2.2.1) ∧ ztg q.2.1 q.1 q.2.2.1 q.2.2.2 = true := zpg_of (by decide +kernel)
def cs_X0_heightAt : List (Nat × zCall) := [(43, 1, 1, none, 0, 0, false, sp_X4_isCell)]
theorem hcs_X0_heightAt {l : Launch} (hl0 : l.stackTraces = false) : ∀ q ∈ cs_X0_heightAt, zCallable l RX0 2 q := List.forall_mem_cons.mpr ⟨zcN (ps := [194, 14, 195]) (host := RX4) (c_X4_isCell hl0) (by decide +kernel) (by decide +kernel) ⟨by decide +kernel, by decide +kernel, by decide +kernel⟩ (by decide) (by decide), fun _ h => absurd h List.not_mem_nil⟩
def th_X0_heightAt : List (Nat × String) := []
theorem hth_X0_heightAt : ∀ q ∈ th_X0_heightAt, zThrow cX0_heightAt RX0 q := fun _ h => absurd h List.not_mem_nil
def kc_X0_heightAt : List (Nat × Int32) := []
theorem hkc_X0_heightAt : ∀ q ∈ kc_X0_heightAt, Cond.constant RX0 q.1 q.2 ∈ zTs := fun _ h => absurd h List.not_mem_nil
def nw_X0_heightAt : List (Nat × Nat × Nat × List Value) := []
theorem hnw_X0_heightAt : ∀ q ∈ nw_X0_heightAt, zNew RX0 q := fun _ h => absurd h List.not_mem_nil
set_option maxHeartbeats 4000000 in
set_option maxRecDepth 20000 in
theorem c_X0_heightAt {l : Launch} (hl0 : l.stackTraces = false) : CT l yX0_heightAt (.code yX0_heightAt cX0_heightAt 2 (some .int)) 2 0 0 false sp_X0_heightAt := by
  refine zCT_of hl0 (own := RX0) fl_RX0 cs_X0_heightAt nw_X0_heightAt th_X0_heightAt kc_X0_heightAt (fun _ => []) false pg_X0_heightAt rfl (by decide +kernel) hp_X0_heightAt ⟨_, _, rfl, rfl⟩ hfl_RX0 (fun h => nomatch h) (hcs_X0_heightAt hl0) hnw_X0_heightAt hth_X0_heightAt (fun _ _ h => absurd h List.not_mem_nil) hkc_X0_heightAt (fun args w Q X v0 hv0 h => ?_)
  obtain ⟨α, ν, r, k, hk, rfl, rfl, hQ⟩ := h
  refine ⟨Nat.le_of_ble_eq_true rfl, 20, [], ?_, fun q hq => absurd hq List.not_mem_nil⟩
  (conv => whnf)
  refine ⟨_, rfl, fun _ => ?_, fun c => absurd (vp_in_nI hk (by decide)) c⟩
  (conv => whnf)
  refine And.intro (fun c => absurd c (show ¬ _ from (by decide))) (fun _ => ?_)
  (conv => whnf)
  refine ⟨vp_in_nI hk (by decide), ?_⟩
  (conv => whnf)
  rw [nI_clamp (by omega)]
  exact hQ
def sp_X0_setHeight : zSpec := fun args w Q _ => ∃ α ν r k x, k < 96 ∧ args = [.ref 1, .int (nI k), .int x] ∧ w = WX α ν r ∧ Q none (WX (zu α 0 (upd (α 0) k x)) ν r)
def pg_X0_setHeight : List zE := [(0, .iload_n 1, 1, []), (1, .invokestatic 43, 3, []), (4, .ifCond .eq 10, 3, [14]), (7, .aload_n 0, 1, []), (8, .getfield 9, 3, []), (11, .iload_n 1, 1, []), (12, .iload_n 2, 1, []), (13, .iastore, 1, []), (14, .return_, 1, [])]
theorem hp_X0_setHeight : ∀ q ∈ pg_X0_setHeight, decode cX0_setHeight q.1 = .ok (q.2.1, q.2.2.1) ∧ ztg q.2.1 q.1 q.2.2.1 q.2.2.2 = true := zpg_of (by decide +kernel)
def cs_X0_setHeight : List (Nat × zCall) := [(43, 1, 1, none, 0, 0, false, sp_X4_isCell)]
theorem hcs_X0_setHeight {l : Launch} (hl0 : l.stackTraces = false) : ∀ q ∈ cs_X0_setHeight, zCallable l RX0 2 q := List.forall_mem_cons.mpr ⟨zcN (ps := [194, 14, 195]) (host := RX4) (c_X4_isCell hl0) (by decide +kernel) (by decide +kernel) ⟨by decide +kernel, by decide +kernel, by decide +kernel⟩ (by decide) (by decide), fun _ h => absurd h List.not_mem_nil⟩
def th_X0_setHeight : List (Nat × String) := []
theorem hth_X0_setHeight : ∀ q ∈ th_X0_setHeight, zThrow cX0_setHeight RX0 q := fun _ h => absurd h List.not_mem_nil
def kc_X0_setHeight : List (Nat × Int32) := []
theorem hkc_X0_setHeight : ∀ q ∈ kc_X0_setHeight, Cond.constant RX0 q.1 q.2 ∈ zTs := fun _ h => absurd h List.not_mem_nil
def nw_X0_setHeight : List (Nat × Nat × Nat × List Value) := []
theorem hnw_X0_setHeight : ∀ q ∈ nw_X0_setHeight, zNew RX0 q := fun _ h => absurd h List.not_mem_nil
set_option maxHeartbeats 4000000 in
set_option maxRecDepth 20000 in
theorem c_X0_setHeight {l : Launch} (hl0 : l.stackTraces = false) : CT l yX0_setHeight (.code yX0_setHeight cX0_setHeight 3 none) 2 0 0 false sp_X0_setHeight := by
  refine zCT_of hl0 (own := RX0) fl_RX0 cs_X0_setHeight nw_X0_setHeight th_X0_setHeight kc_X0_setHeight (fun _ => []) false pg_X0_setHeight rfl (by decide +kernel) hp_X0_setHeight ⟨_, _, rfl, rfl⟩ hfl_RX0 (fun h => nomatch h) (hcs_X0_setHeight hl0) hnw_X0_setHeight hth_X0_setHeight (fun _ _ h => absurd h List.not_mem_nil) hkc_X0_setHeight (fun args w Q X v0 hv0 h => ?_)
  obtain ⟨α, ν, r, k, x, hk, rfl, rfl, hQ⟩ := h
  refine ⟨Nat.le_of_ble_eq_true rfl, 20, [], ?_, fun q hq => absurd hq List.not_mem_nil⟩
  (conv => whnf)
  refine ⟨_, rfl, fun _ => ?_, fun c => absurd (vp_in_nI hk (by decide)) c⟩
  (conv => whnf)
  refine And.intro (fun c => absurd c (show ¬ _ from (by decide))) (fun _ => ?_)
  (conv => whnf)
  refine ⟨vp_in_nI hk (by decide), ?_⟩
  (conv => whnf)
  rw [nI_clamp (by omega)]
  exact hQ
