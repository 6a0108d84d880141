/-! ===== CALLS: of each kind, by the callee's contract ===== -/
section ZK
variable {l : Launch} {own : String} {d idx d' maxL mc ms n ci : Nat} {al : Bool} {Sp : zSpec} {y : MethodName} {bytes : ByteArray} {ret : Option FieldType} {ps : List Nat}
theorem zins_good {ws : List Cond} (h : zins ps ws = true) : GoodIn zTs ws := fun w hw => ⟨zins_in h w hw, good_of_word (zgood (zins_in h w hw))⟩
theorem zrcv_s {as : zS} {w : zW} (h : zrcv (some ci) as w = true) : ∃ k as' o, as = .ref k :: as' ∧ w[k]? = some (.inr o) ∧ o.1 = ci := by
  unfold zrcv at h
  split at h
  · rename_i h0; cases h0
  · rename_i h0
    cases h0
    split at h
    · split at h
      · exact ⟨_, _, _, rfl, by assumption, Nat.eq_of_beq_eq_true h⟩
      · cases h
    · cases h
theorem zstk {as S' : zS} {ad : Nat → Nat} {k : Nat} : ((Value.ref k :: as).reverse ++ S').map (zcv ad) = (as.map (zcv ad)).reverse ++ .ref (ad k) :: S'.map (zcv ad) := by
  simp [List.map_append, List.map_reverse, zcv]
theorem zstkS {as S' : zS} {ad : Nat → Nat} : (as.reverse ++ S').map (zcv ad) = (as.map (zcv ad)).reverse ++ S'.map (zcv ad) := by
  simp [List.map_append, List.map_reverse]
set_option maxHeartbeats 2000000 in
theorem zcV {C : vw_C} (hM : CT l y (.code y bytes maxL ret) d' mc ms al Sp) (hz : zins ps (wsV own idx C.1 y [.code y bytes maxL ret]) = true) (hc : zCl[ci]? = some C) (hy : y.cls = C.1 ∧ y.cls ≠ "java/lang/invoke/MethodHandle" ∧ y.cls ≠ "java/lang/invoke/VarHandle" ∧ (parseMethodDescriptor y.desc).map (fun d => d.parameters.length) = some n) (hd : d' < d) (hm : maxL ≤ 20) : zCallable l own d (idx, 0, n + 1, some ci, mc, ms, al, Sp) := by
  intro Γ T B pc L S as S' w cu su QN _ hd2 hp hrc hcat hcu hsu hal hN hSp ad H locs ls hP hD hS hl ha
  obtain ⟨hlen, rfl⟩ := zpop_top hp
  obtain ⟨k, as', o, rfl, hw, rfl⟩ := zrcv_s hrc
  obtain ⟨e1, hx, hb, hml, hown, hE, hRf, hRl, hA, hrC, hrS, hTa, hTn, hex⟩ := id B
  subst e1
  have M := hM Γ.G Γ.cA ad w (.ref k :: as') H.size QN _ hSp
  exact zcall_fin B hP hD hS hl ha hal hN (vx_runV (As := as'.map (zcv ad)) (rest := S'.map (zcv ad)) (b := ad k) ⟨hx, hb, hml, hown, zts B⟩ M (cwV n (zts B) (zins_good hz) rfl rfl rfl hy (zroom B hd hm)) ⟨zpre_blind, va_recv hE.2.2.2.2.2.2.2.1 hP hc (zcw_get hw), fun U hU hW => zpre_at (as := .ref k :: as') B hP hD hS ha hU hW⟩ rfl (by rw [List.length_map]; simpa using hlen) hl.1 zstk (zmon hcat) hd2 ⟨Nat.le_trans hcu hrC, Nat.le_trans hsu hrS⟩)
set_option maxHeartbeats 2000000 in
theorem zcS (hM : CT l y (.code y bytes maxL ret) d' mc ms al Sp) (hz : zins ps (va_wsS own idx y [.code y bytes maxL ret]) = true) (hy : y.cls ≠ "java/lang/invoke/MethodHandle" ∧ y.cls ≠ "java/lang/invoke/VarHandle" ∧ (parseMethodDescriptor y.desc).map (fun d => d.parameters.length) = some n) (hd : d' < d) (hm : maxL ≤ 20) : zCallable l own d (idx, 1, n, none, mc, ms, al, Sp) := by
  intro Γ T B pc L S as S' w cu su QN _ hd2 hp hrc hcat hcu hsu hal hN hSp ad H locs ls hP hD hS hl ha
  obtain ⟨hlen, rfl⟩ := zpop_top hp
  obtain ⟨e1, hx, hb, hml, hown, hE, hRf, hRl, hA, hrC, hrS, hTa, hTn, hex⟩ := id B
  subst e1
  have M := hM Γ.G Γ.cA ad w as H.size QN _ hSp
  exact zcall_fin B hP hD hS hl ha hal hN (vx_runS (As := as.map (zcv ad)) (rest := S'.map (zcv ad)) ⟨hx, hb, hml, hown, zts B⟩ M (va_cwS n (zts B) (zins_good hz) rfl rfl rfl hy (zroom B hd hm)) ⟨zpre_blind, fun U hU hW => zpre_at B hP hD hS ha hU hW⟩ rfl (by rw [List.length_map]; exact hlen) hl.1 zstkS (zmon hcat) hd2 ⟨Nat.le_trans hcu hrC, Nat.le_trans hsu hrS⟩)
set_option maxHeartbeats 2000000 in
theorem zcI (hM : CT l y (.code y bytes maxL none) d' mc ms al Sp) (hz : zins ps [.methodLink own idx y, .instanceMethod y, .initialized y.cls, .code y bytes maxL none] = true) (hy1 : y.name = "<init>") (hy : y.cls ≠ "java/lang/invoke/MethodHandle" ∧ y.cls ≠ "java/lang/invoke/VarHandle" ∧ (parseMethodDescriptor y.desc).map (fun d => d.parameters.length) = some n) (hd : d' < d) (hm : maxL ≤ 20) : zCallable l own d (idx, 2, n + 1, some ci, mc, ms, al, Sp) := by
  intro Γ T B pc L S as S' w cu su QN _ hd2 hp hrc hcat hcu hsu hal hN hSp ad H locs ls hP hD hS hl ha
  obtain ⟨hlen, rfl⟩ := zpop_top hp
  obtain ⟨k, as', o, rfl, hw, rfl⟩ := zrcv_s hrc
  obtain ⟨e1, hx, hb, hml, hown, hE, hRf, hRl, hA, hrC, hrS, hTa, hTn, hex⟩ := id B
  subst e1
  have M := hM Γ.G Γ.cA ad w (.ref k :: as') H.size QN _ hSp
  have hm9 : ∀ w ∈ [Cond.methodLink own idx y, .instanceMethod y, .initialized y.cls, .code y bytes maxL none], w.before Γ.args Γ.s = true := fun w hw => zts B w (zins_in hz w hw)
  exact zcall_fin B hP hD hS hl ha hal hN (vx_runI (As := as'.map (zcv ad)) (rest := S'.map (zcv ad)) (b := ad k) ⟨hx, hb, hml, hown, zts B⟩ M (cwI n (zts B) (zgi (zins_in hz _ (by simp))) rfl rfl rfl (hm9 _ (by simp)) (hm9 _ (by simp)) (hm9 _ (by simp)) hy1 hy (zroom B hd hm)) ⟨zpre_blind, fun U hU hW => zpre_at (as := .ref k :: as') B hP hD hS ha hU hW⟩ rfl (by rw [List.length_map]; simpa using hlen) hl.1 zstk (zmon hcat) hd2 ⟨Nat.le_trans hcu hrC, Nat.le_trans hsu hrS⟩)
set_option maxHeartbeats 2000000 in
theorem zcN {host : String} (hM : CT l y (.code y bytes maxL ret) d' mc ms al Sp) (hz : zins ps [.static y, .initialized y.cls, .code y bytes maxL ret] = true) (hn : (own, idx, y, host) ∈ zNest) (hy : y.cls ≠ "java/lang/invoke/MethodHandle" ∧ y.cls ≠ "java/lang/invoke/VarHandle" ∧ (parseMethodDescriptor y.desc).map (fun d => d.parameters.length) = some n) (hd : d' < d) (hm : maxL ≤ 20) : zCallable l own d (idx, 1, n, none, mc, ms, al, Sp) := by
  intro Γ T B pc L S as S' w cu su QN _ hd2 hp hrc hcat hcu hsu hal hN hSp ad H locs ls hP hD hS hl ha
  obtain ⟨hlen, rfl⟩ := zpop_top hp
  obtain ⟨e1, hx, hb, hml, hown, hE, hRf, hRl, hA, hrC, hrS, hTa, hTn, hex⟩ := id B
  subst e1
  have M := hM Γ.G Γ.cA ad w as H.size QN _ hSp
  have hm9 : ∀ w ∈ [Cond.static y, .initialized y.cls, .code y bytes maxL ret], w.before Γ.args Γ.s = true := fun w hw => zts B w (zins_in hz w hw)
  exact zcall_fin B hP hD hS hl ha hal hN (vx_runSN (host := host) (As := as.map (zcv ad)) (rest := S'.map (zcv ad)) ⟨hx, hb, hml, hown, zts B⟩ M ⟨va_cnB n (zts B) (zgi (zins_in hz _ (by simp))) rfl rfl rfl (hE.2.1.1 _ hn) (hm9 _ (by simp)) hy (zroom B hd hm), hm9 _ (by simp), trivial⟩ ⟨zpre_blind, fun U hU hW => zpre_at B hP hD hS ha hU hW⟩ rfl (by rw [List.length_map]; exact hlen) hl.1 zstkS (zmon hcat) hd2 ⟨Nat.le_trans hcu hrC, Nat.le_trans hsu hrS⟩)
set_option maxHeartbeats 2000000 in
theorem zcU {C : vw_C} {x : MethodName} {owner : String} (hM : CT l y (.code y bytes maxL ret) d' mc ms al Sp) (hz : zins ps (va_wsU own idx C.1 owner x y [.code y bytes maxL ret]) = true) (hc : zCl[ci]? = some C) (hyx : y = ⟨owner, x.name, x.desc⟩) (hy : owner ≠ "java/lang/invoke/MethodHandle" ∧ owner ≠ "java/lang/invoke/VarHandle" ∧ (parseMethodDescriptor x.desc).map (fun d => d.parameters.length) = some n) (hd : d' < d) (hm : maxL ≤ 20) : zCallable l own d (idx, 0, n + 1, some ci, mc, ms, al, Sp) := by
  intro Γ T B pc L S as S' w cu su QN _ hd2 hp hrc hcat hcu hsu hal hN hSp ad H locs ls hP hD hS hl ha
  obtain ⟨hlen, rfl⟩ := zpop_top hp
  obtain ⟨k, as', o, rfl, hw, rfl⟩ := zrcv_s hrc
  obtain ⟨e1, hx, hb, hml, hown, hE, hRf, hRl, hA, hrC, hrS, hTa, hTn, hex⟩ := id B
  subst e1
  have M := hM Γ.G Γ.cA ad w (.ref k :: as') H.size QN _ hSp
  exact zcall_fin B hP hD hS hl ha hal hN (vx_runU (As := as'.map (zcv ad)) (rest := S'.map (zcv ad)) (b := ad k) ⟨hx, hb, hml, hown, zts B⟩ M (va_cwU n (zts B) (zins_good hz) rfl rfl rfl hyx hy (zroom B hd hm)) ⟨zpre_blind, va_recv hE.2.2.2.2.2.2.2.1 hP hc (zcw_get hw), fun U hU hW => zpre_at (as := .ref k :: as') B hP hD hS ha hU hW⟩ rfl (by rw [List.length_map]; simpa using hlen) hl.1 zstk (zmon hcat) hd2 ⟨Nat.le_trans hcu hrC, Nat.le_trans hsu hrS⟩)
set_option maxHeartbeats 2000000 in
theorem zcSU {C : vw_C} (hM : CT l y (.code y bytes maxL ret) d' mc ms al Sp) (hz : zins ps (va_wsSU own idx y [.code y bytes maxL ret]) = true) (hc : zCl[ci]? = some C) (hy : y.name ≠ "<init>" ∧ (parseMethodDescriptor y.desc).map (fun d => d.parameters.length) = some n) (hd : d' < d) (hm : maxL ≤ 20) : zCallable l own d (idx, 2, n + 1, some ci, mc, ms, al, Sp) := by
  intro Γ T B pc L S as S' w cu su QN _ hd2 hp hrc hcat hcu hsu hal hN hSp ad H locs ls hP hD hS hl ha
  obtain ⟨hlen, rfl⟩ := zpop_top hp
  obtain ⟨k, as', o, rfl, hw, rfl⟩ := zrcv_s hrc
  obtain ⟨e1, hx, hb, hml, hown, hE, hRf, hRl, hA, hrC, hrS, hTa, hTn, hex⟩ := id B
  subst e1
  have M := hM Γ.G Γ.cA ad w (.ref k :: as') H.size QN _ hSp
  exact zcall_fin B hP hD hS hl ha hal hN (vx_runSU (As := as'.map (zcv ad)) (rest := S'.map (zcv ad)) (b := ad k) ((hE.2.2.2.2.2.2.2.1.1 _ C hc).2) ⟨hx, hb, hml, hown, zts B⟩ M (va_cwSU n (zts B) (zins_good hz) rfl rfl rfl hy (zroom B hd hm)) ⟨zpre_blind, va_recv hE.2.2.2.2.2.2.2.1 hP hc (zcw_get hw), fun U hU hW => zpre_at (as := .ref k :: as') B hP hD hS ha hU hW⟩ rfl (by rw [List.length_map]; simpa using hlen) hl.1 zstk (zmon hcat) hd2 ⟨Nat.le_trans hcu hrC, Nat.le_trans hsu hrS⟩)
/-- the constructor of java.lang.Object -/
theorem zcO (hz : zins ps [.methodLink own idx Lib.objectInit, .instanceMethod Lib.objectInit, .code Lib.objectInit ⟨#[0xb1]⟩ 1 none] = true) (hd : 0 < d) : zCallable l own d (idx, 2, 1, some ci, 0, 0, false, fun _ w Q _ => Q none w) := by
  intro Γ T B pc L S as S' w cu su QN _ hd2 hp hrc hcat hcu hsu hal hN hSp ad H locs ls hP hD hS hl ha
  obtain ⟨hlen, rfl⟩ := zpop_top hp
  obtain ⟨k, as', o, rfl, hw, rfl⟩ := zrcv_s hrc
  obtain ⟨e1, hx, hb, hml, hown, hE, hRf, hRl, hA, hrC, hrS, hTa, hTn, hex⟩ := id B
  have has : as' = [] := List.length_eq_zero_iff.mp (by simpa using hlen)
  subst has
  have hm9 : ∀ w ∈ [Cond.methodLink own idx Lib.objectInit, .instanceMethod Lib.objectInit, .code Lib.objectInit ⟨#[0xb1]⟩ 1 none], w.before Γ.args Γ.s = true := fun w hw => zts B w (zins_in hz w hw)
  have h9 := hN none w hSp ad H locs ls hP hD hS hl ha
  refine W.objInit hx hb hown (hm9 _ (by simp)) (hm9 _ (by simp)) (hm9 _ (by simp)) rfl (hl.1.trans hml.symm) (a := ad k) (rest := S'.map (zcv ad)) rfl hd2 (by omega) ?_ h9
  have h8 : 2 * (F0 Γ.m pc ls ([] : List Value)).monitorRoom + ((S'.map (zcv ad)).map fun v => v.category).sum ≤ 8 := zmon (st := []) hcat
  have h7 : (F0 Γ.m pc ls (List.map (zcv ad) ([Value.ref k].reverse ++ S'))).monitorRoom = (F0 Γ.m pc ls ([] : List Value)).monitorRoom := rfl
  rw [h7]
  omega
end ZK
