/-! ===== THE STEP OF THE ABSTRACT MACHINE, as a condition on what comes behind it ===== -/
abbrev zX : Type := Program × Launch × Env × Room × State × MethodId × Array Value × List Frame × Method × Code × ByteArray × Nat × va_G × (Nat → ClassId) × (Nat → Prop) × (Nat → Nat) × (Bool × Nat) × (State → Prop)
abbrev zX.p (Γ : zX) : Program := Γ.1
abbrev zX.l (Γ : zX) : Launch := Γ.2.1
abbrev zX.e (Γ : zX) : Env := Γ.2.2.1
abbrev zX.R (Γ : zX) : Room := Γ.2.2.2.1
abbrev zX.s (Γ : zX) : State := Γ.2.2.2.2.1
abbrev zX.m (Γ : zX) : MethodId := Γ.2.2.2.2.2.1
abbrev zX.args (Γ : zX) : Array Value := Γ.2.2.2.2.2.2.1
abbrev zX.below (Γ : zX) : List Frame := Γ.2.2.2.2.2.2.2.1
abbrev zX.meth (Γ : zX) : Method := Γ.2.2.2.2.2.2.2.2.1
abbrev zX.c (Γ : zX) : Code := Γ.2.2.2.2.2.2.2.2.2.1
abbrev zX.cc (Γ : zX) : ByteArray := Γ.2.2.2.2.2.2.2.2.2.2.1
abbrev zX.nL (Γ : zX) : Nat := Γ.2.2.2.2.2.2.2.2.2.2.2.1
abbrev zX.G (Γ : zX) : va_G := Γ.2.2.2.2.2.2.2.2.2.2.2.2.1
abbrev zX.cA (Γ : zX) : Nat → ClassId := Γ.2.2.2.2.2.2.2.2.2.2.2.2.2.1
abbrev zX.A (Γ : zX) : Nat → Prop := Γ.2.2.2.2.2.2.2.2.2.2.2.2.2.2.1
abbrev zX.ad (Γ : zX) : Nat → Nat := Γ.2.2.2.2.2.2.2.2.2.2.2.2.2.2.2.1
abbrev zX.al (Γ : zX) : Bool := Γ.2.2.2.2.2.2.2.2.2.2.2.2.2.2.2.2.1.1
abbrev zX.n0 (Γ : zX) : Nat := Γ.2.2.2.2.2.2.2.2.2.2.2.2.2.2.2.2.1.2
abbrev zX.Q (Γ : zX) : State → Prop := Γ.2.2.2.2.2.2.2.2.2.2.2.2.2.2.2.2.2
/-- the addresses stay as they were: all, or those of the first n places and of the places from 1000 on -/
def zag (al : Bool) (n : Nat) (ad0 ad : Nat → Nat) : Prop := ∀ k : Nat, (al = false ∨ k < n ∨ 1000 ≤ k) → ad k = ad0 k
/-- the frame at pc, with these locals, this stack, this world: the method comes to its end -/
def zSm (Γ : zX) (pc : Nat) (L : zL) (S : zS) (w : zW) (cu su : Nat) : Prop :=
  ∀ (ad : Nat → Nat) (H : Heap) (locs : List Loc) (ls : Array Slot), va_P Γ.G zCl (zcw Γ.cA ad w) H → va_D Γ.A (zcw Γ.cA ad w) → va_S Γ.A Γ.s.heap H locs → lv_has ls Γ.nL (zcl ad L) → zag Γ.al Γ.n0 Γ.ad ad →
    W Γ.p Γ.l Γ.e Γ.R Γ.s Γ.m Γ.args Γ.below Γ.meth Γ.c H locs cu su Γ.Q (F0 Γ.m pc ls (S.map (zcv ad)))
/-- a method's tables: fields (place in the pool, class, field), calls, objects made, exceptions thrown (by their pc), static fields, numbers out of the pool, arrays that nobody writes, is it a constructor, the room, what a return owes, what a throw owes -/
abbrev zT : Type := List (Nat × Nat × Nat) × List (Nat × zCall) × List (Nat × Nat × Nat × List Value) × List (Nat × String) × List (Nat × Value) × List (Nat × Int32) × List (Nat × Nat × Nat × (Nat → Int32)) × Bool × (Nat × Nat) × (Option Value → zW → Nat → Nat → Prop) × (Nat → String → zL → zW → Nat → Nat → Prop) × (Bool × Nat)
abbrev zT.fl (T : zT) : List (Nat × Nat × Nat) := T.1
abbrev zT.cs (T : zT) : List (Nat × zCall) := T.2.1
abbrev zT.nw (T : zT) : List (Nat × Nat × Nat × List Value) := T.2.2.1
abbrev zT.th (T : zT) : List (Nat × String) := T.2.2.2.1
abbrev zT.st (T : zT) : List (Nat × Value) := T.2.2.2.2.1
abbrev zT.kc (T : zT) : List (Nat × Int32) := T.2.2.2.2.2.1
abbrev zT.sc (T : zT) : List (Nat × Nat × Nat × (Nat → Int32)) := T.2.2.2.2.2.2.1
abbrev zT.ini (T : zT) : Bool := T.2.2.2.2.2.2.2.1
abbrev zT.rc (T : zT) : Nat := T.2.2.2.2.2.2.2.2.1.1
abbrev zT.rs (T : zT) : Nat := T.2.2.2.2.2.2.2.2.1.2
abbrev zT.ret (T : zT) : Option Value → zW → Nat → Nat → Prop := T.2.2.2.2.2.2.2.2.2.1
abbrev zT.exc (T : zT) : Nat → String → zL → zW → Nat → Nat → Prop := T.2.2.2.2.2.2.2.2.2.2.1
abbrev zT.al (T : zT) : Bool := T.2.2.2.2.2.2.2.2.2.2.2.1
abbrev zT.n0 (T : zT) : Nat := T.2.2.2.2.2.2.2.2.2.2.2.2
/-- a number that an instruction pushes: n, or -1 -/
def zkon (tg : List Nat) : Int32 := match tg with
  | [k] => nI k
  | [_, k] => -nI k
  | _ => -1
def zsw (x : Int32) (K : Nat → Prop) (D : Prop) : Nat → List Nat → Prop
  | _, [] => D
  | k, t :: ts => (x = nI k → K t) ∧ (¬ x = nI k → zsw x K D (k + 1) ts)
def zlsw (x : Int32) (K : Nat → Prop) (D : Prop) : List Nat → List Nat → Prop
  | [], _ => D
  | _ :: _, [] => False
  | k :: ks, t :: ts => (x = nI k → K t) ∧ (¬ x = nI k → zlsw x K D ks ts)
def zrcv (rc : Option Nat) (as : zS) (w : zW) : Bool := match rc with
  | none => true
  | some ci => match as with
    | .ref k :: _ => match w[k]? with
      | some (.inr o) => Nat.beq o.1 ci
      | _ => false
    | _ => false
def zinv (ik : Nat) (T : zT) (k pc : Nat) (L : zL) (S : zS) (w : zW) (cu su : Nat) (N : zK) : Prop := match zlk k T.cs with
  | some (kd, n, rc, mc, ms, al, Sp) => match zpop n S [] with
    | some (as, S') => match Nat.beq kd ik && zrcv rc as w && Nat.ble (zcat S') 8 && Nat.ble (cu + mc) T.rc && Nat.ble (su + ms) T.rs && (!al || (T.al && Nat.ble T.n0 w.length && zbL w.length L && zbS w.length S')) with
      | true => Sp as w (fun r w' => N L (zpush r S') w' (cu + mc) (su + ms)) (fun E w' => T.exc pc E L w' (cu + mc) (su + ms))
      | false => False
    | none => False
  | none => False
def znewa (T : zT) (t : Nat) (z : Nat → vp_A) (L : zL) (S : zS) (w : zW) (cu su : Nat) (N : zK) : Prop := match S with
  | .int n :: S' => match T.al && Nat.blt w.length 1000 && Nat.ble T.n0 w.length && zbL w.length L && zbS w.length S' && zbW w.length w && Nat.ble (cu + 1) T.rc with
    | true => ∃ n0 : Nat, n = nI n0 ∧ n0 ≤ 65536 ∧ su + n0 ≤ T.rs ∧ N L (.ref w.length :: S') (w ++ [.inl (t, z n0)]) (cu + 1) (su + n0)
    | false => False
  | _ => False
def zgetf (T : zT) (k : Nat) (L : zL) (S : zS) (w : zW) (cu su : Nat) (N : zK) : Prop := match zlk k T.fl with
  | some (ci, i) => match S with
    | .ref a :: S' => match w[a]? with
      | some (.inr o) => match Nat.beq o.1 ci with
        | true => match o.2[i]? with
          | some v => N L (v :: S') w cu su
          | none => False
        | false => False
      | _ => False
    | _ => False
  | none => False
/-- what a field's type asks of the value that is put -/
def zfit (ty : FieldType) (v : Value) (K : Prop) : Prop := match ty, v with
  | .int, .int _ => K
  | .object _, .ref _ => K
  | .object _, .null => K
  | .array _, .ref _ => K
  | .array _, .null => K
  | ty, v => narrow ty v = v ∧ fits ty v = true ∧ K
def zputf (T : zT) (k : Nat) (L : zL) (S : zS) (w : zW) (cu su : Nat) (N : zK) : Prop := match zlk k T.fl with
  | some (ci, i) => match S with
    | v :: .ref a :: S' => match w[a]? with
      | some (.inr o) => match Nat.beq o.1 ci && Nat.blt i o.2.length with
        | true => match zCl[ci]? with
          | some q => match !(q.2.1 i).2.2.2 || T.ini with
            | true => zfit (zTy ci i) v (N L S' (w.set a (.inr (ci, o.2.set i v))) cu su)
            | false => False
          | none => False
        | false => False
      | _ => False
    | _ => False
  | none => False
def zald (t : Nat) (T : zT) (L : zL) (S : zS) (w : zW) (cu su : Nat) (N : zK) : Prop := match S with
  | .int i :: .ref a :: S' => match Nat.ble 1000 a with
    | true => match zlk a T.sc with
      | some (t', n, f) => match Nat.beq t' t with
        | true => vp_in i n ∧ N L (.int (f i.toNatClampNeg) :: S') w cu su
        | false => False
      | none => False
    | false => match w[a]? with
      | some (.inl (t', n, .inl f)) => match Nat.beq t' t with
        | true => vp_in i n ∧ N L (.int (f i.toNatClampNeg) :: S') w cu su
        | false => False
      | _ => False
  | _ => False
def zast (t : Nat) (nr : Int32 → Int32) (L : zL) (S : zS) (w : zW) (cu su : Nat) (N : zK) : Prop := match S with
  | .int x :: .int i :: .ref a :: S' => match w[a]? with
    | some (.inl (t', n, .inl f)) => match Nat.beq t' t with
      | true => vp_in i n ∧ N L S' (w.set a (.inl (t, n, .inl (upd f i.toNatClampNeg (nr x))))) cu su
      | false => False
    | _ => False
  | _ => False
def zlald (L : zL) (S : zS) (w : zW) (cu su : Nat) (N : zK) : Prop := match S with
  | .int i :: .ref a :: S' => match w[a]? with
    | some (.inl (t', n, .inr (.inl f))) => match Nat.beq t' 1 with
      | true => vp_in i n ∧ N L (.long (f i.toNatClampNeg) :: S') w cu su
      | false => False
    | _ => False
  | _ => False
def zlast (L : zL) (S : zS) (w : zW) (cu su : Nat) (N : zK) : Prop := match S with
  | .long x :: .int i :: .ref a :: S' => match w[a]? with
    | some (.inl (t', n, .inr (.inl f))) => match Nat.beq t' 1 with
      | true => vp_in i n ∧ N L S' (w.set a (.inl (1, n, .inr (.inl (vp_updL f i.toNatClampNeg x))))) cu su
      | false => False
    | _ => False
  | _ => False
def zalen (T : zT) (L : zL) (S : zS) (w : zW) (cu su : Nat) (N : zK) : Prop := match S with
  | .ref a :: S' => match Nat.ble 1000 a with
    | true => match zlk a T.sc with
      | some (_, n, _) => N L (.int (nI n) :: S') w cu su
      | none => False
    | false => match w[a]? with
      | some (.inl (t', n, _)) => match Nat.blt t' 3 with
        | true => N L (.int (nI n) :: S') w cu su
        | false => False
      | _ => False
  | _ => False
def znew (T : zT) (k pc : Nat) (L : zL) (S : zS) (w : zW) (cu su : Nat) (N : zK) : Prop := match zlk pc T.th with
  | some E => match Nat.ble (zcat S) 8 with
    | true => T.exc pc E L w (cu + 1) (su + 6)
    | false => False
  | none => match zlk k T.nw with
    | some (ci, n, fs) => match T.al && Nat.blt w.length 1000 && Nat.ble T.n0 w.length && zbL w.length L && zbS w.length S && zbW w.length w && Nat.ble (cu + 1) T.rc && Nat.ble (su + n) T.rs with
      | true => N L (.ref w.length :: S) (w ++ [.inr (ci, fs)]) (cu + 1) (su + n)
      | false => False
    | none => False
def zload (i : Nat) (L : zL) (S : zS) (w : zW) (cu su : Nat) (N : zK) : Prop := match zlk i L with
  | some (.int x) => N L (.int x :: S) w cu su
  | _ => False
def zaload (i : Nat) (L : zL) (S : zS) (w : zW) (cu su : Nat) (N : zK) : Prop := match zlk i L with
  | some (.ref x) => N L (.ref x :: S) w cu su
  | some .null => N L (.null :: S) w cu su
  | _ => False
def zstore (nL i : Nat) (L : zL) (S : zS) (w : zW) (cu su : Nat) (N : zK) : Prop := match Nat.blt i nL with
  | true => match S with
    | .int x :: S' => N (zset i (.int x) L) S' w cu su
    | _ => False
  | false => False
def zastore (nL i : Nat) (L : zL) (S : zS) (w : zW) (cu su : Nat) (N : zK) : Prop := match Nat.blt i nL with
  | true => match S with
    | .ref x :: S' => N (zset i (.ref x) L) S' w cu su
    | .null :: S' => N (zset i .null L) S' w cu su
    | _ => False
  | false => False
def zbin (f : Int32 → Int32 → Int32) (L : zL) (S : zS) (w : zW) (cu su : Nat) (N : zK) : Prop := match S with
  | .int y :: .int x :: S' => N L (.int (f x y) :: S') w cu su
  | _ => False
def zdiv (f : Int32 → Int32 → Int32) (L : zL) (S : zS) (w : zW) (cu su : Nat) (N : zK) : Prop := match S with
  | .int y :: .int x :: S' => ¬ y = 0 ∧ N L (.int (f x y) :: S') w cu su
  | _ => False
def zun (f : Int32 → Int32) (L : zL) (S : zS) (w : zW) (cu su : Nat) (N : zK) : Prop := match S with
  | .int x :: S' => N L (.int (f x) :: S') w cu su
  | _ => False
def zbr (f : Int32 → Prop) (b : Bool) (S : zS) (J N : zS → Prop) : Prop := match S with
  | .int x :: S' => match b with
    | true => (f x → J S') ∧ (¬ f x → N S')
    | false => (f x → N S') ∧ (¬ f x → J S')
  | _ => False
def zbr2 (f : Int32 → Int32 → Prop) (b : Bool) (S : zS) (J N : zS → Prop) : Prop := match S with
  | .int y :: .int x :: S' => match b with
    | true => (f x y → J S') ∧ (¬ f x y → N S')
    | false => (f x y → N S') ∧ (¬ f x y → J S')
  | _ => False
def zinc (nL i : Nat) (d : Int32) (L : zL) (S : zS) (w : zW) (cu su : Nat) (N : zK) : Prop := match Nat.blt i nL with
  | true => match zlk i L with
    | some (.int x) => N (zset i (.int (x + d)) L) S w cu su
    | _ => False
  | false => False
def zi (T : zT) (nL : Nat) (i : Instr) (pc : Nat) (tg : List Nat) (L : zL) (S : zS) (w : zW) (cu su : Nat) (N : zK) (J : Nat → zK) : Prop := match i with
  | .iconst _ => N L (.int (zkon tg) :: S) w cu su
  | .bipush _ => N L (.int (zkon tg) :: S) w cu su
  | .sipush _ => N L (.int (zkon tg) :: S) w cu su
  | .lconst k => N L (.long (Int64.ofNat k.val) :: S) w cu su
  | .ldc k => match zlk k T.kc with
    | some v => N L (.int v :: S) w cu su
    | none => False
  | .aconst_null => N L (.null :: S) w cu su
  | .iload_n k => zload k.val L S w cu su N
  | .iload k => zload k L S w cu su N
  | .aload_n k => zaload k.val L S w cu su N
  | .aload k => zaload k L S w cu su N
  | .istore_n k => zstore nL k.val L S w cu su N
  | .istore k => zstore nL k L S w cu su N
  | .astore_n k => zastore nL k.val L S w cu su N
  | .astore k => zastore nL k L S w cu su N
  | .iinc k _ => zinc nL k (zkon tg) L S w cu su N
  | .iadd => zbin (fun x y => x + y) L S w cu su N
  | .isub => zbin (fun x y => x - y) L S w cu su N
  | .imul => zbin (fun x y => x * y) L S w cu su N
  | .iand => zbin (fun x y => x &&& y) L S w cu su N
  | .ior => zbin (fun x y => x ||| y) L S w cu su N
  | .ishl => zbin (fun x y => x <<< (y &&& 31)) L S w cu su N
  | .ishr => zbin (fun x y => x >>> (y &&& 31)) L S w cu su N
  | .iushr => zbin (fun x y => (x.toUInt32 >>> (y.toUInt32 &&& Int32.toUInt32 31)).toInt32) L S w cu su N
  | .idiv => zdiv (fun x y => x / y) L S w cu su N
  | .irem => zdiv (fun x y => x - x / y * y) L S w cu su N
  | .ineg => zun (fun x => -x) L S w cu su N
  | .i2b => zun (fun x => x.toInt8.toInt32) L S w cu su N
  | .i2c => zun (fun x => (x.toUInt32 % 65536).toInt32) L S w cu su N
  | .i2l => match S with
    | .int x :: S' => N L (.long x.toInt64 :: S') w cu su
    | _ => False
  | .dup => match S with
    | v :: S' => match Nat.beq v.category 1 with
      | true => N L (v :: v :: S') w cu su
      | false => False
    | _ => False
  | .dup_x1 => match S with
    | a :: b :: S' => match Nat.beq a.category 1 && Nat.beq b.category 1 with
      | true => N L (a :: b :: a :: S') w cu su
      | false => False
    | _ => False
  | .dup2 => match S with
    | a :: b :: S' => match Nat.beq a.category 1 && Nat.beq b.category 1 with
      | true => N L (a :: b :: a :: b :: S') w cu su
      | false => False
    | _ => False
  | .pop => match S with
    | v :: S' => match Nat.beq v.category 1 with
      | true => N L S' w cu su
      | false => False
    | _ => False
  | .ifCond .eq _ => match tg with
    | [t] => zbr (fun x => x = 0) true S (fun S' => J t L S' w cu su) (fun S' => N L S' w cu su)
    | _ => False
  | .ifCond .ne _ => match tg with
    | [t] => zbr (fun x => x = 0) false S (fun S' => J t L S' w cu su) (fun S' => N L S' w cu su)
    | _ => False
  | .ifCond .lt _ => match tg with
    | [t] => zbr (fun x => x < 0) true S (fun S' => J t L S' w cu su) (fun S' => N L S' w cu su)
    | _ => False
  | .ifCond .ge _ => match tg with
    | [t] => zbr (fun x => x < 0) false S (fun S' => J t L S' w cu su) (fun S' => N L S' w cu su)
    | _ => False
  | .ifCond .le _ => match tg with
    | [t] => zbr (fun x => 0 < x) false S (fun S' => J t L S' w cu su) (fun S' => N L S' w cu su)
    | _ => False
  | .ifCond .gt _ => match tg with
    | [t] => zbr (fun x => 0 < x) true S (fun S' => J t L S' w cu su) (fun S' => N L S' w cu su)
    | _ => False
  | .if_icmp .eq _ => match tg with
    | [t] => zbr2 (fun x y => x = y) true S (fun S' => J t L S' w cu su) (fun S' => N L S' w cu su)
    | _ => False
  | .if_icmp .ne _ => match tg with
    | [t] => zbr2 (fun x y => x = y) false S (fun S' => J t L S' w cu su) (fun S' => N L S' w cu su)
    | _ => False
  | .if_icmp .lt _ => match tg with
    | [t] => zbr2 (fun x y => x < y) true S (fun S' => J t L S' w cu su) (fun S' => N L S' w cu su)
    | _ => False
  | .if_icmp .ge _ => match tg with
    | [t] => zbr2 (fun x y => x < y) false S (fun S' => J t L S' w cu su) (fun S' => N L S' w cu su)
    | _ => False
  | .if_icmp .gt _ => match tg with
    | [t] => zbr2 (fun x y => y < x) true S (fun S' => J t L S' w cu su) (fun S' => N L S' w cu su)
    | _ => False
  | .if_icmp .le _ => match tg with
    | [t] => zbr2 (fun x y => y < x) false S (fun S' => J t L S' w cu su) (fun S' => N L S' w cu su)
    | _ => False
  | .goto _ => match tg with
    | [t] => J t L S w cu su
    | _ => False
  | .tableswitch _ lo _ _ => match tg with
    | d :: ts => match S with
      | .int x :: S' => zsw x (fun t => J t L S' w cu su) (J d L S' w cu su) lo.toNat ts
      | _ => False
    | _ => False
  | .lookupswitch _ ps => match tg with
    | d :: ts => match S with
      | .int x :: S' => zlsw x (fun t => J t L S' w cu su) (J d L S' w cu su) (ps.toList.map (fun q => q.1.toNat)) ts
      | _ => False
    | _ => False
  | .lcmp => match S with
    | .long y :: .long x :: S' => ((x = y → N L (.int 0 :: S') w cu su) ∧ (¬ x = y → ∀ z : Int32, ¬ z = 0 → N L (.int z :: S') w cu su))
    | _ => False
  | .getfield k => zgetf T k L S w cu su N
  | .putfield k => zputf T k L S w cu su N
  | .getstatic k => match zlk k T.st with
    | some v => N L (v :: S) w cu su
    | none => False
  | .iaload => zald 0 T L S w cu su N
  | .baload => zald 2 T L S w cu su N
  | .iastore => zast 0 (fun x => x) L S w cu su N
  | .bastore => zast 2 (vp_nar .byte) L S w cu su N
  | .arraylength => zalen T L S w cu su N
  | .newarray .int => znewa T 0 (fun n => (n, .inl (fun _ => 0))) L S w cu su N
  | .newarray .byte => znewa T 2 (fun n => (n, .inl (fun _ => 0))) L S w cu su N
  | .new k => znew T k pc L S w cu su N
  | .invokevirtual k => zinv 0 T k pc L S w cu su N
  | .invokestatic k => zinv 1 T k pc L S w cu su N
  | .invokespecial k => zinv 2 T k pc L S w cu su N
  | .ireturn => match S with
    | [.int x] => T.ret (some (.int x)) w cu su
    | _ => False
  | .areturn => match S with
    | [.ref x] => T.ret (some (.ref x)) w cu su
    | _ => False
  | .return_ => match S with
    | [] => T.ret none w cu su
    | _ => False
  | _ => False
abbrev zE : Type := Nat × Instr × Nat × List Nat
def zfind (t : Nat) : List zE → List zE
  | [] => []
  | q :: r => match Nat.beq q.1 t with
    | true => q :: r
    | false => zfind t r
/-- the run of a program from the rows r on, up to a place of cut, a return, a throw -/
def zwp (T : zT) (nL : Nat) (P : List zE) (cut : List (Nat × zK)) : Nat → List zE → zK
  | 0, _, _, _, _, _, _ => False
  | _ + 1, [], _, _, _, _, _ => False
  | n + 1, q :: r, L, S, w, cu, su => zi T nL q.2.1 q.1 q.2.2.2 L S w cu su
      (fun L' S' w' cu' su' => match r with
        | [] => False
        | q' :: _ => match Nat.beq q'.1 (q.1 + q.2.2.1) with
          | true => match zlk q'.1 cut with
            | some I => I L' S' w' cu' su'
            | none => zwp T nL P cut n r L' S' w' cu' su'
          | false => False)
      (fun t L' S' w' cu' su' => match zlk t cut with
        | some I => I L' S' w' cu' su'
        | none => zwp T nL P cut n (zfind t P) L' S' w' cu' su')
