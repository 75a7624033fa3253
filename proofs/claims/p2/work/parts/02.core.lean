/-! A small machine of my own: values, a state of numbers, one step of one instruction by continuation; its runs without a clock. -/
abbrev c_V : Type := Int32 ⊕ Int64 ⊕ Nat
abbrev c_S : Type := (Nat → Nat → Int32) × (Nat → Nat → Int64)
abbrev c_L : Type := List (Nat × c_V)
abbrev c_R : Type := Option (c_S × Int32)
abbrev c_C : Type := Nat → List c_V → c_S → c_R
abbrev c_K : Type := Nat → c_L → List c_V → c_S → c_R
abbrev c_E : Type := Instr × Nat × c_V × Nat × Nat × Nat × List (Int32 × Nat)
abbrev c_D : Type := (Nat × List Nat) ⊕ (FieldType × Nat)
abbrev v_i (x : Int32) : c_V := .inl x
abbrev v_l (x : Int64) : c_V := .inr (.inl x)
abbrev v_r (k : Nat) : c_V := .inr (.inr k)
def c_lk {α : Type} : List (Nat × α) → Nat → Option α
  | [], _ => none
  | (j, v) :: t, i => match Nat.beq j i with
    | true => some v
    | false => c_lk t i
def c_cat : c_V → Nat
  | .inr (.inl _) => 2
  | .inr (.inr _) => 1
  | .inl _ => 1
def c_ins (i : Nat) (v : c_V) : c_L → c_L
  | [] => [(i, v)]
  | (j, w) :: t => match Nat.ble i j with
    | true => (i, v) :: (j, w) :: t
    | false => (j, w) :: c_ins i v t
def c_fil (p : Nat → c_V → Bool) : c_L → c_L
  | [] => []
  | (j, w) :: t => match p j w with
    | true => (j, w) :: c_fil p t
    | false => c_fil p t
def c_st1 (i : Nat) (v : c_V) (l : c_L) : c_L := c_ins i v (c_fil (fun j w => !(Nat.beq j i) && !(Nat.beq (j + 1) i && Nat.beq (c_cat w) 2)) l)
def c_st2 (i : Nat) (v : c_V) (l : c_L) : c_L := c_ins i v (c_fil (fun j w => !(Nat.beq j i) && (!(Nat.beq j (i + 1)) && !(Nat.beq (j + 1) i && Nat.beq (c_cat w) 2))) l)
def c_has : List Nat → Nat → Bool
  | [], _ => false
  | j :: t, i => match Nat.beq j i with
    | true => true
    | false => c_has t i
def c_nr (L : List (Nat × List Nat)) (pc : Nat) (lv : c_L) : c_L := match c_lk L pc with
  | some ks => c_fil (fun j _ => c_has ks j) lv
  | none => lv
def c_stop (L : List (Nat × List Nat)) (pc : Nat) : Bool := match c_lk L pc with
  | some _ => true
  | none => false
def c_inb (i : Int32) (n : Nat) : Bool := decide (¬ (i < 0 ∨ n ≤ i.toNatClampNeg))
def c_bz (x : Int32) : Bool := x == 0 || x == 1
def c_put (σ : c_S) (k j : Nat) (x : Int32) : c_S := (fun a => match Nat.beq a k with
  | true => upd (σ.1 k) j x
  | false => σ.1 a, σ.2)
def c_putL (σ : c_S) (k j : Nat) (x : Int64) : c_S := (σ.1, fun a => match Nat.beq a k with
  | true => vp_updL (σ.2 k) j x
  | false => σ.2 a)
def c_pop : Nat → List c_V → List c_V → Option (List c_V × List c_V)
  | 0, acc, st => some (acc, st)
  | n + 1, acc, x :: st => c_pop n (x :: acc) st
  | _ + 1, _, [] => none
def c_sum : List c_V → Nat
  | [] => 0
  | x :: r => c_cat x + c_sum r
def c_bd (o : c_R) (f : c_S → Int32 → c_R) : c_R := match o with
  | some (σ, x) => f σ x
  | none => none
def c_sw (x : Int32) (d : Nat) (f : Nat → c_R) : List (Int32 × Nat) → c_R
  | [] => f d
  | (k, t) :: r => if x = k then f t else c_sw x d f r
def c_nth {α : Type} : List α → Nat → Option α
  | [], _ => none
  | x :: _, 0 => some x
  | _ :: t, n + 1 => c_nth t n
def c_at (l : c_L) (i : Nat) (f : c_V → c_R) : c_R := match c_lk l i with
  | some v => f v
  | none => none
def c_isI (v : c_V) (f : Int32 → c_R) : c_R := match v with
  | .inl x => f x
  | .inr _ => none
def c_isL (v : c_V) (f : Int64 → c_R) : c_R := match v with
  | .inr (.inl x) => f x
  | .inr (.inr _) => none
  | .inl _ => none
def c_isR (v : c_V) (f : Nat → c_R) : c_R := match v with
  | .inr (.inr x) => f x
  | .inr (.inl _) => none
  | .inl _ => none
def c_p1 (st : List c_V) (f : c_V → List c_V → c_R) : c_R := match st with
  | x :: r => f x r
  | [] => none
def c_obj (CT : List c_D) (k u : Nat) (f : List Nat → c_R) : c_R := match c_nth CT k with
  | some (.inl (ci, sl)) => (match Nat.beq ci u with
    | true => f sl
    | false => none)
  | some (.inr _) => none
  | none => none
def c_arr (CT : List c_D) (k : Nat) (f : FieldType → Nat → c_R) : c_R := match c_nth CT k with
  | some (.inr (ty, n)) => f ty n
  | some (.inl _) => none
  | none => none
def c_rg (i : Int32) (n : Nat) (f : c_R) : c_R := if c_inb i n = true then f else none
def c_call (CT : List c_D) (vir : Bool) (C : c_C) (ax : c_V) (t u w : Nat) (st : List c_V) (σ : c_S) (f : List c_V → c_S → c_R) : c_R :=
  c_isR ax fun n => match c_pop n [] st with
    | none => none
    | some (as, r) => match Nat.ble (c_sum r) 8 with
      | false => none
      | true =>
        let go : c_R := (match u with
          | 0 => c_bd (C t as σ) fun σ' _ => f r σ'
          | _ + 1 => c_bd (C t as σ) fun σ' x => f (.inl x :: r) σ')
        match vir with
        | false => go
        | true => c_p1 as fun a _ => c_isR a fun k => c_obj CT k w fun _ => go
def c_s1 (CT : List c_D) (e : c_E) (rb : Nat) (C : c_C) (lv : c_L) (st : List c_V) (σ : c_S) (K : c_K) : c_R :=
  match e with
  | (ins, nx, ax, t, u, w, sw) =>
  match ins with
  | .aload_n i => c_at lv i.val fun v => c_isR v fun k => K nx lv (.inr (.inr k) :: st) σ
  | .aload i => c_at lv i fun v => c_isR v fun k => K nx lv (.inr (.inr k) :: st) σ
  | .iload_n i => c_at lv i.val fun v => c_isI v fun x => K nx lv (.inl x :: st) σ
  | .iload i => c_at lv i fun v => c_isI v fun x => K nx lv (.inl x :: st) σ
  | .lload_n i => c_at lv i.val fun v => c_isL v fun x => K nx lv (.inr (.inl x) :: st) σ
  | .lload i => c_at lv i fun v => c_isL v fun x => K nx lv (.inr (.inl x) :: st) σ
  | .istore_n i => c_p1 st fun v r => c_isI v fun x => K nx (c_st1 i.val (.inl x) lv) r σ
  | .istore i => c_p1 st fun v r => c_isI v fun x => K nx (c_st1 i (.inl x) lv) r σ
  | .lstore_n i => c_p1 st fun v r => c_isL v fun x => K nx (c_st2 i.val (.inr (.inl x)) lv) r σ
  | .lstore i => c_p1 st fun v r => c_isL v fun x => K nx (c_st2 i (.inr (.inl x)) lv) r σ
  | .iinc i _ => c_at lv i fun v => c_isI v fun x => c_isI ax fun y => K nx (c_st1 i (.inl (x + y)) lv) st σ
  | .iconst _ => c_isI ax fun x => K nx lv (.inl x :: st) σ
  | .bipush _ => c_isI ax fun x => K nx lv (.inl x :: st) σ
  | .sipush _ => c_isI ax fun x => K nx lv (.inl x :: st) σ
  | .ldc _ => c_isI ax fun x => K nx lv (.inl x :: st) σ
  | .lconst _ => c_isL ax fun x => K nx lv (.inr (.inl x) :: st) σ
  | .ldc2_w _ => c_isL ax fun x => K nx lv (.inr (.inl x) :: st) σ
  | .iadd => c_p1 st fun v r => c_isI v fun y => c_p1 r fun v r => c_isI v fun x => K nx lv (.inl (x + y) :: r) σ
  | .isub => c_p1 st fun v r => c_isI v fun y => c_p1 r fun v r => c_isI v fun x => K nx lv (.inl (x - y) :: r) σ
  | .imul => c_p1 st fun v r => c_isI v fun y => c_p1 r fun v r => c_isI v fun x => K nx lv (.inl (x * y) :: r) σ
  | .iand => c_p1 st fun v r => c_isI v fun y => c_p1 r fun v r => c_isI v fun x => K nx lv (.inl (x &&& y) :: r) σ
  | .idiv => c_p1 st fun v r => c_isI v fun y => c_p1 r fun v r => c_isI v fun x => if y = 0 then none else K nx lv (.inl (x / y) :: r) σ
  | .irem => c_p1 st fun v r => c_isI v fun y => c_p1 r fun v r => c_isI v fun x => if y = 0 then none else K nx lv (.inl (x - x / y * y) :: r) σ
  | .ineg => c_p1 st fun v r => c_isI v fun x => K nx lv (.inl (-x) :: r) σ
  | .ladd => c_p1 st fun v r => c_isL v fun y => c_p1 r fun v r => c_isL v fun x => K nx lv (.inr (.inl (x + y)) :: r) σ
  | .lmul => c_p1 st fun v r => c_isL v fun y => c_p1 r fun v r => c_isL v fun x => K nx lv (.inr (.inl (x * y)) :: r) σ
  | .land => c_p1 st fun v r => c_isL v fun y => c_p1 r fun v r => c_isL v fun x => K nx lv (.inr (.inl (x &&& y)) :: r) σ
  | .lor => c_p1 st fun v r => c_isL v fun y => c_p1 r fun v r => c_isL v fun x => K nx lv (.inr (.inl (x ||| y)) :: r) σ
  | .ldiv => c_p1 st fun v r => c_isL v fun y => c_p1 r fun v r => c_isL v fun x => if y = 0 then none else K nx lv (.inr (.inl (x / y)) :: r) σ
  | .lrem => c_p1 st fun v r => c_isL v fun y => c_p1 r fun v r => c_isL v fun x => if y = 0 then none else K nx lv (.inr (.inl (x - x / y * y)) :: r) σ
  | .lshl => c_p1 st fun v r => c_isI v fun y => c_p1 r fun v r => c_isL v fun x => K nx lv (.inr (.inl (x <<< (y.toInt64 &&& 63))) :: r) σ
  | .lshr => c_p1 st fun v r => c_isI v fun y => c_p1 r fun v r => c_isL v fun x => K nx lv (.inr (.inl (x >>> (y.toInt64 &&& 63))) :: r) σ
  | .lushr => c_p1 st fun v r => c_isI v fun y => c_p1 r fun v r => c_isL v fun x => K nx lv (.inr (.inl (x.toUInt64 >>> (y.toInt64.toUInt64 &&& Int64.toUInt64 63)).toInt64) :: r) σ
  | .lcmp => c_p1 st fun v r => c_isL v fun y => c_p1 r fun v r => c_isL v fun x => K nx lv (.inl (lg_cmp x y) :: r) σ
  | .i2l => c_p1 st fun v r => c_isI v fun x => K nx lv (.inr (.inl x.toInt64) :: r) σ
  | .l2i => c_p1 st fun v r => c_isL v fun x => K nx lv (.inl x.toInt32 :: r) σ
  | .i2c => c_p1 st fun v r => c_isI v fun x => K nx lv (.inl (x.toUInt32 % 65536).toInt32 :: r) σ
  | .dup => c_p1 st fun v r => (match v with
    | .inl x => K nx lv (.inl x :: .inl x :: r) σ
    | .inr (.inr x) => K nx lv (.inr (.inr x) :: .inr (.inr x) :: r) σ
    | .inr (.inl _) => none)
  | .pop => c_p1 st fun v r => c_isI v fun _ => K nx lv r σ
  | .goto _ => K t lv st σ
  | .if_icmp cd _ => c_p1 st fun v r => c_isI v fun y => c_p1 r fun v r => c_isI v fun x => (match cd with
    | .eq => if x = y then K t lv r σ else K nx lv r σ
    | .ne => if x = y then K nx lv r σ else K t lv r σ
    | .lt => if x < y then K t lv r σ else K nx lv r σ
    | .ge => if x < y then K nx lv r σ else K t lv r σ
    | .gt => if y < x then K t lv r σ else K nx lv r σ
    | .le => if y < x then K nx lv r σ else K t lv r σ)
  | .ifCond cd _ => c_p1 st fun v r => c_isI v fun x => (match cd with
    | .eq => if x = 0 then K t lv r σ else K nx lv r σ
    | .ne => if x = 0 then K nx lv r σ else K t lv r σ
    | .lt => if x < 0 then K t lv r σ else K nx lv r σ
    | .ge => if x < 0 then K nx lv r σ else K t lv r σ
    | .gt => if 0 < x then K t lv r σ else K nx lv r σ
    | .le => if 0 < x then K nx lv r σ else K t lv r σ)
  | .tableswitch _ _ _ _ => c_p1 st fun v r => c_isI v fun x => c_sw x t (fun p => K p lv r σ) sw
  | .lookupswitch _ _ => c_p1 st fun v r => c_isI v fun x => c_sw x t (fun p => K p lv r σ) sw
  | .getfield _ => c_p1 st fun v r => c_isR v fun k => c_obj CT k u fun sl => (match c_nth sl t with
    | some (n + 2) => K nx lv (.inr (.inr n) :: r) σ
    | some _ => K nx lv (.inl (σ.1 k t) :: r) σ
    | none => none)
  | .putfield _ => c_p1 st fun v r => c_isI v fun x => c_p1 r fun v r => c_isR v fun k => c_obj CT k u fun sl => (match c_nth sl t with
    | some 0 => K nx lv r (c_put σ k t x)
    | some 1 => if c_bz x = true then K nx lv r (c_put σ k t x) else none
    | some (_ + 2) => none
    | none => none)
  | .iaload => c_p1 st fun v r => c_isI v fun i => c_p1 r fun v r => c_isR v fun k => c_arr CT k fun ty n => (match ty with
    | .int => c_rg i n (K nx lv (.inl (σ.1 k i.toNatClampNeg) :: r) σ)
    | _ => none)
  | .caload => c_p1 st fun v r => c_isI v fun i => c_p1 r fun v r => c_isR v fun k => c_arr CT k fun ty n => (match ty with
    | .char => c_rg i n (K nx lv (.inl (σ.1 k i.toNatClampNeg) :: r) σ)
    | _ => none)
  | .baload => c_p1 st fun v r => c_isI v fun i => c_p1 r fun v r => c_isR v fun k => c_arr CT k fun ty n => (match ty with
    | .boolean => c_rg i n (K nx lv (.inl (σ.1 k i.toNatClampNeg) :: r) σ)
    | _ => none)
  | .laload => c_p1 st fun v r => c_isI v fun i => c_p1 r fun v r => c_isR v fun k => c_arr CT k fun ty n => (match ty with
    | .long => c_rg i n (K nx lv (.inr (.inl (σ.2 k i.toNatClampNeg)) :: r) σ)
    | _ => none)
  | .iastore => c_p1 st fun v r => c_isI v fun x => c_p1 r fun v r => c_isI v fun i => c_p1 r fun v r => c_isR v fun k => c_arr CT k fun ty n => (match ty with
    | .int => c_rg i n (K nx lv r (c_put σ k i.toNatClampNeg x))
    | _ => none)
  | .castore => c_p1 st fun v r => c_isI v fun x => c_p1 r fun v r => c_isI v fun i => c_p1 r fun v r => c_isR v fun k => c_arr CT k fun ty n => (match ty with
    | .char => c_rg i n (K nx lv r (c_put σ k i.toNatClampNeg (vp_nar .char x)))
    | _ => none)
  | .bastore => c_p1 st fun v r => c_isI v fun x => c_p1 r fun v r => c_isI v fun i => c_p1 r fun v r => c_isR v fun k => c_arr CT k fun ty n => (match ty with
    | .boolean => c_rg i n (K nx lv r (c_put σ k i.toNatClampNeg (vp_nar .boolean x)))
    | _ => none)
  | .lastore => c_p1 st fun v r => c_isL v fun x => c_p1 r fun v r => c_isI v fun i => c_p1 r fun v r => c_isR v fun k => c_arr CT k fun ty n => (match ty with
    | .long => c_rg i n (K nx lv r (c_putL σ k i.toNatClampNeg x))
    | _ => none)
  | .arraylength => c_p1 st fun v r => c_isR v fun k => c_arr CT k fun _ n => K nx lv (.inl (Int32.ofNat n) :: r) σ
  | .invokevirtual _ => c_call CT true C ax t u w st σ fun st' σ' => K nx lv st' σ'
  | .invokestatic _ => (match w with
    | 0 => c_call CT false C ax t u w st σ fun st' σ' => K nx lv st' σ'
    | _ + 1 => c_p1 st fun v r => c_isI v fun y => c_p1 r fun v r => c_isI v fun x => (match Nat.ble (c_sum r) 8 with
      | true => K nx lv (.inl (if y < x then y else x) :: r) σ
      | false => none))
  | .ireturn => c_p1 st fun v r => c_isI v fun x => (match r with
    | [] => (match rb with
      | 1 => some (σ, x)
      | 2 => if c_bz x = true then some (σ, x) else none
      | _ => none)
    | _ :: _ => none)
  | .return_ => (match st with
    | [] => (match rb with
      | 0 => some (σ, 0)
      | _ => none)
    | _ :: _ => none)
  | _ => none
/-- runs of at most n instructions -/
def c_go (CT : List c_D) (T : List (Nat × c_E)) (L : List (Nat × List Nat)) (rb : Nat) (C : c_C) : Nat → c_K
  | 0, _, _, _, _ => none
  | n + 1, pc, lv, st, σ => match c_lk T pc with
    | none => none
    | some e => c_s1 CT e rb C lv st σ (fun pc' lv' st' σ' => c_go CT T L rb C n pc' (c_nr L pc' lv') st' σ')
