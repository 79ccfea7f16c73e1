/-! A second machine, that the kernel runs fast: values are numbers, cells lie in binary tries, code is straight-line blocks of functions. -/
/-- an int, a reference, a long (numbers all), a symbol for an int, a symbol for a long, any other value -/
abbrev yV4 : Type := Nat ⊕ Value
abbrev yV3 : Type := Nat ⊕ yV4
abbrev yV2 : Type := Nat ⊕ yV3
abbrev yV1 : Type := Nat ⊕ yV2
abbrev yV : Type := Nat ⊕ yV1
abbrev y_i (n : Nat) : yV := .inl n
abbrev y_r (n : Nat) : yV := .inr (.inl n)
abbrev y_j (n : Nat) : yV := .inr (.inr (.inl n))
abbrev y_s (n : Nat) : yV := .inr (.inr (.inr (.inl n)))
abbrev y_t (n : Nat) : yV := .inr (.inr (.inr (.inr (.inl n))))
abbrev y_v (x : Value) : yV := .inr (.inr (.inr (.inr (.inr x))))
abbrev yT : Type := Lean.RArray yV
/-- a cell: its class or kind, its length, its slots -/
abbrev yCe : Type := Nat × Nat × yT
abbrev yH : Type := Lean.RArray yCe
abbrev yL : Type := List (Nat × yV)
abbrev yS : Type := List yV
/-- cells used, slots used, may make cells, how many cells -/
abbrev yM : Type := Nat × Nat × Bool × Nat
/-- on at a place; a return; a throw -/
abbrev yR2 : Type := (Option yV × yH × yM) ⊕ (Nat × yH × yM)
abbrev yR1 : Type := (Nat × yL × yS × yH × yM) ⊕ yR2
abbrev yR : Type := Option yR1
abbrev yK : Type := yL → yS → yH → yM → yR
/-- the script; what the operations on symbols give; what the comparisons of symbols say -/
abbrev yE : Type := yS × List (Nat × Nat × Nat × Nat) × List (Nat × Nat × Nat × Bool)
abbrev yCl : Type := Nat → yS → Bool → Nat → yH → (Option yV → Bool → Nat → yH → yR) → (Nat → Bool → Nat → yH → yR) → yR
abbrev yKK : Type := yE → yCl → yK
noncomputable section
def y_fz {α : Type} (n : Nat) (k : Nat → α) : α := @Nat.rec (fun _ => α) (k (nat_lit 0)) (fun m _ => k (Nat.succ m)) n
def y_if {α : Type} (b : Bool) (x y : α) : α := @Bool.rec (fun _ => α) y x b
def y_ev (i : Nat) : Bool := Nat.beq (Nat.mod i (nat_lit 2)) (nat_lit 0)
def y_hf (i : Nat) : Nat := Nat.div i (nat_lit 2)
def y_get {α : Type} (d : Nat) (b : α) : Lean.RArray α → Nat → α := @Nat.rec (fun _ => Lean.RArray α → Nat → α) (fun t _ => @Lean.RArray.rec α (fun _ => α) (fun x => x) (fun _ _ _ _ _ => b) t) (fun _ ih t i => @Lean.RArray.rec α (fun _ => α) (fun _ => b) (fun _ x y _ _ => @Bool.rec (fun _ => α) (ih y (y_hf i)) (ih x (y_hf i)) (y_ev i)) t) d
def y_set {α β : Type} (d : Nat) : Lean.RArray α → Nat → α → (Lean.RArray α → β) → β → β := @Nat.rec (fun _ => Lean.RArray α → Nat → α → (Lean.RArray α → β) → β → β) (fun _ _ v k _ => k (.leaf v)) (fun _ ih t i v k b => @Lean.RArray.rec α (fun _ => β) (fun _ => b) (fun p x y _ _ => @Bool.rec (fun _ => β) (ih y (y_hf i) v (fun y' => k (.branch p x y')) b) (ih x (y_hf i) v (fun x' => k (.branch p x' y)) b) (y_ev i)) t) d
def y_rep {α : Type} (d : Nat) (v : α) : Lean.RArray α := @Nat.rec (fun _ => Lean.RArray α) (.leaf v) (fun _ ih => .branch (nat_lit 0) ih ih) d
def y_lf (ls : yL) (j : Nat) : Option yV := @List.rec _ (fun _ => Option yV) none (fun q _ ih => @Prod.rec _ _ (fun _ => Option yV) (fun x v => @Bool.rec (fun _ => Option yV) ih (some v) (Nat.beq x j)) q) ls
/-- how deep the trie of l slots is -/
def y_dp (l : Nat) : Nat := y_if (Nat.ble l (nat_lit 16)) (nat_lit 4) (y_if (Nat.ble l (nat_lit 64)) (nat_lit 6) (y_if (Nat.ble l (nat_lit 256)) (nat_lit 8) (nat_lit 12)))
def y_hd : Nat := nat_lit 8
def y_z : yV := y_i (nat_lit 0)
def y_no : yCe := (nat_lit 999, nat_lit 0, .leaf y_z)
/-- by the kind of a value -/
def y_bd {α : Type} (v : yV) (fi fr fj fs ft : Nat → α) (fv : Value → α) : α := @Sum.rec _ _ (fun _ => α) fi (fun v => @Sum.rec _ _ (fun _ => α) fr (fun v => @Sum.rec _ _ (fun _ => α) fj (fun v => @Sum.rec _ _ (fun _ => α) fs (fun v => @Sum.rec _ _ (fun _ => α) ft fv v) v) v) v) v
def y_c1 (_ : Nat) : Nat := nat_lit 1
def y_c2 (_ : Nat) : Nat := nat_lit 2
def y_cat (v : yV) : Nat := y_bd v y_c1 y_c1 y_c2 y_c1 y_c2 (fun x => x.category)
def y_k1 (i : Nat) (q : Nat × yV) : Bool := @Prod.rec _ _ (fun _ => Bool) (fun x v => y_if (Nat.beq x i) false (y_if (Nat.beq (Nat.succ x) i) (y_if (Nat.beq (y_cat v) (nat_lit 2)) false true) true)) q
def y_k2 (i : Nat) (q : Nat × yV) : Bool := @Prod.rec _ _ (fun _ => Bool) (fun x v => y_if (Nat.beq x i) false (y_if (Nat.beq x (Nat.succ i)) false (y_if (Nat.beq (Nat.succ x) i) (y_if (Nat.beq (y_cat v) (nat_lit 2)) false true) true))) q
def y_lr {α : Type} (p : Nat × yV → Bool) (ls : yL) (k : yL → α) : α := @List.rec _ (fun _ => (yL → α) → α) (fun k => k []) (fun q _ ih k => @Bool.rec (fun _ => α) (ih k) (ih (fun r => k (q :: r))) (p q)) ls k
def y_not (b : Bool) : Bool := @Bool.rec (fun _ => Bool) true false b
def y_lt32 (m n : Nat) : Bool := Nat.blt (Nat.mod (Nat.add m (nat_lit 2147483648)) (nat_lit 4294967296)) (Nat.mod (Nat.add n (nat_lit 2147483648)) (nat_lit 4294967296))
def y_lt64 (m n : Nat) : Bool := Nat.blt (Nat.mod (Nat.add m (nat_lit 9223372036854775808)) (nat_lit 18446744073709551616)) (Nat.mod (Nat.add n (nat_lit 9223372036854775808)) (nat_lit 18446744073709551616))
def y_eq32 (m n : Nat) : Bool := Nat.beq (Nat.mod m (nat_lit 4294967296)) (Nat.mod n (nat_lit 4294967296))
/-- the o-th of some functions -/
def y_nth {α : Type} (d : α) (l : List α) : Nat → α := @List.rec _ (fun _ => Nat → α) (fun _ => d) (fun a _ ih n => @Nat.rec (fun _ => α) a (fun m _ => ih m) n) l
/-- numbers not below 0, the second not 0 -/
def y_nn (H : Nat) (k : Nat → Nat → Nat) (m n : Nat) : Option Nat := y_if (Nat.blt m H) (y_if (Nat.blt n H) (y_if (Nat.beq n (nat_lit 0)) none (some (k m n))) none) none
def y_ar : Nat → Nat → Nat → Option Nat := y_nth (fun _ _ => none) [fun m n => some (Nat.mod (Nat.add m n) (nat_lit 4294967296)), fun m n => y_if (Nat.ble n (nat_lit 4294967296)) (some (Nat.mod (Nat.add m (Nat.sub (nat_lit 4294967296) n)) (nat_lit 4294967296))) none, fun m n => some (Nat.mod (Nat.mul m n) (nat_lit 4294967296)), fun m n => some (Nat.land m n), fun m n => some (Nat.lor m n), y_nn (nat_lit 2147483648) Nat.div, y_nn (nat_lit 2147483648) Nat.mod, fun m n => y_if (Nat.blt n (nat_lit 32)) (some (Nat.mod (Nat.shiftLeft m n) (nat_lit 4294967296))) none, fun m n => y_if (Nat.blt m (nat_lit 4294967296)) (y_if (Nat.blt n (nat_lit 32)) (some (Nat.shiftRight m n)) none) none]
def y_la : Nat → Nat → Nat → Option Nat := y_nth (fun _ _ => none) [fun m n => some (Nat.mod (Nat.add m n) (nat_lit 18446744073709551616)), fun m n => y_if (Nat.ble n (nat_lit 18446744073709551616)) (some (Nat.mod (Nat.add m (Nat.sub (nat_lit 18446744073709551616) n)) (nat_lit 18446744073709551616))) none, fun m n => some (Nat.mod (Nat.mul m n) (nat_lit 18446744073709551616)), fun m n => some (Nat.lor m n), y_nn (nat_lit 9223372036854775808) Nat.div, y_nn (nat_lit 9223372036854775808) Nat.mod]
def y_cc : Nat → Nat → Nat → Bool := y_nth (fun _ _ => false) [y_eq32, fun m n => y_not (y_eq32 m n), y_lt32, fun m n => y_not (y_lt32 m n), fun m n => y_lt32 n m, fun m n => y_not (y_lt32 n m)]
/-- what a table says of an operation and two operands -/
def y_o3 {α : Type} (l : List (Nat × Nat × Nat × α)) (o a b : Nat) : Option α := @List.rec _ (fun _ => Option α) none (fun q _ ih => @Prod.rec _ _ (fun _ => Option α) (fun o' r => @Prod.rec _ _ (fun _ => Option α) (fun a' r => @Prod.rec _ _ (fun _ => Option α) (fun b' x => y_if (Nat.beq o o') (y_if (Nat.beq a a') (y_if (Nat.beq b b') (some x) ih) ih) ih) r) r) q) l
/-- the code of a number, of a symbol -/
def y_cn (n : Nat) : Nat := Nat.mul (nat_lit 2) n
def y_cs (n : Nat) : Nat := Nat.succ (Nat.mul (nat_lit 2) n)
def y_b (_ : Nat) : yR := none
def y_bv (_ : Value) : yR := none
def y_pop (st : yS) (k : yV → yS → yR) : yR := @List.rec _ (fun _ => yR) none (fun v r _ => k v r) st
def y_on {α : Type} (o : Option α) (k : α → yR) : yR := @Option.rec _ (fun _ => yR) none k o
def y_isI (v : yV) (k : Nat → yR) : yR := @Sum.rec _ _ (fun _ => yR) k (fun _ => none) v
def y_isR (v : yV) (k : Nat → yR) : yR := y_bd v y_b k y_b y_b y_b y_bv
def y_isJ (v : yV) (k : Nat → yR) : yR := y_bd v y_b y_b k y_b y_b y_bv
def y_ce (c : yCe) (k : Nat → Nat → yT → yR) : yR := @Prod.rec _ _ (fun _ => yR) (fun a r => @Prod.rec _ _ (fun _ => yR) (fun l t => k a l t) r) c
def y_m4 (m : yM) (k : Nat → Nat → Bool → Nat → yR) : yR := @Prod.rec _ _ (fun _ => yR) (fun cu r => @Prod.rec _ _ (fun _ => yR) (fun su r => @Prod.rec _ _ (fun _ => yR) (fun f cnt => k cu su f cnt) r) r) m
/-- the cell at q, if there is one -/
def y_at (h : yH) (m : yM) (q : Nat) (k : Nat → Nat → yT → yR) : yR := y_m4 m (fun _ _ _ cnt => y_if (Nat.blt q cnt) (y_if (Nat.ble cnt (nat_lit 256)) (y_ce (y_get y_hd y_no h q) k) none) none)
/-- a place within a cell -/
def y_ix (l j : Nat) (k : yR) : yR := y_if (Nat.blt j l) (y_if (Nat.ble l (nat_lit 4096)) k none) none
def y_go (t : Nat) (ls : yL) (st : yS) (h : yH) (m : yM) : yR := some (.inl (t, ls, st, h, m))
def yPush (v : yV) (n : yKK) (E : yE) (rec : yCl) (ls : yL) (st : yS) (h : yH) (m : yM) : yR := (n E rec) ls (v :: st) h m
def yLdi (j : Nat) (n : yKK) (E : yE) (rec : yCl) (ls : yL) (st : yS) (h : yH) (m : yM) : yR := y_on (y_lf ls j) (fun v => y_bd v (fun _ => (n E rec) ls (v :: st) h m) y_b y_b (fun _ => (n E rec) ls (v :: st) h m) y_b y_bv)
def yLdl (j : Nat) (n : yKK) (E : yE) (rec : yCl) (ls : yL) (st : yS) (h : yH) (m : yM) : yR := y_on (y_lf ls j) (fun v => y_bd v y_b y_b (fun _ => (n E rec) ls (v :: st) h m) y_b (fun _ => (n E rec) ls (v :: st) h m) y_bv)
def yLda (j : Nat) (n : yKK) (E : yE) (rec : yCl) (ls : yL) (st : yS) (h : yH) (m : yM) : yR := y_on (y_lf ls j) (fun v => y_bd v y_b (fun _ => (n E rec) ls (v :: st) h m) y_b y_b y_b (fun x => y_if (match x with | .retAddr _ => true | _ => false) ((n E rec) ls (v :: st) h m) none))
def ySti (j : Nat) (n : yKK) (E : yE) (rec : yCl) (ls : yL) (st : yS) (h : yH) (m : yM) : yR := y_pop st (fun v r => y_bd v (fun _ => y_lr (y_k1 j) ls (fun l => (n E rec) ((j, v) :: l) r h m)) y_b y_b (fun _ => y_lr (y_k1 j) ls (fun l => (n E rec) ((j, v) :: l) r h m)) y_b y_bv)
def ySta (j : Nat) (n : yKK) (E : yE) (rec : yCl) (ls : yL) (st : yS) (h : yH) (m : yM) : yR := y_pop st (fun v r => y_isR v (fun _ => y_lr (y_k1 j) ls (fun l => (n E rec) ((j, v) :: l) r h m)))
def yStl (j : Nat) (n : yKK) (E : yE) (rec : yCl) (ls : yL) (st : yS) (h : yH) (m : yM) : yR := y_pop st (fun v r => y_bd v y_b y_b (fun _ => y_lr (y_k2 j) ls (fun l => (n E rec) ((j, v) :: l) r h m)) y_b (fun _ => y_lr (y_k2 j) ls (fun l => (n E rec) ((j, v) :: l) r h m)) y_bv)
def yInc (j x : Nat) (n : yKK) (E : yE) (rec : yCl) (ls : yL) (st : yS) (h : yH) (m : yM) : yR := y_on (y_lf ls j) (fun v => y_isI v (fun a => y_fz (Nat.mod (Nat.add a x) (nat_lit 4294967296)) (fun a => y_lr (y_k1 j) ls (fun l => (n E rec) ((j, y_i a) :: l) st h m))))
def yAr (o : Nat) (n : yKK) (E : yE) (rec : yCl) (ls : yL) (st : yS) (h : yH) (m : yM) : yR := y_pop st (fun v r => y_pop r (fun u r => y_bd v (fun y => y_bd u (fun x => y_on (y_ar o x y) (fun q => y_fz q (fun q => (n E rec) ls (y_i q :: r) h m))) y_b y_b (fun x => y_on (y_o3 E.2.1 o (y_cs x) (y_cn y)) (fun q => (n E rec) ls (y_s q :: r) h m)) y_b y_bv) y_b y_b (fun y => y_bd u (fun x => y_on (y_o3 E.2.1 o (y_cn x) (y_cs y)) (fun q => (n E rec) ls (y_s q :: r) h m)) y_b y_b (fun x => y_on (y_o3 E.2.1 o (y_cs x) (y_cs y)) (fun q => (n E rec) ls (y_s q :: r) h m)) y_b y_bv) y_b y_bv))
def yLa (o : Nat) (n : yKK) (E : yE) (rec : yCl) (ls : yL) (st : yS) (h : yH) (m : yM) : yR := y_pop st (fun v r => y_pop r (fun u r => y_isJ v (fun y => y_isJ u (fun x => y_on (y_la o x y) (fun q => y_fz q (fun q => (n E rec) ls (y_j q :: r) h m))))))
def yLcmp (n : yKK) (E : yE) (rec : yCl) (ls : yL) (st : yS) (h : yH) (m : yM) : yR := y_pop st (fun v r => y_pop r (fun u r => y_bd v y_b y_b (fun y => y_isJ u (fun x => y_if (y_lt64 x y) ((n E rec) ls (y_i (nat_lit 4294967295) :: r) h m) (y_if (y_lt64 y x) ((n E rec) ls (y_i (nat_lit 1) :: r) h m) ((n E rec) ls (y_i (nat_lit 0) :: r) h m)))) y_b (fun k => y_bd u y_b y_b y_b y_b (fun q => y_if (Nat.beq k q) ((n E rec) ls (y_i (nat_lit 0) :: r) h m) none) y_bv) y_bv))
def yI2l (n : yKK) (E : yE) (rec : yCl) (ls : yL) (st : yS) (h : yH) (m : yM) : yR := y_pop st (fun v r => y_bd v (fun x => y_if (Nat.blt x (nat_lit 2147483648)) ((n E rec) ls (y_j x :: r) h m) (y_if (Nat.ble (nat_lit 2147483648) (Nat.mod x (nat_lit 4294967296))) (y_fz (Nat.add (Nat.mod x (nat_lit 4294967296)) (nat_lit 18446744069414584320)) (fun q => (n E rec) ls (y_j q :: r) h m)) none)) y_b y_b (fun k => (n E rec) ls (y_t k :: r) h m) y_b y_bv)
def yL2i (n : yKK) (E : yE) (rec : yCl) (ls : yL) (st : yS) (h : yH) (m : yM) : yR := y_pop st (fun v r => y_isJ v (fun x => y_fz (Nat.mod x (nat_lit 4294967296)) (fun q => (n E rec) ls (y_i q :: r) h m)))
def yI2c (n : yKK) (E : yE) (rec : yCl) (ls : yL) (st : yS) (h : yH) (m : yM) : yR := y_pop st (fun v r => y_bd v (fun x => y_fz (Nat.mod x (nat_lit 65536)) (fun q => (n E rec) ls (y_i q :: r) h m)) y_b y_b (fun k => y_on (y_o3 E.2.1 (nat_lit 21) (y_cs k) (nat_lit 0)) (fun q => (n E rec) ls (y_s q :: r) h m)) y_b y_bv)
def yDup (n : yKK) (E : yE) (rec : yCl) (ls : yL) (st : yS) (h : yH) (m : yM) : yR := y_pop st (fun v _ => y_bd v (fun _ => (n E rec) ls (v :: st) h m) (fun _ => (n E rec) ls (v :: st) h m) y_b (fun _ => (n E rec) ls (v :: st) h m) y_b y_bv)
def yDup2 (n : yKK) (E : yE) (rec : yCl) (ls : yL) (st : yS) (h : yH) (m : yM) : yR := y_pop st (fun v r => y_bd v (fun _ => y_pop r (fun u _ => y_isR u (fun _ => (n E rec) ls (v :: u :: st) h m))) y_b (fun _ => (n E rec) ls (v :: st) h m) y_b y_b y_bv)
def yPop2 (n : yKK) (E : yE) (rec : yCl) (ls : yL) (st : yS) (h : yH) (m : yM) : yR := y_pop st (fun v r => y_isJ v (fun _ => (n E rec) ls r h m))
def yGoto (t : Nat) (n : yKK) (E : yE) (rec : yCl) (ls : yL) (st : yS) (h : yH) (m : yM) : yR := y_go t ls st h m
def yIfc (c t : Nat) (n : yKK) (E : yE) (rec : yCl) (ls : yL) (st : yS) (h : yH) (m : yM) : yR := y_pop st (fun v r => y_bd v (fun x => y_if (y_cc c x (nat_lit 0)) (y_go t ls r h m) ((n E rec) ls r h m)) y_b y_b (fun x => y_on (y_o3 E.2.2 c (y_cs x) (nat_lit 0)) (fun b => y_if b (y_go t ls r h m) ((n E rec) ls r h m))) y_b y_bv)
def yIcmp (c t : Nat) (n : yKK) (E : yE) (rec : yCl) (ls : yL) (st : yS) (h : yH) (m : yM) : yR := y_pop st (fun v r => y_pop r (fun u r => y_bd v (fun y => y_bd u (fun x => y_if (y_cc c x y) (y_go t ls r h m) ((n E rec) ls r h m)) y_b y_b (fun x => y_on (y_o3 E.2.2 c (y_cs x) (y_cn y)) (fun b => y_if b (y_go t ls r h m) ((n E rec) ls r h m))) y_b y_bv) y_b y_b (fun y => y_bd u (fun x => y_on (y_o3 E.2.2 c (y_cn x) (y_cs y)) (fun b => y_if b (y_go t ls r h m) ((n E rec) ls r h m))) y_b y_b (fun x => y_on (y_o3 E.2.2 c (y_cs x) (y_cs y)) (fun b => y_if b (y_go t ls r h m) ((n E rec) ls r h m))) y_b y_bv) y_b y_bv))
def yIfnull (n : yKK) (E : yE) (rec : yCl) (ls : yL) (st : yS) (h : yH) (m : yM) : yR := y_pop st (fun v r => y_isR v (fun _ => (n E rec) ls r h m))
def yGetf (a b : Nat) (n : yKK) (E : yE) (rec : yCl) (ls : yL) (st : yS) (h : yH) (m : yM) : yR := y_pop st (fun v r => y_isR v (fun q => y_at h m q (fun t l s => y_if (Nat.beq t a) (y_ix l b ((n E rec) ls (y_get (y_dp l) y_z s b :: r) h m)) none)))
def yPutf (a b : Nat) (ok : yV → Bool) (n : yKK) (E : yE) (rec : yCl) (ls : yL) (st : yS) (h : yH) (m : yM) : yR := y_pop st (fun x r => y_pop r (fun v r => y_isR v (fun q => y_at h m q (fun t l s => y_if (Nat.beq t a) (y_ix l b (y_if (ok x) (y_set (y_dp l) s b x (fun s => y_set y_hd h q (t, l, s) (fun h => (n E rec) ls r h m) none) none) none)) none))))
def yAld (a : Nat) (ok : yV → Bool) (n : yKK) (E : yE) (rec : yCl) (ls : yL) (st : yS) (h : yH) (m : yM) : yR := y_pop st (fun v r => y_pop r (fun u r => y_isI v (fun j => y_isR u (fun q => y_at h m q (fun t l s => y_if (Nat.beq t a) (y_ix l j (y_if (ok (y_get (y_dp l) y_z s j)) ((n E rec) ls (y_get (y_dp l) y_z s j :: r) h m) none)) none)))))
def yAst (a : Nat) (ok : yV → Bool) (n : yKK) (E : yE) (rec : yCl) (ls : yL) (st : yS) (h : yH) (m : yM) : yR := y_pop st (fun x r => y_pop r (fun v r => y_pop r (fun u r => y_isI v (fun j => y_isR u (fun q => y_at h m q (fun t l s => y_if (Nat.beq t a) (y_ix l j (y_if (ok x) (y_set (y_dp l) s j x (fun s => y_set y_hd h q (t, l, s) (fun h => (n E rec) ls r h m) none) none) none)) none))))))
def yAlen (n : yKK) (E : yE) (rec : yCl) (ls : yL) (st : yS) (h : yH) (m : yM) : yR := y_pop st (fun v r => y_isR v (fun q => y_at h m q (fun t l _ => y_if (Nat.ble (nat_lit 100) t) ((n E rec) ls (y_i l :: r) h m) none)))
/-- the script's cell -/
def y_sc (v : yV) (k : yR) : yR := y_bd v y_b y_b y_b y_b y_b (fun x => y_if (match x with | .retAddr _ => true | _ => false) k none)
def y_lk (l : yS) (j : Nat) : Option yV := y_nth none (@List.rec yV (fun _ => List (Option yV)) [] (fun a _ ih => some a :: ih) l) j
def ySlen (n : yKK) (E : yE) (rec : yCl) (ls : yL) (st : yS) (h : yH) (m : yM) : yR := y_pop st (fun v r => y_sc v (y_on (y_lk E.1 (nat_lit 0)) (fun x => (n E rec) ls (x :: r) h m)))
def ySld (n : yKK) (E : yE) (rec : yCl) (ls : yL) (st : yS) (h : yH) (m : yM) : yR := y_pop st (fun v r => y_pop r (fun u r => y_isI v (fun j => y_sc u (y_on (y_lk E.1 (Nat.succ j)) (fun x => (n E rec) ls (x :: r) h m)))))
/-- may the callee's cells and slots be had -/
def y_rm (mc ms MC MS cu su : Nat) (k : yR) : yR := y_if (Nat.ble (Nat.add cu mc) MC) (y_if (Nat.ble (Nat.add su ms) MS) k none) none
def y_mk (MC MS t l : Nat) (s : yT) (h : yH) (m : yM) (k : Nat → yH → yM → yR) : yR := y_m4 m (fun cu su f cnt => y_if f (y_if (Nat.blt cnt (nat_lit 256)) (y_rm (nat_lit 1) l MC MS cu su (y_set y_hd h cnt (t, l, s) (fun h => y_fz (Nat.add cu (nat_lit 1)) (fun cu => y_fz (Nat.add su l) (fun su => y_fz (Nat.succ cnt) (fun c => k cnt h (cu, su, f, c))))) none)) none) none)
def yNew (MC MS a l : Nat) (s : yT) (n : yKK) (E : yE) (rec : yCl) (ls : yL) (st : yS) (h : yH) (m : yM) : yR := y_mk MC MS a l s h m (fun q h m => (n E rec) ls (y_r q :: st) h m)
def yNewa (MC MS t : Nat) (z : yV) (n : yKK) (E : yE) (rec : yCl) (ls : yL) (st : yS) (h : yH) (m : yM) : yR := y_pop st (fun v r => y_isI v (fun l => y_if (Nat.ble l (nat_lit 4096)) (y_mk MC MS t l (y_rep (y_dp l) z) h m (fun q h m => (n E rec) ls (y_r q :: r) h m)) none))
def y_lw (st : yS) : Bool := Nat.ble (List.length st) (nat_lit 4)
def yThr (MC MS e : Nat) (n : yKK) (E : yE) (rec : yCl) (ls : yL) (st : yS) (h : yH) (m : yM) : yR := y_if (y_lw st) (y_m4 m (fun cu su _ _ => y_rm (nat_lit 1) (nat_lit 6) MC MS cu su (some (.inr (.inr (e, h, m)))))) none
def y_spl (na : Nat) (st acc : yS) (k : yS → yS → yR) : yR := @Nat.rec (fun _ => yS → yS → yR) (fun st acc => k acc st) (fun _ ih st acc => @List.rec _ (fun _ => yR) none (fun v r _ => ih r (v :: acc)) st) na st acc
def y_bk (mc ms cu su : Nat) (n : yK) (ls : yL) (r : yS) (o : Option yV) (f : Bool) (cnt : Nat) (h : yH) : yR := y_fz (Nat.add cu mc) (fun cu => y_fz (Nat.add su ms) (fun su => @Option.rec _ (fun _ => yR) (n ls r h (cu, su, f, cnt)) (fun x => n ls (x :: r) h (cu, su, f, cnt)) o))
/-- a throw out of a call: to a handler (the place behind the store of it, the local), or further up -/
def y_hx (mc ms cu su : Nat) (hs : List (Nat × Nat × Nat)) (ls : yL) (e : Nat) (f : Bool) (cnt : Nat) (h : yH) : yR := y_fz (Nat.add cu mc) (fun cu => y_fz (Nat.add su ms) (fun su => @List.rec _ (fun _ => yR) (some (.inr (.inr (e, h, cu, su, f, cnt)))) (fun q _ ih => @Prod.rec _ _ (fun _ => yR) (fun e' r => @Prod.rec _ _ (fun _ => yR) (fun t j => y_if (Nat.beq e e') (y_lr (y_k1 j) ls (fun ls => y_go t ls [] h (cu, su, f, cnt))) ih) r) q) hs))
def yCalS (a na mc ms MC MS : Nat) (hs : List (Nat × Nat × Nat)) (n : yKK) (E : yE) (rec : yCl) (ls : yL) (st : yS) (h : yH) (m : yM) : yR := y_spl na st [] (fun as r => y_if (y_lw r) (y_m4 m (fun cu su f cnt => y_rm mc ms MC MS cu su (rec a as f cnt h (y_bk mc ms cu su (n E rec) ls r) (y_hx mc ms cu su hs ls)))) none)
def yCalV (a na cl mc ms MC MS : Nat) (hs : List (Nat × Nat × Nat)) (n : yKK) (E : yE) (rec : yCl) (ls : yL) (st : yS) (h : yH) (m : yM) : yR := y_spl na st [] (fun as r => y_pop r (fun v r => y_if (y_lw r) (y_isR v (fun q => y_at h m q (fun t _ _ => y_if (Nat.beq t cl) (y_m4 m (fun cu su f cnt => y_rm mc ms MC MS cu su (rec a (v :: as) f cnt h (y_bk mc ms cu su (n E rec) ls r) (y_hx mc ms cu su hs ls)))) none))) none))
def yCalI (a na mc ms MC MS : Nat) (hs : List (Nat × Nat × Nat)) (n : yKK) (E : yE) (rec : yCl) (ls : yL) (st : yS) (h : yH) (m : yM) : yR := y_spl na st [] (fun as r => y_pop r (fun v r => y_if (y_lw r) (y_isR v (fun _ => y_m4 m (fun cu su f cnt => y_rm mc ms MC MS cu su (rec a (v :: as) f cnt h (y_bk mc ms cu su (n E rec) ls r) (y_hx mc ms cu su hs ls))))) none))
def y_kI (v : yV) : Bool := y_bd v (fun _ => true) (fun _ => false) (fun _ => false) (fun _ => true) (fun _ => false) (fun _ => false)
def y_kZ (v : yV) : Bool := y_bd v (fun n => Nat.ble n (nat_lit 1)) (fun _ => false) (fun _ => false) (fun _ => false) (fun _ => false) (fun _ => false)
def y_kR (v : yV) : Bool := y_bd v (fun _ => false) (fun _ => true) (fun _ => false) (fun _ => false) (fun _ => false) (fun _ => false)
def y_kJ (v : yV) : Bool := y_bd v (fun _ => false) (fun _ => false) (fun _ => true) (fun _ => false) (fun _ => true) (fun _ => false)
def y_cp (d0 : Nat) (s0 : yT) (d1 : Nat) (n : Nat) : Nat → Nat → yT → (yT → yR) → yR := @Nat.rec (fun _ => Nat → Nat → yT → (yT → yR) → yR) (fun _ _ t k => k t) (fun _ ih i j t k => y_set d1 t j (y_get d0 y_z s0 i) (fun t => ih (Nat.succ i) (Nat.succ j) t k) none) n
def yCast (n : yKK) (E : yE) (rec : yCl) (ls : yL) (st : yS) (h : yH) (m : yM) : yR := y_pop st (fun x r => y_pop r (fun v r => y_pop r (fun u r => y_isI v (fun j => y_isR u (fun q => y_at h m q (fun t l s => y_if (Nat.beq t (nat_lit 102)) (y_ix l j (y_if (y_bd x (fun a => Nat.blt a (nat_lit 65536)) (fun _ => false) (fun _ => false) (fun k => @Option.rec _ (fun _ => Bool) false (fun b => b) (y_o3 E.2.2 (nat_lit 20) (y_cs k) (nat_lit 0))) (fun _ => false) (fun _ => false)) (y_set (y_dp l) s j x (fun s => y_set y_hd h q (t, l, s) (fun h => (n E rec) ls r h m) none) none) none)) none))))))
def yAast (n : yKK) (E : yE) (rec : yCl) (ls : yL) (st : yS) (h : yH) (m : yM) : yR := y_pop st (fun x r => y_pop r (fun v r => y_pop r (fun u r => y_isI v (fun j => y_isR u (fun q => y_isR x (fun p => y_at h m p (fun t6 _ _ => y_if (Nat.beq t6 (nat_lit 6)) (y_at h m q (fun t l s => y_if (Nat.beq t (nat_lit 103)) (y_ix l j (y_set (y_dp l) s j x (fun s => y_set y_hd h q (t, l, s) (fun h => (n E rec) ls r h m) none) none)) none)) none)))))))
def y_all (ok : yV → Bool) (d : Nat) : yT → Bool := @Nat.rec (fun _ => yT → Bool) (fun t => @Lean.RArray.rec yV (fun _ => Bool) (fun x => ok x) (fun _ _ _ _ _ => false) t) (fun _ ih t => @Lean.RArray.rec yV (fun _ => Bool) (fun _ => false) (fun _ x y _ _ => y_if (ih x) (ih y) false) t) d
def y_ck (t : Nat) (v : yV) : Bool := y_if (Nat.beq t (nat_lit 100)) (y_kI v) (y_if (Nat.beq t (nat_lit 101)) (y_kJ v) false)
def y_cq (c i j l0 l1 : Nat) : Bool := y_if (Nat.beq i (nat_lit 0)) (y_if (Nat.beq j (nat_lit 0)) (y_if (Nat.beq c l0) (Nat.beq c l1) false) false) false
def yAcpy (n : yKK) (E : yE) (rec : yCl) (ls : yL) (st : yS) (h : yH) (m : yM) : yR := y_pop st (fun v r => y_pop r (fun v1 r => y_pop r (fun u1 r => y_pop r (fun v0 r => y_pop r (fun u0 r => y_isI v (fun c => y_isI v1 (fun j => y_isR u1 (fun q1 => y_isI v0 (fun i => y_isR u0 (fun q0 => y_at h m q0 (fun t0 l0 s0 => y_at h m q1 (fun t1 l1 s1 => y_if (Nat.beq t0 t1) (y_if (Nat.ble l0 (nat_lit 4096)) (y_if (Nat.ble l1 (nat_lit 4096)) (y_if (Nat.blt (nat_lit 0) l0) (y_if (Nat.ble (Nat.add i c) l0) (y_if (Nat.ble (Nat.add j c) l1) (y_if (y_lw r) (y_if (y_all (y_ck t0) (y_dp l0) s0) (y_if (y_cq c i j l0 l1) (y_set y_hd h q1 (t1, l1, s0) (fun h => (n E rec) ls r h m) none) (y_cp (y_dp l0) s0 (y_dp l1) c i j s1 (fun s => y_set y_hd h q1 (t1, l1, s) (fun h => (n E rec) ls r h m) none))) none) none) none) none) none) none) none) none))))))))))))
/-- the number below n that a symbol is, by a table -/
def y_fs (l : List (Nat × Nat × Nat × Bool)) (a n : Nat) : Option Nat := @Nat.rec (fun _ => Option Nat) none (fun j ih => @Option.rec _ (fun _ => Option Nat) ih (fun b => y_if b (some j) ih) (y_o3 l (nat_lit 0) a (y_cn j))) n
/-- a symbol that is not from 0 to n - 1, by a table -/
def y_oor (l : List (Nat × Nat × Nat × Bool)) (k n : Nat) : Bool := @Option.rec _ (fun _ => Bool) false (fun b => y_if b true (@Option.rec _ (fun _ => Bool) false (fun b => b) (y_o3 l (nat_lit 3) (y_cs k) (y_cn n)))) (y_o3 l (nat_lit 2) (y_cs k) (nat_lit 0))
def yTsw (ts : List Nat) (d : Nat) (n : yKK) (E : yE) (rec : yCl) (ls : yL) (st : yS) (h : yH) (m : yM) : yR := y_pop st (fun v r => y_bd v (fun x => y_if (Nat.blt x (nat_lit 4294967296)) (y_go (y_nth d ts x) ls r h m) none) y_b y_b (fun k => y_if (y_oor E.2.2 k (List.length ts)) (y_go d ls r h m) (y_on (y_fs E.2.2 (y_cs k) (nat_lit 64)) (fun x => y_go (y_nth d ts x) ls r h m))) y_b y_bv)
/-! Values of other kinds. -/
def y_raw (v : yV) (k : Value → yR) : yR := y_bd v (fun n => k (.int (Int32.ofNat n))) y_b (fun n => k (.long (Int64.ofNat n))) y_b y_b k
def y_enc (w : Value) (k : yV → yR) : yR := match w with
  | .int x => y_fz x.toUInt32.toNat (fun q => k (y_i q))
  | .long x => y_fz x.toUInt64.toNat (fun q => k (y_j q))
  | .float x => y_fz x.toNat (fun q => k (y_v (.float (UInt32.ofNat q))))
  | .double x => y_fz x.toNat (fun q => k (y_v (.double (UInt64.ofNat q))))
  | _ => none
def y_F1 (i : Instr) (x : Value) : Option Value := match xop i 0 0 0 [] [x] with
  | some (_, _, [w]) => some w
  | _ => none
def y_F2 (i : Instr) (y x : Value) : Option Value := match xop i 0 0 0 [] [y, x] with
  | some (_, _, [w]) => some w
  | _ => none
def y_kD (v : yV) : Bool := y_bd v (fun _ => false) (fun _ => false) (fun _ => false) (fun _ => false) (fun _ => false) (fun x => match x with | .double _ => true | _ => false)
def y_kF (v : yV) : Bool := y_bd v (fun _ => false) (fun _ => false) (fun _ => false) (fun _ => false) (fun _ => false) (fun x => match x with | .float _ => true | _ => false)
def yF1 (i : Instr) (n : yKK) (E : yE) (rec : yCl) (ls : yL) (st : yS) (h : yH) (m : yM) : yR := y_pop st (fun v r => y_raw v (fun x => y_on (y_F1 i x) (fun w => y_enc w (fun w => (n E rec) ls (w :: r) h m))))
def yF2 (i : Instr) (n : yKK) (E : yE) (rec : yCl) (ls : yL) (st : yS) (h : yH) (m : yM) : yR := y_pop st (fun v r => y_pop r (fun u r => y_raw v (fun y => y_raw u (fun x => y_on (y_F2 i y x) (fun w => y_enc w (fun w => (n E rec) ls (w :: r) h m))))))
def yLdv (ok : yV → Bool) (j : Nat) (n : yKK) (E : yE) (rec : yCl) (ls : yL) (st : yS) (h : yH) (m : yM) : yR := y_on (y_lf ls j) (fun v => y_if (ok v) ((n E rec) ls (v :: st) h m) none)
def yStd (j : Nat) (n : yKK) (E : yE) (rec : yCl) (ls : yL) (st : yS) (h : yH) (m : yM) : yR := y_pop st (fun v r => y_if (y_kD v) (y_lr (y_k2 j) ls (fun l => (n E rec) ((j, v) :: l) r h m)) none)
def yStf (j : Nat) (n : yKK) (E : yE) (rec : yCl) (ls : yL) (st : yS) (h : yH) (m : yM) : yR := y_pop st (fun v r => y_if (y_kF v) (y_lr (y_k1 j) ls (fun l => (n E rec) ((j, v) :: l) r h m)) none)
def yBitD (n : yKK) (E : yE) (rec : yCl) (ls : yL) (st : yS) (h : yH) (m : yM) : yR := y_pop st (fun v r => y_if (y_lw r) (y_raw v (fun x => match x with | .double x => y_fz x.toNat (fun q => (n E rec) ls (y_j q :: r) h m) | _ => none)) none)
def yBitF (n : yKK) (E : yE) (rec : yCl) (ls : yL) (st : yS) (h : yH) (m : yM) : yR := y_pop st (fun v r => y_if (y_lw r) (y_raw v (fun x => match x with | .float x => y_fz x.toNat (fun q => (n E rec) ls (y_i q :: r) h m) | _ => none)) none)
def yObj (n : yKK) (E : yE) (rec : yCl) (ls : yL) (st : yS) (h : yH) (m : yM) : yR := y_pop st (fun v r => y_if (y_lw r) (y_isR v (fun _ => (n E rec) ls r h m)) none)
def y_nil (st : yS) (k : yR) : yR := @List.rec _ (fun _ => yR) k (fun _ _ _ => none) st
def yRet0 (MC MS : Nat) (n : yKK) (E : yE) (rec : yCl) (ls : yL) (st : yS) (h : yH) (m : yM) : yR := y_nil st (y_m4 m (fun cu su _ _ => y_rm (nat_lit 0) (nat_lit 0) MC MS cu su (some (.inr (.inl (none, h, m))))))
def yRet1 (MC MS : Nat) (ok : yV → Bool) (n : yKK) (E : yE) (rec : yCl) (ls : yL) (st : yS) (h : yH) (m : yM) : yR := y_pop st (fun v r => y_nil r (y_if (ok v) (y_m4 m (fun cu su _ _ => y_rm (nat_lit 0) (nat_lit 0) MC MS cu su (some (.inr (.inl (some v, h, m)))))) none))
def yBad (n : yKK) (E : yE) (rec : yCl) (ls : yL) (st : yS) (h : yH) (m : yM) : yR := none
def yLab (t : Nat) (_ : yE) (_ : yCl) : yK := y_go t
def y_blk (B : Nat → yKK) (E : yE) (rec : yCl) (_ : Nat) (ih : Nat → yK) (t : Nat) (ls : yL) (st : yS) (h : yH) (m : yM) : yR := @Option.rec _ (fun _ => yR) none (fun r => @Sum.rec _ _ (fun _ => yR) (fun q => @Prod.rec _ _ (fun _ => yR) (fun t q => @Prod.rec _ _ (fun _ => yR) (fun ls q => @Prod.rec _ _ (fun _ => yR) (fun st q => @Prod.rec _ _ (fun _ => yR) (fun h m => ih t ls st h m) q) q) q) q) (fun x => some (.inr x)) r) (B t E rec ls st h m)
def y_it (B : Nat → yKK) (E : yE) (rec : yCl) (n : Nat) : Nat → yK := @Nat.rec (fun _ => Nat → yK) y_go (y_blk B E rec) n
def y_args (av : yS) (k : Nat → yL → yR) : yR := @List.rec _ (fun _ => Nat → (Nat → yL → yR) → yR) (fun n k => k n []) (fun v _ ih n k => y_fz (Nat.add n (y_cat v)) (fun m => ih m (fun t r => k t ((n, v) :: r)))) av (nat_lit 0) k
def y_end (k : Option yV → Bool → Nat → yH → yR) (kx : Nat → Bool → Nat → yH → yR) (r : yR) : yR := @Option.rec _ (fun _ => yR) none (fun r => @Sum.rec _ _ (fun _ => yR) (fun _ => none) (fun r => @Sum.rec _ _ (fun _ => yR) (fun q => @Prod.rec _ _ (fun _ => yR) (fun v q => @Prod.rec _ _ (fun _ => yR) (fun h m => y_m4 m (fun _ _ f cnt => k v f cnt h)) q) q) (fun q => @Prod.rec _ _ (fun _ => yR) (fun e q => @Prod.rec _ _ (fun _ => yR) (fun h m => y_m4 m (fun _ _ _ cnt => kx e false cnt h)) q) q) r) r) r
/-- a method's run, of the depth d; P: the blocks of the methods -/
def y_run (P : Nat → Nat × (Nat → yKK)) (E : yE) (d : Nat) : yCl := @Nat.rec (fun _ => yCl) (fun _ _ _ _ _ _ _ => none) (fun _ ih a av f cnt h k kx => y_if (Nat.blt a (nat_lit 257)) (@Prod.rec _ _ (fun _ => yR) (fun nl B => y_args av (fun t ls => y_if (Nat.ble t nl) (y_end k kx (y_it B E ih (nat_lit 16384) (nat_lit 0) ls [] h (nat_lit 0, nat_lit 0, f, cnt))) none)) (P a)) none) d
end
