/-! ===== paths: what a run over some unknown ints must come to, by reckoning ===== -/
/-- what is known of an unknown int: between these two; and, if so said, not 0 -/
abbrev rg_I : Type := Int × Int × Bool
/-- a comparison with a number that is decided by what is known -/
def rg_lt (r : rg_I) (y : Int) : Option Bool := bif decide (r.2.1 < y) then some true else bif decide (y ≤ r.1) then some false else none
def rg_gt (r : rg_I) (y : Int) : Option Bool := bif decide (y < r.1) then some true else bif decide (r.2.1 ≤ y) then some false else none
def rg_eq (r : rg_I) (y : Int) : Option Bool := bif decide (r.2.1 < y) || decide (y < r.1) then some false else bif decide (r.1 = y) && decide (r.2.1 = y) then some true else bif r.2.2 && decide (y = 0) then some false else none
def rg_dec (c : Jvm.ClassFile.Cond) (r : rg_I) (y : Int) : Option Bool := match c with
  | .eq => rg_eq r y
  | .ne => (rg_eq r y).map not
  | .lt => rg_lt r y
  | .ge => (rg_lt r y).map not
  | .gt => rg_gt r y
  | .le => (rg_gt r y).map not
def rg_is (o : Option Bool) (b : Bool) : Bool := match o with
  | some x => x == b
  | none => false
/-- an unknown's number, if it is below fr -/
def rg_u (v : Value) (fr : Nat) : Bool := match v with
  | .int _ => true
  | .float k => Nat.blt k.toNat fr
  | _ => false
section RGD
variable (R : Nat → rg_I)
/-- a branch's condition is decided by what is known of the first seven unknown -/
def rg_br (c : Jvm.ClassFile.Cond) (x : Value) (y : Int) (b : Bool) : Bool := match x with
  | .float k => Nat.blt k.toNat 7 && rg_is (rg_dec c (R k.toNat) y) b
  | _ => false
def rg_c1 (fr : Nat) (q : ri_Cd) : Bool := match q.1 with
  | .if_icmp c _ => (match q.2.2.1 with
    | .int y => rg_br R c q.2.1 y.toInt q.2.2.2.2
    | _ => false)
  | .ifCond c _ => rg_br R c q.2.1 0 q.2.2.2.2
  | .lcmp => (match q.2.2.1 with
    | .long y => rg_br R .lt q.2.1 y.toInt q.2.2.2.2
    | _ => false)
  | i => Nat.beq q.2.2.2.1 fr && (rg_u q.2.1 fr && (match ri_ar i with
    | 2 => rg_u q.2.2.1 fr
    | 1 => true
    | _ => false))
def rg_cs : List ri_Cd → Nat → Bool
  | [], _ => true
  | q :: cs, fr => rg_c1 R fr q && rg_cs cs (fr + 1)
end RGD
/-- the end of a run of the law: it answers 1, its room, its conditions -/
def rg_end (R : Nat → rg_I) (o : Option rf_Out) : Bool := match o with
  | some (.inl (some (.int x)), _, nc, ns, cs, _) => decide (x = 1) && (Nat.ble nc 600002 && (Nat.ble ns 7302232 && (match cs with
    | (.iand, .float k, .int y, n, _) :: cs => Nat.beq k.toNat 0 && (decide (y = 63) && (Nat.beq n 6 && rg_cs R cs 7))
    | [] => true
    | _ => false)))
  | _ => false
/-- cells are made by the constructors alone -/
def rg_al (n : Nat) : Bool := Nat.blt n 266
noncomputable def rg_w0 : rf_W := (0, rf_tr (.inr (0, [])) 10, 0, .inr (0, []))
