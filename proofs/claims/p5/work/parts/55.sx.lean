/-! ===== the surveyor, part 14: the survey of a method ===== -/
/-- a frame that waits: d, bud, method, place of what comes next, what comes next, pc of the call, locals, stack, cells, slots, handlers -/
abbrev sy_Fr : Type := Nat × Nat × ri_M × Nat × List ri_Op × Nat × sy_L × List sy_V × Nat × Nat × Option (List Nat)
/-- an end of a method: a value (or none) or an exception; cells and slots made; what is known then, of the world, which rules don't hold -/
abbrev sy_Oc : Type := (Option sy_V ⊕ Nat) × Nat × Nat × sy_K × sy_H × List Nat
/-- a contract: method, frames and places that it needs, what it is called with, what is known, of the world, which rules needn't hold, what it may change, its ends -/
abbrev sy_Ct : Type := Nat × Nat × Nat × List sy_V × sy_K × sy_H × List Nat × List (Nat × Nat × Nat) × List sy_Oc
/-- a cut: the place in the method, locals, what is known, of the world, which rules needn't hold, what falls -/
abbrev sy_Cut : Type := Nat × sy_L × sy_K × sy_H × List Nat × sy_P
/-- a hint: what is to be done, numbers, reasons .. -/
abbrev sy_Cm : Type := Nat × Nat × Nat × Int × Int × List sy_Ce × sy_P × List Nat
abbrev sy_Hn : Type := Nat × sy_Cm
abbrev sy_Go : Type := List sy_Fr → Nat → Nat → ri_M → Nat → List ri_Op → Nat → sy_L → List sy_V → sy_H → List Nat → sy_K → Nat → Nat → List sy_Hn → Option (List sy_Hn)
noncomputable def sy_each {α : Type} (f : α → List sy_Hn → Option (List sy_Hn)) (L : List α) : List sy_Hn → Option (List sy_Hn) := List.rec (fun hs => some hs) (fun o _ ih hs => match f o hs with
  | some h1 => ih h1
  | none => none) L
noncomputable def sy_dsub (D D2 : List Nat) : Bool := List.rec true (fun i _ ih => !(sy_nin i D2) && ih) D
noncomputable def sy_mcov (x : Nat × Nat × Nat) (MM : List (Nat × Nat × Nat)) : Bool := List.rec false (fun y _ ih => (Nat.beq y.1 x.1 && (Nat.ble y.2.1 x.2.1 && Nat.ble x.2.2 y.2.2)) || ih) MM
noncomputable def sy_mall (m MM : List (Nat × Nat × Nat)) : Bool := List.rec true (fun x _ ih => sy_mcov x MM && ih) m
noncomputable def sy_hmods (m : List (Nat × Nat × Nat)) (H : sy_H) : sy_H := List.rec H (fun x _ ih => sy_hdrop x.1 x.2.1 x.2.2 ih) m
noncomputable def sy_args : Nat → List sy_V → sy_L
  | _, [] => []
  | i, a :: as => (i, a) :: sy_args (i + sy_cat a) as
noncomputable def sy_split (n : Nat) : List sy_V → List sy_V → Option (List sy_V × List sy_V) := Nat.rec (fun acc st => some (acc, st)) (fun _ ih acc st => match st with
  | v :: r => ih (v :: acc) r
  | [] => none) n
/-- doubles, all of them -/
noncomputable def sy_dbs (l : List sy_V) : Bool := List.rec true (fun a _ ih => Nat.beq a.1 2 && ih) l
/-- the place of what comes next -/
noncomputable def sy_nx (M : ri_M) (ix : Nat) (ts : List Nat) (j : Nat) : Nat := Nat.rec (ix + 1) (fun k _ => match ri_nth ts k with
  | some t => t
  | none => M.2.2.2.2.2.length) j
/-- what a return hands back -/
noncomputable def sy_ret (M : ri_M) (i : Instr) (st : List sy_V) (K : sy_K) : Option (Option sy_V) := match i with
  | .return_ => (match st, M.2.2.2.1 with
    | [], none => some none
    | _, _ => none)
  | .ireturn => (match st with
    | [a] => bif Nat.beq a.1 0 then (match M.2.2.2.1 with
      | some .int => some (some a)
      | some .boolean => (match sy_iv K a.2.1 with
        | some r => bif sy_le 0 r.1 && sy_le r.2 1 then some (some a) else none
        | none => none)
      | some .char => (match sy_iv K a.2.1 with
        | some r => bif sy_le 0 r.1 && sy_le r.2 65535 then some (some a) else none
        | none => none)
      | some .byte => (match sy_iv K a.2.1 with
        | some r => bif sy_le (-128) r.1 && sy_le r.2 127 then some (some a) else none
        | none => none)
      | _ => none) else none
    | _ => none)
  | .lreturn => (match st, M.2.2.2.1 with
    | [a], some .long => bif Nat.beq a.1 1 then some (some a) else none
    | _, _ => none)
  | .dreturn => (match st, M.2.2.2.1 with
    | [a], some .double => bif Nat.beq a.1 2 then some (some a) else none
    | _, _ => none)
  | .areturn => (match st, M.2.2.2.1 with
    | [a], some (.object _) => bif Nat.beq a.1 3 || Nat.beq a.1 4 then some (some a) else none
    | [a], some (.array _) => bif Nat.beq a.1 3 || Nat.beq a.1 4 then some (some a) else none
    | _, _ => none)
  | _ => none
/-- the reasons of a hint, the first, the second -/
def sy_c0 (l : List sy_Ce) : sy_Ce := match l with
  | c :: _ => c
  | [] => ([], [])
def sy_c2 (l : List sy_Ce) : List sy_Ce := match l with
  | _ :: _ :: t => t
  | _ => []
def sy_c11 (l : List sy_Ce) : sy_Ce := match l with
  | _ :: c :: _ => c
  | _ => ([], [])
/-- a number taken off the count to the next hint -/
noncomputable def sy_tick (hs : List sy_Hn) : List sy_Hn := match hs with
  | h :: t => (h.1 - 1, h.2) :: t
  | [] => []
/-- the ints that an instruction takes -/
noncomputable def sy_i05 (a : sy_V) : Bool := Nat.beq a.1 0 || Nat.beq a.1 5
noncomputable def sy_conc (n : Nat) (st : List sy_V) : Bool := match n with
  | 1 => (match st with | a :: _ => sy_i05 a | _ => false)
  | _ => (match st with | a :: b :: _ => sy_i05 a && sy_i05 b | _ => false)
/-- what falls has fallen -/
noncomputable def sy_dec (μ0 : Option sy_P) (K : sy_K) (m : sy_P) (c : sy_Ce) : Bool := match μ0 with
  | some m0 => sy_prv K (m0 ++ ((-1, []) :: sy_sc (-1) m)) c
  | none => true
/-- what a survey takes of a program: methods, types of fields, types of arrays, how deep exceptions are -/
abbrev sy_en : Type := List ri_M × (Nat → Nat → FieldType) × List FieldType × (Nat → Nat)
abbrev sy_e4 (E : sy_env) : sy_en := (E.1, E.2.1, E.2.2.2.1, E.2.2.2.2.1)
section SYX
variable (E : sy_en) (T : Nat → Option sy_C) (RU : sy_RT) (CT : List sy_Ct) (C : sy_Ct) (CU : List sy_Cut) (μ0 : Option sy_P) (cb : Nat × Nat)
/-- the numbers that the method was called with -/
noncomputable def sy_s0 : List sy_E := sy_ids 0 C.2.2.2.2.1.1.length
/-- an end of the method -/
noncomputable def sy_post (res : Option sy_V ⊕ Nat) (nc ns : Nat) (H : sy_H) (D : List Nat) (K : sy_K) (hs : List sy_Hn) : Option (List sy_Hn) := match hs with
  | h :: t => (match ri_nth C.2.2.2.2.2.2.2.2 h.2.2.1 with
    | some o => (match (match o.1, res with
        | .inl none, .inl none => some (sy_s0 C)
        | .inl (some p), .inl (some a) => sy_mv K p a (sy_s0 C)
        | .inr x, .inr y => bif Nat.beq x y then some (sy_s0 C) else none
        | _, _ => none) with
      | some σ => (match sy_mh K H o.2.2.2.2.1 σ with
        | some σ1 => bif (Nat.beq h.2.1 31 && (Nat.beq nc o.2.1 && Nat.beq ns o.2.2.1)) && (sy_ent K σ1 o.2.2.2.1 h.2.2.2.2.2.2.1 && sy_dsub D o.2.2.2.2.2) then some t else none
        | none => none)
      | none => none)
    | none => none)
  | [] => none
/-- a cut is reached -/
noncomputable def sy_cut (cu : sy_Cut) (lv : sy_L) (st : List sy_V) (nc ns : Nat) (H : sy_H) (D : List Nat) (K : sy_K) (hs : List sy_Hn) : Option (List sy_Hn) := match hs, st with
  | h :: t, [] => (match sy_ml K lv cu.2.1 (sy_s0 C) with
    | some σ => (match sy_mh K H cu.2.2.2.1 σ with
      | some σ1 => (match sy_sp (sy_at σ1) cu.2.2.2.2.2 with
        | some m => bif (Nat.beq h.2.1 30 && (Nat.ble nc cb.1 && Nat.ble ns cb.2)) && ((sy_ent K σ1 cu.2.2.1 (sy_c2 h.2.2.2.2.2.2.1) && sy_dsub D cu.2.2.2.2.1) && (sy_prv K m (sy_c0 h.2.2.2.2.2.2.1) && sy_dec μ0 K m (sy_c11 h.2.2.2.2.2.2.1))) then some t else none
        | none => none)
      | none => none)
    | none => none)
  | _, _ => none
noncomputable def sy_isc (ix : Nat) (CU : List sy_Cut) : Option sy_Cut := List.rec none (fun c _ ih => @Bool.rec (fun _ => Option sy_Cut) ih (some c) (Nat.beq c.1 ix)) CU
/-- an exception in a frame with handlers -/
noncomputable def sy_hand (ih : sy_Go) (fs : List sy_Fr) (d bud : Nat) (M : ri_M) (lv : sy_L) (nc ns : Nat) (hl : List Nat) (x : Nat) (H : sy_H) (D : List Nat) (K : sy_K) (hs : List sy_Hn) : Option (List sy_Hn) := match ri_nth hl x with
  | some t => (match ri_drop M.2.2.2.2.2 t with
    | oh :: nx => (match oh.2.2.1 with
      | .astore_n k => bif Nat.blt k.val M.2.2.1 then ih fs d bud M (t + 1) nx (oh.1 + 1) (sy_fil (sy_f1 k.val) lv) [] H D K nc ns hs else none
      | .astore k => bif Nat.blt k M.2.2.1 then ih fs d bud M (t + 1) nx (oh.1 + 2) (sy_fil (sy_f1 k) lv) [] H D K nc ns hs else none
      | _ => none)
    | [] => none)
  | none => none
/-- an exception on its way out -/
noncomputable def sy_unw (ih : sy_Go) (x : Nat) (H : sy_H) (D : List Nat) (K : sy_K) (hs : List sy_Hn) (fs : List sy_Fr) : Nat → Nat → Option (List sy_Hn) := List.rec (fun nc ns => sy_post C (.inr x) nc ns H D K hs) (fun F fs ihl nc ns => match F.2.2.2.2.2.2.2.2.2.2 with
  | none => ihl (F.2.2.2.2.2.2.2.2.1 + nc) (F.2.2.2.2.2.2.2.2.2.1 + ns)
  | some hl => sy_hand ih fs F.1 F.2.1 F.2.2.1 F.2.2.2.2.2.2.1 (F.2.2.2.2.2.2.2.2.1 + nc) (F.2.2.2.2.2.2.2.2.2.1 + ns) hl x H D K hs) fs
/-- what a callee's end leaves: in frame (d, bud, M ..) -/
noncomputable def sy_oc (ih : sy_Go) (fs : List sy_Fr) (d bud : Nat) (M : ri_M) (ix : Nat) (nxt : List ri_Op) (pc : Nat) (lv : sy_L) (rest : List sy_V) (hl : Option (List Nat)) (nc ns : Nat) (H : sy_H) (K : sy_K) (σ : List sy_E) (o : sy_Oc) (hs : List sy_Hn) : Option (List sy_Hn) := match sy_inst K σ o.2.2.2.1 with
  | none => some hs
  | some K1 => (match sy_sH (sy_is1 K σ o.2.2.2.1) o.2.2.2.2.1 H with
    | some H1 => (match o.1 with
      | .inl none => ih fs d bud M (ix + 1) nxt (pc + 3) lv rest H1 o.2.2.2.2.2 K1 (nc + o.2.1) (ns + o.2.2.1) hs
      | .inl (some a) => (match sy_sV (sy_is1 K σ o.2.2.2.1) a with
        | some b => ih fs d bud M (ix + 1) nxt (pc + 3) lv (b :: rest) H1 o.2.2.2.2.2 K1 (nc + o.2.1) (ns + o.2.2.1) hs
        | none => none)
      | .inr x => (match hl with
        | none => sy_unw C ih x H1 o.2.2.2.2.2 K1 hs fs (nc + o.2.1) (ns + o.2.2.1)
        | some l => sy_hand ih fs d bud M lv (nc + o.2.1) (ns + o.2.2.1) l x H1 o.2.2.2.2.2 K1 hs))
    | none => none)
/-- a call: by a contract, or into the callee -/
noncomputable def sy_enter (ih : sy_Go) (fs : List sy_Fr) (d bud : Nat) (M : ri_M) (ix : Nat) (nxt : List ri_Op) (pc : Nat) (lv : sy_L) (M2 : ri_M) (a : Nat) (vals rest : List sy_V) (hl : Option (List Nat)) (nc ns : Nat) (H : sy_H) (D : List Nat) (K : sy_K) (hs : List sy_Hn) : Option (List sy_Hn) :=
  bif Nat.ble 1 d && (Nat.ble (19 + M2.2.2.1) bud && (Nat.ble (sy_csum rest) 8 && Nat.ble (sy_csum vals) M2.2.2.1)) then (match hs with
    | (0, 20, j, _, _, _, cs, _, _) :: hs2 => (match ri_nth CT j with
      | some c => (match sy_ms K c.2.2.2.1 vals [] with
        | some σ => (match sy_mh K H c.2.2.2.2.2.1 σ with
          | some σ1 => bif (Nat.beq c.1 a && (Nat.ble c.2.1 (d - 1) && Nat.ble c.2.2.1 (bud - (19 + M2.2.2.1)))) && ((sy_ent K σ1 c.2.2.2.2.1 cs && sy_dsub D c.2.2.2.2.2.2.1) && sy_mall c.2.2.2.2.2.2.2.1 C.2.2.2.2.2.2.2.1) then
              sy_each (fun o h => sy_oc C ih fs d bud M ix nxt pc lv rest hl nc ns (sy_hmods c.2.2.2.2.2.2.2.1 H) K σ1 o h) c.2.2.2.2.2.2.2.2 hs2
            else none
          | none => none)
        | none => none)
      | none => none)
    | _ => ih ((d, bud, M, ix + 1, nxt, pc, lv, rest, nc, ns, hl) :: fs) (d - 1) (bud - (19 + M2.2.2.1)) M2 0 M2.2.2.2.2.2 0 (sy_args 0 vals) [] H D K 0 0 hs) else none
noncomputable def sy_call (ih : sy_Go) (fs : List sy_Fr) (d bud : Nat) (M : ri_M) (ix : Nat) (nxt : List ri_Op) (pc : Nat) (lv : sy_L) (st : List sy_V) (a b : Nat) (ts : List Nat) (nc ns : Nat) (H : sy_H) (D : List Nat) (K : sy_K) (hs : List sy_Hn) : Option (List sy_Hn) := match ri_nth E.1 a with
  | some M2 => (match sy_split M2.2.2.2.2.1 [] st with
    | some (As, rest) => (match b with
      | 0 => sy_q3 rest (fun q r => match T q, ts with
        | some c, [t] => bif c.1 && Nat.beq c.2.1 t then sy_enter CT C ih fs d bud M ix nxt pc lv M2 a ((3, .inr q, .inl 0) :: As) r none nc ns H D K hs else none
        | _, _ => none)
      | 5 => sy_q3 rest (fun q r => match T q, ts with
        | some c, t :: hl => bif c.1 && Nat.beq c.2.1 t then sy_enter CT C ih fs d bud M ix nxt pc lv M2 a ((3, .inr q, .inl 0) :: As) r (some hl) nc ns H D K hs else none
        | _, _ => none)
      | 1 => sy_enter CT C ih fs d bud M ix nxt pc lv M2 a As rest none nc ns H D K hs
      | 4 => sy_enter CT C ih fs d bud M ix nxt pc lv M2 a As rest none nc ns H D K hs
      | 6 => sy_enter CT C ih fs d bud M ix nxt pc lv M2 a As rest none nc ns H D K hs
      | 7 => sy_q3 rest (fun q r => bif Nat.ble 1000001 q && Nat.blt q 1000065 then sy_enter CT C ih fs d bud M ix nxt pc lv M2 a ((3, .inr q, .inl 0) :: As) r none nc ns H D K hs else none)
      | 8 => bif sy_dbs As then sy_enter CT C ih fs d bud M ix nxt pc lv M2 a As rest none nc ns H D K hs else none
      | _ => none)
    | none => none)
  | none => none
/-- frames that wait: one number for another -/
noncomputable def sy_suF (y x : sy_E) (fs : List sy_Fr) : List sy_Fr := List.rec [] (fun F _ ih => (F.1, F.2.1, F.2.2.1, F.2.2.2.1, F.2.2.2.2.1, F.2.2.2.2.2.1, sy_suL y x F.2.2.2.2.2.2.1, sy_suS y x F.2.2.2.2.2.2.2.1, F.2.2.2.2.2.2.2.2) :: ih) fs
/-- steps on texts, on bits -/
noncomputable def sy_str (d bud a : Nat) (st : List sy_V) (K : sy_K) : Option (Nat × List sy_V × sy_K) := match a with
  | 0 => sy_q3 st (fun q r => bif Nat.ble 1000001 q && Nat.blt q 1000065 then some (3, (3, .inr (q + 100000), .inl 0) :: r, K) else none)
  | 1 => sy_q3 st (fun q r => bif Nat.ble 1000001 q && Nat.blt q 1000065 then some (3, (0, .inl 0, .inl 0) :: r, K) else none)
  | 2 => sy_q3 st (fun q r => bif Nat.ble 1100001 q && Nat.blt q 1100065 then some (1, (0, .inl (Int32.ofNat (sg_bs (q - 1100001)).length).toInt, .inl 0) :: r, K) else none)
  | 3 => sy_q1 0 st (fun e st => sy_q3 st (fun q r => match sy_iv K e with
    | some s => bif (Nat.ble 1100001 q && Nat.blt q 1100065) && (sy_le 0 s.1 && sy_le (s.2 + 1) (Int.ofNat (sg_bs (q - 1100001)).length)) then (bif sy_le s.2 s.1 then some (1, (0, .inl ((sg_bs (q - 1100001)).getD s.1.toNat 0).toInt, .inl 0) :: r, K) else some (1, (sy_any 0 K).1 :: r, (sy_any 0 K).2)) else none
    | none => none))
  | 4 => sy_q1 2 st (fun e r => bif Nat.ble 1 d && Nat.ble (sy_csum r + 15) bud then some (3, (6, e, .inl 0) :: r, K) else none)
  | 5 => sy_q1 6 st (fun e r => bif Nat.ble 1 d && Nat.ble (sy_csum r + 15) bud then some (3, (2, e, .inl 0) :: r, K) else none)
  | _ => none
/-- a constant -/
noncomputable def sy_cst (v : Value) : Option sy_V := match v with
  | .int x => some (0, .inl x.toInt, .inl 0)
  | .long x => some (1, .inl x.toInt, .inl 0)
  | .ref q => some (3, .inr q, .inl 0)
  | .double x => (match sd_cst x with
    | some n => some (2, .inl n, .inl 1)
    | none => none)
  | .retAddr _ => some (7, .inl 0, .inl 0)
  | _ => none
/-- one instruction -/
noncomputable def sy_exec (ih : sy_Go) (fs : List sy_Fr) (d bud : Nat) (M : ri_M) (ix : Nat) (nxt : List ri_Op) (lv : sy_L) (st : List sy_V) (H : sy_H) (D : List Nat) (K : sy_K) (nc ns : Nat) (hs : List sy_Hn) (pc κ : Nat) (i : Instr) (a b : Nat) (v : Value) (ts : List Nat) : Option (List sy_Hn) := match κ with
  | 0 => (match sy_pure M.2.2.1 i pc lv st K with
    | some l => sy_each (fun o h => ih fs d bud M (sy_nx M ix ts o.1) (ri_next M nxt ts o.1) o.2.1 o.2.2.1 o.2.2.2.1 H D o.2.2.2.2 nc ns h) l hs
    | none => none)
  | 17 => bif sy_conc a st then (match sy_pure M.2.2.1 i pc lv st K with
    | some l => sy_each (fun o h => ih fs d bud M (sy_nx M ix ts o.1) (ri_next M nxt ts o.1) o.2.1 o.2.2.1 o.2.2.2.1 H D o.2.2.2.2 nc ns h) l hs
    | none => none) else none
  | 1 => (match sy_getf T a b st H K with
    | some z => ih fs d bud M (ix + 1) nxt (pc + 3) lv z.1 z.2.1 D z.2.2 nc ns hs
    | none => none)
  | 2 => (match sy_putf T RU (E.2.1 a b) a b st H D K with
    | some z => bif sy_mcov z.2.1 C.2.2.2.2.2.2.2.1 then ih fs d bud M (ix + 1) nxt (pc + 3) lv z.1 z.2.2.1 z.2.2.2 K nc ns hs else none
    | none => none)
  | 3 => (match sy_cst v with
    | some c => ih fs d bud M (ix + 1) nxt (pc + ri_len i) lv (c :: st) H D K nc ns hs
    | none => none)
  | 4 => sy_call E T CT C ih fs d bud M ix nxt pc lv st a b ts nc ns H D K hs
  | 15 => (match sy_alen T E.2.2.1 st with
    | some z => ih fs d bud M (ix + 1) nxt (pc + 1) lv z H D K nc ns hs
    | none => none)
  | 16 => (match sy_ret M i st K with
    | some r => (match fs with
      | [] => sy_post C (.inl r) nc ns H D K hs
      | F :: fs => ih fs F.1 F.2.1 F.2.2.1 F.2.2.2.1 F.2.2.2.2.1 (F.2.2.2.2.2.1 + 3) F.2.2.2.2.2.2.1 (r.toList ++ F.2.2.2.2.2.2.2.1) H D K (F.2.2.2.2.2.2.2.2.1 + nc) (F.2.2.2.2.2.2.2.2.2.1 + ns) hs)
    | none => none)
  | 22 => (match sy_acopy T RU E.2.2.1 bud st H D K with
    | some z => bif Nat.ble 1 d && sy_mall z.2.1 C.2.2.2.2.2.2.2.1 then ih fs d bud M (ix + 1) nxt (pc + 3) lv z.1 z.2.2.1 z.2.2.2 K nc ns hs else none
    | none => none)
  | 23 => bif Nat.ble (E.2.2.2 a + 4) d && Nat.ble (sy_csum st + (13 * (E.2.2.2 a + 1) + 42)) bud then sy_unw C ih a H D K hs fs (nc + 1) (ns + 6) else none
  | 24 => (match hs with
    | h :: t => sy_q1 0 st (fun e st => sy_q3 st (fun q r => bif (Nat.beq h.2.1 24 && Nat.beq C.1 0) && (Nat.beq q 1000000 && (Nat.blt h.2.2.1 6 && (sy_prv K (sy_te e ++ ((-(h.2.2.1 : Int), []) :: sy_sc (-1) (sy_te (.inr 0)))) (sy_c0 h.2.2.2.2.2.2.1) && sy_prv K (((h.2.2.1 : Int), []) :: (sy_te (.inr 0) ++ sy_sc (-1) (sy_te e))) (sy_c11 h.2.2.2.2.2.2.1)))) then ih fs d bud M (ix + 1) nxt (pc + 1) lv ((0, .inr (3 + h.2.2.1), .inl 0) :: r) H D K nc ns t else none))
    | [] => none)
  | 29 => (match sy_str d bud a st K with
    | some z => ih fs d bud M (ix + 1) nxt (pc + z.1) lv z.2.1 H D z.2.2 nc ns hs
    | none => none)
  | κ => (match sy_tld κ with
    | some g => (match sy_ald T E.2.2.1 g st H K with
      | some z => ih fs d bud M (ix + 1) nxt (pc + 1) lv z.1 z.2.1 D z.2.2 nc ns hs
      | none => none)
    | none => (match sy_tst κ with
      | some g => (match sy_ast T RU E.2.2.1 g.2 st H D K with
        | some z => bif sy_mcov z.2.1 C.2.2.2.2.2.2.2.1 && (!(Nat.beq κ 27) || sy_conc 1 st) then ih fs d bud M (ix + 1) nxt (pc + 1) lv z.1 z.2.2.1 z.2.2.2.1 z.2.2.2.2 nc ns hs else none
        | none => none)
      | none => none))
/-- a hint that is no instruction -/
noncomputable def sy_cmd (ih : sy_Go) (fs : List sy_Fr) (d bud : Nat) (M : ri_M) (ix : Nat) (cur : List ri_Op) (pc : Nat) (lv : sy_L) (st : List sy_V) (H : sy_H) (D : List Nat) (K : sy_K) (nc ns : Nat) (hs : List sy_Hn) (c : sy_Cm) : Option (List sy_Hn) := match c.1 with
  | 1 => bif Nat.blt c.2.1 K.1.length then sy_each (fun K1 h => ih fs d bud M ix cur pc lv st H D K1 nc ns h) (sy_spl c.2.1 c.2.2.2.1 K) hs else none
  | 2 => (match sy_der c.2.2.2.2.2.2.1 (sy_c0 c.2.2.2.2.2.1) K with
    | some K1 => ih fs d bud M ix cur pc lv st H D K1 nc ns hs
    | none => none)
  | 3 => (match sy_nw c.2.1 c.2.2.2.1 c.2.2.2.2.1 (sy_c0 c.2.2.2.2.2.1) (sy_c11 c.2.2.2.2.2.1) K with
    | some K1 => ih fs d bud M ix cur pc lv st H D K1 nc ns hs
    | none => none)
  | 4 => (match sy_ld T c.2.1 c.2.2.1 H K with
    | some z => ih fs d bud M ix cur pc lv st z.2.1 D z.2.2 nc ns hs
    | none => none)
  | 5 => (match sy_use RU c.2.1 c.2.2.1 H D K with
    | some l => sy_each (fun K1 h => ih fs d bud M ix cur pc lv st H D K1 nc ns h) l hs
    | none => none)
  | 6 => (match sy_prr RU c.2.1 (c.2.2.2.2.2.2.2.zip c.2.2.2.2.2.1) H D K with
    | some D1 => ih fs d bud M ix cur pc lv st H D1 K nc ns hs
    | none => none)
  | 7 => bif sy_rfu K (sy_c0 c.2.2.2.2.2.1) then some hs else none
  | 8 => ih fs d bud M ix cur pc lv st H D (K.1, []) nc ns hs
  | 9 => (match sy_trf RU c.2.1 c.2.2.1 H D with
    | some D1 => ih fs d bud M ix cur pc lv st H D1 K nc ns hs
    | none => none)
  | 10 => bif sy_dom K.1.length c.2.2.2.2.2.2.1 then sy_each (fun K1 h => ih fs d bud M ix cur pc lv st H D K1 nc ns h) (sy_sg c.2.2.2.2.2.2.1 K) hs else none
  | 12 => (match sy_cpl T RU E.2.2.1 M.2.2.1 ix cur pc lv st H D c.2.2.2.2.2.2.2 with
    | some z => bif sy_mcov (z.2.2.1, 0, 584) C.2.2.2.2.2.2.2.1 then ih fs d bud M z.1 (ri_drop M.2.2.2.2.2 z.1) (pc + 25) z.2.1 [] z.2.2.2.1 z.2.2.2.2 K nc ns hs else none
    | none => none)
  | 11 => ih fs d bud M ix cur pc lv st (sy_hdrop c.2.1 c.2.2.1 c.2.2.2.1.toNat H) D K nc ns hs
  | 16 => (match sy_g16 c.2.2.1 c.2.2.2.1.toNat c.2.2.2.2.2.2.2 c.2.2.2.2.2.1 H K with
    | some l => sy_each (fun z h => ih fs d bud M ix cur pc lv st z.1 D z.2 nc ns h) l hs
    | none => none)
  | 17 => (match sy_g17 T c.2.1 c.2.2.1 H K with
    | some z => ih fs d bud M ix cur pc lv st z.1 D z.2 nc ns hs
    | none => none)
  | 18 => bif sy_suq K c.2.2.2.2.2.2.2 c.2.2.2.2.2.1 then ih (sy_suF (sy_ke c.2.2.2.2.2.2.2 0) (sy_ke c.2.2.2.2.2.2.2 1) fs) d bud M ix cur pc (sy_suL (sy_ke c.2.2.2.2.2.2.2 0) (sy_ke c.2.2.2.2.2.2.2 1) lv) (sy_suS (sy_ke c.2.2.2.2.2.2.2 0) (sy_ke c.2.2.2.2.2.2.2 1) st) (sy_suH (sy_ke c.2.2.2.2.2.2.2 0) (sy_ke c.2.2.2.2.2.2.2 1) H) D K nc ns hs else none
  | 19 => (match sy_g19 c.2.1 c.2.2.1 c.2.2.2.2.2.2.2 H K with
    | some H1 => ih fs d bud M ix cur pc lv st H1 D K nc ns hs
    | none => none)
  | _ => none
/-- one step: a hint, a cut, an instruction -/
noncomputable def sy_instr (ih : sy_Go) (fs : List sy_Fr) (d bud : Nat) (M : ri_M) (ix : Nat) (cur : List ri_Op) (pc : Nat) (lv : sy_L) (st : List sy_V) (H : sy_H) (D : List Nat) (K : sy_K) (nc ns : Nat) (hs : List sy_Hn) : Option (List sy_Hn) := match cur with
  | o :: nxt => bif Nat.beq o.1 pc then sy_exec E T RU CT C ih fs d bud M ix nxt lv st H D K nc ns hs pc o.2.1 o.2.2.1 o.2.2.2.1 o.2.2.2.2.1 o.2.2.2.2.2.1 o.2.2.2.2.2.2 else none
  | [] => none
noncomputable def sy_step (ih : sy_Go) (fs : List sy_Fr) (d bud : Nat) (M : ri_M) (ix : Nat) (cur : List ri_Op) (pc : Nat) (lv : sy_L) (st : List sy_V) (H : sy_H) (D : List Nat) (K : sy_K) (nc ns : Nat) (hs : List sy_Hn) : Option (List sy_Hn) := match fs with
  | [] => (match sy_isc ix CU with
    | some cu => (match cur with
      | o :: _ => bif Nat.beq o.1 pc then sy_cut C μ0 cb cu lv st nc ns H D K hs else none
      | [] => none)
    | none => sy_instr E T RU CT C ih [] d bud M ix cur pc lv st H D K nc ns (sy_tick hs))
  | F :: fs => sy_instr E T RU CT C ih (F :: fs) d bud M ix cur pc lv st H D K nc ns (sy_tick hs)
noncomputable def sy_go (ih : sy_Go) : sy_Go := fun fs d bud M ix cur pc lv st H D K nc ns hs => match hs with
  | h :: t => bif Nat.beq h.1 0 && Nat.blt h.2.1 20 then sy_cmd E T RU C ih fs d bud M ix cur pc lv st H D K nc ns t h.2 else sy_step E T RU CT C CU μ0 cb ih fs d bud M ix cur pc lv st H D K nc ns hs
  | [] => sy_step E T RU CT C CU μ0 cb ih fs d bud M ix cur pc lv st H D K nc ns []
noncomputable def sy_run (n : Nat) : sy_Go := Nat.rec (fun _ _ _ _ _ _ _ _ _ _ _ _ _ _ _ => none) (fun _ ih => sy_go E T RU CT C CU μ0 cb ih) n
end SYX
