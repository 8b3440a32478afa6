/-! ===== two runs side by side, part 4: calls of both at once, cuts of both, the survey ===== -/
/-- no rules at all: a free contract needs none and tells none -/
noncomputable def pv_RU0 : sy_RT := (fun _ => none, fun _ _ => [])
noncomputable def pv_RF (f : Bool) (RU : sy_RT) : sy_RT := @Bool.rec (fun _ => sy_RT) RU pv_RU0 f
/-- the rules that changes touch -/
noncomputable def pv_tcs (RU : sy_RT) (m : List (Nat × Nat × Nat)) (D : List Nat) : List Nat := List.rec D (fun x _ ih => sy_touch x.1 x.2.1 x.2.2 RU ih) m
theorem pv_RU0_ok (D : List Nat) (w : List ri_E) : sy_ru pv_RU0 D w := ⟨fun i r h => (by cases h), fun i r h => (by cases h)⟩
theorem pv_tcs_no {RU : sy_RT} {D : List Nat} {i : Nat} : ∀ {m : List (Nat × Nat × Nat)}, i ∉ pv_tcs RU m D → i ∉ D ∧ ∀ x ∈ m, ∀ j : Nat, x.2.1 ≤ j → j ≤ x.2.2 → i ∉ RU.2 x.1 j
  | [], h => ⟨h, fun x hx => by cases hx⟩
  | x :: m, h => by
    obtain ⟨h1, h2⟩ := sy_touch_no (show i ∉ sy_touch x.1 x.2.1 x.2.2 RU (pv_tcs RU m D) from h)
    obtain ⟨h3, h4⟩ := pv_tcs_no h1
    refine ⟨h3, fun y hy => ?_⟩
    rcases List.mem_cons.mp hy with rfl | hy
    · exact h2
    · exact h4 y hy
theorem pv_tcs_ru {RU : sy_RT} {D : List Nat} {m : List (Nat × Nat × Nat)} {w w' : List ri_E} (hd : sy_ru RU D w) (hm : sy_mods w w' m) : sy_ru RU (pv_tcs RU m D) w' := by
  refine ⟨hd.1, fun i r hr hi => ?_⟩
  obtain ⟨h1, h2⟩ := pv_tcs_no hi
  intro c hc
  obtain ⟨p, hp, h0⟩ := hd.2 i r hr h1 c hc
  refine ⟨p, hp, ?_⟩
  have e9 : sy_rv w' r.1 = sy_rv w r.1 := by
    funext k
    unfold sy_rv
    cases hk : r.1[k]? with
    | none => rfl
    | some y =>
      have hx := hd.1 i r hr y (List.mem_of_getElem? hk)
      exact sy_wv_nv (hm y.1 y.2 (fun x hx2 z => h2 x hx2 y.2 z.2.1 z.2.2 (by rw [← z.1]; exact hx)))
  rw [e9]
  exact h0
noncomputable def pv_pcs (cur : List ri_Op) (pc : Nat) : Bool := match cur with
  | o :: _ => Nat.beq o.1 pc
  | [] => false
section PVY
variable (E : sy_en) (own : Bool → Nat → Bool) (T : Nat → Option sy_C) (RU : sy_RT) (CT : Bool → List sy_Ct) (PC : List (Bool × pv_Ct)) (C : pv_Ct) (CU : List pv_Cut) (μ0 : Option sy_P)
/-- a call that stands ahead: the callee, what it is given, what stays, the handlers -/
noncomputable def pv_arg (T : Nat → Option sy_C) (o : ri_Op) (st : List sy_V) : Option (ri_M × List sy_V × List sy_V × Option (List Nat)) := bif Nat.beq o.2.1 4 then (match ri_nth E.1 o.2.2.2.1 with
  | some M2 => (match sy_split M2.2.2.2.2.1 [] st with
    | some (As, rest) => (match o.2.2.2.2.1 with
      | 0 => sy_q3 rest (fun q r => match T q, o.2.2.2.2.2.2 with
        | some c, [t] => bif c.1 && Nat.beq c.2.1 t then some (M2, (3, .inr q, .inl 0) :: As, r, none) else none
        | _, _ => none)
      | 5 => sy_q3 rest (fun q r => match T q, o.2.2.2.2.2.2 with
        | some c, t :: hl => bif c.1 && Nat.beq c.2.1 t then some (M2, (3, .inr q, .inl 0) :: As, r, some hl) else none
        | _, _ => none)
      | 1 => some (M2, As, rest, none)
      | 4 => some (M2, As, rest, none)
      | 6 => some (M2, As, rest, none)
      | _ => none)
    | none => none)
  | none => none) else none
noncomputable def pv_fit (d bud : Nat) (M2 : ri_M) (vals rest : List sy_V) : Bool := Nat.ble 1 d && (Nat.ble (19 + M2.2.2.1) bud && (Nat.ble (sy_csum rest) 8 && Nat.ble (sy_csum vals) M2.2.2.1))
/-- a side of a contract serves here -/
noncomputable def pv_sd (c : Nat × Nat × Nat × List sy_V) (a d bud : Nat) (M2 : ri_M) : Bool := Nat.beq c.1 a && (Nat.ble c.2.1 (d - 1) && Nat.ble c.2.2.1 (bud - (19 + M2.2.2.1)))
noncomputable def pv_push (σ : List sy_E) (r : Option sy_V) (rest : List sy_V) : Option (List sy_V) := match r with
  | none => some rest
  | some a => (match sy_sV σ a with
    | some b => some (b :: rest)
    | none => none)
/-- what a side's end is in an end of both -/
def pv_or (o : pv_Oc) (s : Bool) : Option sy_V := bif s then o.1.1 else o.1.2
def pv_on (o : pv_Oc) (s : Bool) : Nat × Nat := bif s then o.2.1 else o.2.2.1
/-- behind a call of both: s is the active one -/
noncomputable def pv_aft (ih : pv_Go) (s : Bool) (xfs : List sy_Fr) (xd xbud : Nat) (xM : ri_M) (xix : Nat) (xn : List ri_Op) (xpc : Nat) (xlv : sy_L) (xr : List sy_V) (xnc xns : Nat) (fs : List sy_Fr) (d bud : Nat) (M : ri_M) (ix : Nat) (nxt : List ri_Op) (pc : Nat) (lv : sy_L) (rest : List sy_V) (nc ns : Nat) (H : sy_H) (K : sy_K) (σ : List sy_E) (D1 : List Nat) (o : pv_Oc) (hs : List sy_Hn) : Option (List sy_Hn) := match sy_inst K σ o.2.2.2.1 with
  | none => some hs
  | some K1 => (match sy_sH (sy_is1 K σ o.2.2.2.1) o.2.2.2.2.1 H with
    | some H1 => (match pv_push (sy_is1 K σ o.2.2.2.1) (pv_or o s) rest with
      | some st1 => (match pv_push (sy_is1 K σ o.2.2.2.1) (pv_or o (!s)) xr with
        | some st2 => ih s (.inl (xfs, xd, xbud, xM, xix + 1, xn, xpc + 3, xlv, st2, xnc + (pv_on o (!s)).1, xns + (pv_on o (!s)).2)) fs d bud M (ix + 1) nxt (pc + 3) lv st1 H1 D1 K1 (nc + (pv_on o s).1) (ns + (pv_on o s).2) hs
        | none => none)
      | none => none)
    | none => none)
noncomputable def pv_call (ih : pv_Go) (s : Bool) (xfs : List sy_Fr) (xd xbud : Nat) (xM : ri_M) (xix : Nat) (o2 : ri_Op) (xn : List ri_Op) (xpc : Nat) (xlv : sy_L) (xst : List sy_V) (xnc xns : Nat) (fs : List sy_Fr) (d bud : Nat) (M : ri_M) (ix : Nat) (o : ri_Op) (nxt : List ri_Op) (pc : Nat) (lv : sy_L) (st : List sy_V) (H : sy_H) (D : List Nat) (K : sy_K) (nc ns : Nat) (hs : List sy_Hn) (j : Nat) (cs : List sy_Ce) : Option (List sy_Hn) := match pv_arg E (pv_T (own s) T) o st with
  | some z => (match pv_arg E (pv_T (own (!s)) T) o2 xst with
    | some y => (match ri_nth PC j with
      | some (f9, c) => (match sy_ms K c.1.2.2.2 (bif s then z.2.1 else y.2.1) [] with
        | some σ0 => (match sy_ms K c.2.1.2.2.2 (bif s then y.2.1 else z.2.1) σ0 with
          | some σ => (match sy_mh K H c.2.2.2.1 σ with
            | some σ1 => bif ((Nat.beq o.1 pc && Nat.beq o2.1 xpc) && ((pv_fit d bud z.1 z.2.1 z.2.2.1 && pv_fit xd xbud y.1 y.2.1 y.2.2.1) && (pv_sd (pv_cm c s) o.2.2.2.1 d bud z.1 && pv_sd (pv_cm c (!s)) o2.2.2.2.1 xd xbud y.1))) && ((sy_ent K σ1 c.2.2.1 cs && (f9 || sy_dsub D c.2.2.2.2.1)) && sy_mall c.2.2.2.2.2.1 C.2.2.2.2.2.1) then
                sy_each (fun oc h => pv_aft ih s xfs xd xbud xM xix xn xpc xlv y.2.2.1 xnc xns fs d bud M ix nxt pc lv z.2.2.1 nc ns (sy_hmods c.2.2.2.2.2.1 H) K σ1 (@Bool.rec (fun _ => List Nat) oc.2.2.2.2.2 (pv_tcs RU c.2.2.2.2.2.1 D) f9) oc h) c.2.2.2.2.2.2 hs
              else none
            | none => none)
          | none => none)
        | none => none)
      | none => none)
    | none => none)
  | none => none
/-- a cut of both is reached: lA, xA of the side true, lB, xB of the other one -/
noncomputable def pv_cut (xA : Nat) (lA : sy_L) (xB : Nat) (lB : sy_L) (H : sy_H) (D : List Nat) (K : sy_K) (hs : List sy_Hn) (j : Nat) (cs : List sy_Ce) : Option (List sy_Hn) := match ri_nth CU j with
  | some cu => (match sy_ml K lA cu.1.2 (pv_s0 C) with
    | some σ0 => (match sy_ml K lB cu.2.1.2 σ0 with
      | some σ => (match sy_mh K H cu.2.2.2.1 σ with
        | some σ1 => (match sy_sp (sy_at σ1) cu.2.2.2.2.2 with
          | some m => bif (Nat.beq xA cu.1.1 && Nat.beq xB cu.2.1.1) && ((sy_ent K σ1 cu.2.2.1 (sy_c2 cs) && sy_dsub D cu.2.2.2.2.1) && (sy_prv K m (sy_c0 cs) && sy_dec μ0 K m (sy_c11 cs))) then some hs else none
          | none => none)
        | none => none)
      | none => none)
    | none => none)
  | none => none
noncomputable def pv_one (ih : pv_Go) (s : Bool) (X : pv_S) (fs : List sy_Fr) (d bud : Nat) (M : ri_M) (ix : Nat) (cur : List ri_Op) (pc : Nat) (lv : sy_L) (st : List sy_V) (H : sy_H) (D : List Nat) (K : sy_K) (nc ns : Nat) (hs : List sy_Hn) : Option (List sy_Hn) := sy_go E (pv_T (own s) T) RU (CT s) (pv_C1 own C s) [] none (0, 0) (ih s X) fs d bud M ix cur pc lv st H D K nc ns hs
/-- no hint for both: an instruction or a hint of the active one; the lowest frame's return ends it -/
noncomputable def pv_ins (ih : pv_Go) (s : Bool) (X : pv_S) (fs : List sy_Fr) (d bud : Nat) (M : ri_M) (ix : Nat) (cur : List ri_Op) (pc : Nat) (lv : sy_L) (st : List sy_V) (H : sy_H) (D : List Nat) (K : sy_K) (nc ns : Nat) (hs : List sy_Hn) : Option (List sy_Hn) := match fs, cur with
  | [], o :: _ => bif Nat.beq o.2.1 16 && Nat.beq o.1 pc then pv_retn C ih s X M o.2.2.1 st H D K nc ns (sy_tick hs) else pv_one E own T RU CT C ih s X fs d bud M ix cur pc lv st H D K nc ns hs
  | _, _ => pv_one E own T RU CT C ih s X fs d bud M ix cur pc lv st H D K nc ns hs
/-- a hint for both: 13 the other one is the active one now, 14 a call of both, 15 a cut of both -/
noncomputable def pv_cmd (ih : pv_Go) (s : Bool) (X : pv_S) (fs : List sy_Fr) (d bud : Nat) (M : ri_M) (ix : Nat) (cur : List ri_Op) (pc : Nat) (lv : sy_L) (st : List sy_V) (H : sy_H) (D : List Nat) (K : sy_K) (nc ns : Nat) (hs : List sy_Hn) (c : sy_Cm) : Option (List sy_Hn) := match X with
  | .inl (xfs, xd, xbud, xM, xix, xcur, xpc, xlv, xst, xnc, xns) => (match c.1 with
    | 13 => ih (!s) (.inl (fs, d, bud, M, ix, cur, pc, lv, st, nc, ns)) xfs xd xbud xM xix xcur xpc xlv xst H D K xnc xns hs
    | 14 => (match cur, xcur with
      | o :: nxt, o2 :: xn => pv_call E own T RU PC C ih s xfs xd xbud xM xix o2 xn xpc xlv xst xnc xns fs d bud M ix o nxt pc lv st H D K nc ns hs c.2.1 c.2.2.2.2.2.1
      | _, _ => none)
    | 15 => (match fs, xfs, st, xst with
      | [], [], [], [] => bif (pv_pcs cur pc && pv_pcs xcur xpc) && ((Nat.beq nc 0 && Nat.beq ns 0) && (Nat.beq xnc 0 && Nat.beq xns 0)) then pv_cut C CU μ0 (bif s then ix else xix) (bif s then lv else xlv) (bif s then xix else ix) (bif s then xlv else lv) H D K hs c.2.1 c.2.2.2.2.2.1 else none
      | _, _, _, _ => none)
    | _ => none)
  | .inr _ => none
/-- the other one, one number for another -/
noncomputable def pv_suX (y x : sy_E) (X : pv_S) : pv_S := match X with
  | .inl (fs, d, bud, M, ix, cur, pc, lv, st, nc, ns) => .inl (sy_suF y x fs, d, bud, M, ix, cur, pc, sy_suL y x lv, sy_suS y x st, nc, ns)
  | .inr (r, nc, ns) => .inr ((match r with | some a => some (sy_suV y x a) | none => none), nc, ns)
/-- hints that need the kinds of all cells: 4 a place is read, 17 a guest is used; 18 one number for another -/
noncomputable def pv_all (ih : pv_Go) (s : Bool) (X : pv_S) (fs : List sy_Fr) (d bud : Nat) (M : ri_M) (ix : Nat) (cur : List ri_Op) (pc : Nat) (lv : sy_L) (st : List sy_V) (H : sy_H) (D : List Nat) (K : sy_K) (nc ns : Nat) (hs : List sy_Hn) (c : sy_Cm) : Option (List sy_Hn) := match c.1 with
  | 4 => (match sy_ld T c.2.1 c.2.2.1 H K with
    | some z => ih s X fs d bud M ix cur pc lv st z.2.1 D z.2.2 nc ns hs
    | none => none)
  | 17 => (match sy_g17 T c.2.1 c.2.2.1 H K with
    | some z => ih s X fs d bud M ix cur pc lv st z.1 D z.2 nc ns hs
    | none => none)
  | _ => bif sy_suq K c.2.2.2.2.2.2.2 c.2.2.2.2.2.1 then ih s (pv_suX (sy_ke c.2.2.2.2.2.2.2 0) (sy_ke c.2.2.2.2.2.2.2 1) X) (sy_suF (sy_ke c.2.2.2.2.2.2.2 0) (sy_ke c.2.2.2.2.2.2.2 1) fs) d bud M ix cur pc (sy_suL (sy_ke c.2.2.2.2.2.2.2 0) (sy_ke c.2.2.2.2.2.2.2 1) lv) (sy_suS (sy_ke c.2.2.2.2.2.2.2 0) (sy_ke c.2.2.2.2.2.2.2 1) st) (sy_suH (sy_ke c.2.2.2.2.2.2.2 0) (sy_ke c.2.2.2.2.2.2.2 1) H) D K nc ns hs else none
noncomputable def pv_isa (n : Nat) : Bool := Nat.beq n 4 || (Nat.beq n 17 || Nat.beq n 18)
noncomputable def pv_go (ih : pv_Go) (s : Bool) (X : pv_S) : sy_Go := fun fs d bud M ix cur pc lv st H D K nc ns hs => match hs with
  | h :: t => bif Nat.beq h.1 0 && pv_isa h.2.1 then pv_all T ih s X fs d bud M ix cur pc lv st H D K nc ns t h.2 else bif Nat.beq h.1 0 && (Nat.ble 13 h.2.1 && Nat.ble h.2.1 15) then pv_cmd E own T RU PC C CU μ0 ih s X fs d bud M ix cur pc lv st H D K nc ns t h.2 else bif Nat.beq h.1 0 && Nat.blt h.2.1 20 then pv_one E own T RU CT C ih s X fs d bud M ix cur pc lv st H D K nc ns hs else pv_ins E own T RU CT C ih s X fs d bud M ix cur pc lv st H D K nc ns hs
  | [] => pv_ins E own T RU CT C ih s X fs d bud M ix cur pc lv st H D K nc ns []
noncomputable def pv_run (n : Nat) : pv_Go := Nat.rec (fun _ _ _ _ _ _ _ _ _ _ _ _ _ _ _ _ _ => none) (fun _ ih => pv_go E own T RU CT PC C CU μ0 ih) n
end PVY
