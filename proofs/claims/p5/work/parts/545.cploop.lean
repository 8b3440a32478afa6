/-! ===== the surveyor, part 135: loops that copy a row of 585 longs ===== -/
noncomputable def sy_oil (o : ri_Op) (p v : Nat) : Bool := (Nat.beq o.1 p && Nat.beq o.2.1 0) && (match o.2.2.1 with | .iload_n j => Nat.beq j.val v | _ => false)
noncomputable def sy_oal (o : ri_Op) (p v : Nat) : Bool := (Nat.beq o.1 p && Nat.beq o.2.1 0) && (match o.2.2.1 with | .aload_n j => Nat.beq j.val v | _ => false)
noncomputable def sy_osi (o : ri_Op) (p : Nat) : Bool := (Nat.beq o.1 p && Nat.beq o.2.1 0) && (match o.2.2.1 with | .sipush n => decide (n = 585) | _ => false)
noncomputable def sy_ocg (o : ri_Op) (p ie : Nat) : Bool := (Nat.beq o.1 p && Nat.beq o.2.1 17) && ((match o.2.2.1 with | .if_icmp .ge off => decide (off = 21) | _ => false) && (Nat.beq o.2.2.2.1 2 && (match o.2.2.2.2.2.2 with | [t] => Nat.beq t ie | _ => false)))
noncomputable def sy_ogf (o : ri_Op) (p ca f : Nat) : Bool := (Nat.beq o.1 p && Nat.beq o.2.1 1) && (Nat.beq o.2.2.2.1 ca && Nat.beq o.2.2.2.2.1 f)
noncomputable def sy_okk (o : ri_Op) (p κ : Nat) : Bool := Nat.beq o.1 p && Nat.beq o.2.1 κ
noncomputable def sy_oii (o : ri_Op) (p v : Nat) : Bool := (Nat.beq o.1 p && Nat.beq o.2.1 0) && (match o.2.2.1 with | .iinc j n => Nat.beq j v && decide (n = 1) | _ => false)
noncomputable def sy_ogo (o : ri_Op) (p ih : Nat) : Bool := (Nat.beq o.1 p && Nat.beq o.2.1 0) && ((match o.2.2.1 with | .goto off => decide (off = -22) | _ => false) && (match o.2.2.2.2.2.2 with | [t] => Nat.beq t ih | _ => false))
theorem sy_nbt {x y : Nat} (h : Nat.beq x y = true) : x = y := Nat.eq_of_beq_eq_true h
theorem sy_oil_eq {o : ri_Op} {p v : Nat} (h : sy_oil o p v = true) : ∃ (j : Fin 4) (a b : Nat) (u : Value) (ts : List Nat), o = (p, 0, .iload_n j, a, b, u, ts) ∧ j.val = v := by
  obtain ⟨p0, κ, i, a, b, u, ts⟩ := o
  unfold sy_oil at h
  simp only [Bool.and_eq_true] at h
  obtain ⟨⟨h1, h2⟩, h3⟩ := h
  cases sy_nbt h1
  cases sy_nbt h2
  split at h3
  · rename_i j
    exact ⟨j, a, b, u, ts, rfl, sy_nbt h3⟩
  · cases h3
theorem sy_oal_eq {o : ri_Op} {p v : Nat} (h : sy_oal o p v = true) : ∃ (j : Fin 4) (a b : Nat) (u : Value) (ts : List Nat), o = (p, 0, .aload_n j, a, b, u, ts) ∧ j.val = v := by
  obtain ⟨p0, κ, i, a, b, u, ts⟩ := o
  unfold sy_oal at h
  simp only [Bool.and_eq_true] at h
  obtain ⟨⟨h1, h2⟩, h3⟩ := h
  cases sy_nbt h1
  cases sy_nbt h2
  split at h3
  · rename_i j
    exact ⟨j, a, b, u, ts, rfl, sy_nbt h3⟩
  · cases h3
theorem sy_osi_eq {o : ri_Op} {p : Nat} (h : sy_osi o p = true) : ∃ (a b : Nat) (u : Value) (ts : List Nat), o = (p, 0, .sipush 585, a, b, u, ts) := by
  obtain ⟨p0, κ, i, a, b, u, ts⟩ := o
  unfold sy_osi at h
  simp only [Bool.and_eq_true] at h
  obtain ⟨⟨h1, h2⟩, h3⟩ := h
  cases sy_nbt h1
  cases sy_nbt h2
  split at h3
  · rename_i n
    have e := of_decide_eq_true h3
    subst e
    exact ⟨a, b, u, ts, rfl⟩
  · cases h3
theorem sy_ocg_eq {o : ri_Op} {p ie : Nat} (h : sy_ocg o p ie = true) : ∃ (b : Nat) (u : Value), o = (p, 17, .if_icmp .ge 21, 2, b, u, [ie]) := by
  obtain ⟨p0, κ, i, a, b, u, ts⟩ := o
  unfold sy_ocg at h
  simp only [Bool.and_eq_true] at h
  obtain ⟨⟨h1, h2⟩, h3, h4, h5⟩ := h
  cases sy_nbt h1
  cases sy_nbt h2
  cases sy_nbt h4
  split at h5
  · rename_i t
    cases sy_nbt h5
    split at h3
    · rename_i off
      have e := of_decide_eq_true h3
      subst e
      exact ⟨b, u, rfl⟩
    · cases h3
  · cases h5
theorem sy_ogf_eq {o : ri_Op} {p ca f : Nat} (h : sy_ogf o p ca f = true) : ∃ (i : Instr) (u : Value) (ts : List Nat), o = (p, 1, i, ca, f, u, ts) := by
  obtain ⟨p0, κ, i, a, b, u, ts⟩ := o
  unfold sy_ogf at h
  simp only [Bool.and_eq_true] at h
  obtain ⟨⟨h1, h2⟩, h3, h4⟩ := h
  cases sy_nbt h1
  cases sy_nbt h2
  cases sy_nbt h3
  cases sy_nbt h4
  exact ⟨i, u, ts, rfl⟩
theorem sy_okk_eq {o : ri_Op} {p κ : Nat} (h : sy_okk o p κ = true) : ∃ (i : Instr) (a b : Nat) (u : Value) (ts : List Nat), o = (p, κ, i, a, b, u, ts) := by
  obtain ⟨p0, κ0, i, a, b, u, ts⟩ := o
  unfold sy_okk at h
  simp only [Bool.and_eq_true] at h
  obtain ⟨h1, h2⟩ := h
  cases sy_nbt h1
  cases sy_nbt h2
  exact ⟨i, a, b, u, ts, rfl⟩
theorem sy_oii_eq {o : ri_Op} {p v : Nat} (h : sy_oii o p v = true) : ∃ (a b : Nat) (u : Value) (ts : List Nat), o = (p, 0, .iinc v 1, a, b, u, ts) := by
  obtain ⟨p0, κ, i, a, b, u, ts⟩ := o
  unfold sy_oii at h
  simp only [Bool.and_eq_true] at h
  obtain ⟨⟨h1, h2⟩, h3⟩ := h
  cases sy_nbt h1
  cases sy_nbt h2
  split at h3
  · rename_i j n
    rw [Bool.and_eq_true] at h3
    have e := of_decide_eq_true h3.2
    have e2 := sy_nbt h3.1
    subst e; subst e2
    exact ⟨a, b, u, ts, rfl⟩
  · cases h3
theorem sy_ogo_eq {o : ri_Op} {p ih : Nat} (h : sy_ogo o p ih = true) : ∃ (a b : Nat) (u : Value), o = (p, 0, .goto (-22), a, b, u, [ih]) := by
  obtain ⟨p0, κ, i, a, b, u, ts⟩ := o
  unfold sy_ogo at h
  simp only [Bool.and_eq_true] at h
  obtain ⟨⟨h1, h2⟩, h3, h4⟩ := h
  cases sy_nbt h1
  cases sy_nbt h2
  split at h4
  · rename_i t
    cases sy_nbt h4
    split at h3
    · rename_i off
      have e := of_decide_eq_true h3
      subst e
      exact ⟨a, b, u, rfl⟩
    · cases h3
  · cases h4
/-! numbers of rounds -/
theorem sy_c585 : (Int16.ofInt 585).toInt32 = (585 : Int32) := by decide +kernel
theorem sy_kint {k : Nat} (h : k ≤ 585) : (Int32.ofNat k).toInt = (k : Int) := by
  rw [Int32.toInt_ofNat']
  have e9 : Int32.size = 4294967296 := rfl
  rw [e9, Int.bmod_def]
  have e : ((k : Int) % ((4294967296 : Nat) : Int)) = (k : Int) := Int.emod_eq_of_lt (by omega) (by omega)
  omega
theorem sy_knat {k : Nat} (h : k ≤ 585) : (Int32.ofNat k).toNatClampNeg = k := by
  show (Int32.ofNat k).toInt.toNat = k
  rw [sy_kint h]; rfl
theorem sy_kneg {k : Nat} (h : k ≤ 585) : ¬ Int32.ofNat k < 0 := by
  rw [Int32.lt_iff_toInt_lt, sy_kint h]
  have e : (0 : Int32).toInt = 0 := rfl
  omega
theorem sy_kge {k : Nat} (h : k < 585) : ri_cnd .ge (Int32.ofNat k) (585 : Int32) = false := by
  show decide ((585 : Int32) ≤ Int32.ofNat k) = false
  apply decide_eq_false
  rw [Int32.le_iff_toInt_le, sy_kint (by omega)]
  have e : (585 : Int32).toInt = 585 := by decide +kernel
  omega
theorem sy_kge2 : ri_cnd .ge (Int32.ofNat 585) (585 : Int32) = true := by decide +kernel
theorem sy_ksuc {k : Nat} (h : k < 585) : Int32.ofNat k + Int32.ofInt 1 = Int32.ofNat (k + 1) := by
  have e : Int32.ofInt 1 = Int32.ofNat 1 := by decide +kernel
  rw [e, Int32.ofNat_add]
/-- what is told of all places of two rows is the same, longs all -/
noncomputable def sy_feq1 (a b : sy_FS) : Bool := (Nat.beq a.1 1 && Nat.beq b.1 1) && (decide (a.2.1 = b.2.1) && decide (a.2.2 = b.2.2))
noncomputable def sy_feq : List sy_FS → List sy_FS → Bool
  | [], [] => true
  | a :: l, b :: m => sy_feq1 a b && sy_feq l m
  | _, _ => false
theorem sy_feq1_eq {a b : sy_FS} (h : sy_feq1 a b = true) : a = b ∧ a.1 = 1 := by
  obtain ⟨t, lo, hi⟩ := a
  obtain ⟨t2, lo2, hi2⟩ := b
  unfold sy_feq1 at h
  simp only [Bool.and_eq_true] at h
  obtain ⟨⟨h1, h2⟩, h3, h4⟩ := h
  have e1 : t = 1 := sy_nbt h1
  have e2 : t2 = 1 := sy_nbt h2
  have e3 : lo = lo2 := of_decide_eq_true h3
  have e4 : hi = hi2 := of_decide_eq_true h4
  subst e1; subst e2; subst e3; subst e4
  exact ⟨rfl, rfl⟩
theorem sy_feq_eq : ∀ {l m : List sy_FS}, sy_feq l m = true → l = m ∧ ∀ f ∈ l, f.1 = 1
  | [], [], _ => ⟨rfl, fun f hf => by cases hf⟩
  | a :: l, b :: m, h => by
    unfold sy_feq at h
    rw [Bool.and_eq_true] at h
    obtain ⟨e1, e2⟩ := sy_feq1_eq h.1
    obtain ⟨e3, e4⟩ := sy_feq_eq h.2
    refine ⟨by rw [e1, e3], fun f hf => ?_⟩
    rcases List.mem_cons.mp hf with rfl | hf
    · exact e2
    · exact e4 f hf
  | [], _ :: _, h => by unfold sy_feq at h; cases h
  | _ :: _, [], h => by unfold sy_feq at h; cases h
noncomputable def sy_feqs (a b : sy_FS ⊕ List sy_FS) : Bool := match a, b with
  | .inl f, .inl g => sy_feq1 f g
  | .inr l, .inr m => sy_feq l m
  | _, _ => false
theorem sy_feqs_eq {cs cd : sy_C} (h : sy_feqs cs.2.2.2 cd.2.2.2 = true) (hn : cs.2.2.1 = cd.2.2.1) (j : Nat) : sy_fs cs j = sy_fs cd j ∧ ∀ f : sy_FS, sy_fs cs j = some f → f.1 = 1 := by
  obtain ⟨o1, t1, n1, x⟩ := cs
  obtain ⟨o2, t2, n2, y⟩ := cd
  dsimp only at h hn
  subst hn
  unfold sy_feqs at h
  unfold sy_fs
  dsimp only
  split at h
  · rename_i f g
    obtain ⟨e1, e2⟩ := sy_feq1_eq h
    subst e1
    refine ⟨rfl, fun f2 hf => ?_⟩
    cases hb : Nat.blt j n1 with
    | false => rw [hb] at hf; cases hf
    | true => rw [hb] at hf; cases hf; exact e2
  · rename_i l m
    obtain ⟨e1, e2⟩ := sy_feq_eq h
    subst e1
    refine ⟨rfl, fun f2 hf => ?_⟩
    cases hb : Nat.blt j n1 with
    | false => rw [hb] at hf; cases hf
    | true =>
      rw [hb, cond_true] at hf
      dsimp only at hf
      rw [ri_nth_eq] at hf
      exact e2 f2 (List.mem_of_getElem? hf)
  · cases h
noncomputable def sy_fsn (a : sy_FS ⊕ List sy_FS) : Bool := match a with
  | .inl _ => true
  | .inr l => Nat.ble 585 l.length
/-- a field that is a reference -/
noncomputable def sy_fr (c : sy_C) (b : Nat) : Option Nat := match sy_fs c b with
  | some f => bif Nat.beq f.1 3 then some f.2.1.toNat else none
  | none => none
theorem sy_fr_ok {T : Nat → Option sy_C} {w : List ri_E} {q b d ca : Nat} {c : sy_C} (ht : sy_tw T w) (hc : T q = some c) (ho : (c.1 && Nat.beq c.2.1 ca) = true) (h : sy_fr c b = some d) (r : List Value) : ri_getf ca b (.ref q :: r) w = some (.ref d :: r) := by
  rw [Bool.and_eq_true] at ho
  unfold sy_fr at h
  split at h
  · rename_i f hf
    cases hb : Nat.beq f.1 3 with
    | false => rw [hb] at h; cases h
    | true =>
      rw [hb, cond_true] at h
      cases h
      obtain ⟨vs, g1, g2, g3⟩ := ht q c hc
      obtain ⟨v, g4, g5⟩ := g3 b f hf
      have e3 : f.1 = 3 := sy_nbt hb
      unfold sy_fv at g5
      rw [e3] at g5
      have g6 : v = .ref f.2.1.toNat := g5
      subst g6
      rw [ho.1] at g1
      have g1' : w[q]? = some (.inr (c.2.1, vs)) := g1
      unfold ri_getf
      dsimp only
      rw [ri_nth_eq, g1']
      dsimp only
      rw [ho.2, ri_nth_eq, g4]
      rfl
  · cases h
/-- the loop: class of this, its fields (of the row that is laid, of the one that is read), the place behind the loop -/
noncomputable def sy_cps (v p ca fd fs ix ie : Nat) (cur : List ri_Op) : Bool := match cur with
  | o0 :: o1 :: o2 :: o3 :: o4 :: o5 :: o6 :: o7 :: o8 :: o9 :: o10 :: o11 :: o12 :: _ => (sy_oil o0 p v && (sy_osi o1 (p + 1) && (sy_ocg o2 (p + 4) ie && (sy_oal o3 (p + 7) 0 && (sy_ogf o4 (p + 8) ca fd && (sy_oil o5 (p + 11) v && (sy_oal o6 (p + 12) 0 && (sy_ogf o7 (p + 13) ca fs && (sy_oil o8 (p + 16) v && (sy_okk o9 (p + 17) 7 && (sy_okk o10 (p + 18) 8 && (sy_oii o11 (p + 19) v && sy_ogo o12 (p + 22) ix))))))))))))
  | _ => false
noncomputable def sy_isL (t : Option FieldType) : Bool := match t with
  | some .long => true
  | _ => false
/-- locals of the loop: this, the number of the round -/
noncomputable def sy_cpv (v : Nat) (lv : sy_L) : Option Nat := match sy_get 0 lv, sy_get v lv with
  | some a, some b => bif (Nat.beq a.1 3 && Nat.beq b.1 0) && sy_is0 b.2.1 then (match a.2.1 with
    | .inr q => some q
    | .inl _ => none) else none
  | _, _ => none
/-- what is known of the row that is read is known of the one that is laid -/
noncomputable def sy_cph (s d : Nat) (G H : sy_H) : sy_H := List.rec G (fun x _ ih => @Bool.rec (fun _ => sy_H) ih (((d, x.1.2), x.2) :: ih) ((Nat.beq x.1.1 s && Nat.blt x.1.2 585) && Nat.blt x.2.1 10)) H
theorem sy_cph_mem {s d : Nat} {G : sy_H} {y : (Nat × Nat) × sy_V} : ∀ {H : sy_H}, y ∈ sy_cph s d G H → y ∈ G ∨ ∃ x ∈ H, x.1.1 = s ∧ x.1.2 < 585 ∧ x.2.1 < 10 ∧ y = ((d, x.1.2), x.2)
  | [], h => Or.inl h
  | x :: H, h => by
    have h2 : y ∈ (@Bool.rec (fun _ => sy_H) (sy_cph s d G H) (((d, x.1.2), x.2) :: sy_cph s d G H) ((Nat.beq x.1.1 s && Nat.blt x.1.2 585) && Nat.blt x.2.1 10)) := h
    have more : y ∈ sy_cph s d G H → y ∈ G ∨ ∃ x2 ∈ x :: H, x2.1.1 = s ∧ x2.1.2 < 585 ∧ x2.2.1 < 10 ∧ y = ((d, x2.1.2), x2.2) := by
      intro h3
      rcases sy_cph_mem h3 with h4 | ⟨x2, h4, h5⟩
      · exact Or.inl h4
      · exact Or.inr ⟨x2, List.mem_cons_of_mem _ h4, h5⟩
    cases hb : ((Nat.beq x.1.1 s && Nat.blt x.1.2 585) && Nat.blt x.2.1 10) with
    | false => rw [hb] at h2; exact more h2
    | true =>
      rw [hb] at h2
      rw [Bool.and_eq_true, Bool.and_eq_true] at hb
      rcases List.mem_cons.mp h2 with h3 | h3
      · exact Or.inr ⟨x, List.mem_cons_self, Nat.eq_of_beq_eq_true hb.1.1, Nat.le_of_ble_eq_true hb.1.2, Nat.le_of_ble_eq_true hb.2, h3⟩
      · exact more h3
/-- the guests of the row that is read are guests of the one that is laid -/
noncomputable def sy_cpg (s d : Nat) (H R : sy_H) : sy_H := @Bool.rec (fun _ => sy_H) R (((999999, 0), (11, .inr (pg_cp (d - 245) (s - 245) (sy_gall H)), .inl 0)) :: R) ((Nat.ble 245 d && Nat.blt d 249) && (Nat.ble 245 s && Nat.blt s 249))
theorem sy_cpg_ok {ρ : List Int} {s d : Nat} {H R : sy_H} {w w' : List ri_E} (hh : sy_hok ρ H w) (hr : sy_hok ρ R w') (hw : ∀ q2 j2 : Nat, sy_wv w' q2 j2 = if q2 = d ∧ j2 < 585 then sy_wv w s j2 else sy_wv w q2 j2) : sy_hok ρ (sy_cpg s d H R) w' := by
  unfold sy_cpg
  cases hb : ((Nat.ble 245 d && Nat.blt d 249) && (Nat.ble 245 s && Nat.blt s 249)) with
  | false => exact hr
  | true =>
    rw [Bool.and_eq_true, Bool.and_eq_true, Bool.and_eq_true] at hb
    obtain ⟨⟨b1, b2⟩, b3, b4⟩ := hb
    have d1 := Nat.le_of_ble_eq_true b1
    have d2 : d < 249 := Nat.le_of_ble_eq_true b2
    have s1 := Nat.le_of_ble_eq_true b3
    have s2 : s < 249 := Nat.le_of_ble_eq_true b4
    intro x hx
    rcases List.mem_cons.mp hx with rfl | hx
    · refine Or.inr (Or.inr ⟨rfl, fun g hg => ?_⟩)
      refine pg_cp_ok (nv := sy_nv w) (d := d - 245) (s := s - 245) (G := sy_gall H) (by omega) (by omega) (fun q j hq => sy_wv_nv ?_) (fun j hj => ?_) (sy_gall_ok hh) hg
      · rw [hw, if_neg (fun z => hq (by omega))]
      · show sy_nv w' (245 + (d - 245)) j = sy_nv w (245 + (s - 245)) j
        rw [show 245 + (d - 245) = d by omega, show 245 + (s - 245) = s by omega]
        unfold sy_nv
        rw [hw, if_pos ⟨rfl, hj⟩]
    · exact hr x hx
/-- rules behind a copy of a whole row: those that are copies of rules that hold, hold -/
noncomputable def sy_dfl (L D : List Nat) : List Nat := List.rec [] (fun k _ ih => @Bool.rec (fun _ => List Nat) (k :: ih) ih (sy_inD k L)) D
theorem sy_dfl_no {L : List Nat} {i : Nat} : ∀ {D : List Nat}, i ∉ sy_dfl L D → i ∈ L ∨ i ∉ D
  | [], _ => Or.inr (fun z => by cases z)
  | k :: D, h => by
    have h2 : i ∉ (@Bool.rec (fun _ => List Nat) (k :: sy_dfl L D) (sy_dfl L D) (sy_inD k L)) := h
    cases hb : sy_inD k L with
    | true =>
      rw [hb] at h2
      rcases sy_dfl_no h2 with h3 | h3
      · exact Or.inl h3
      · by_cases e : i = k
        · rw [e]; exact Or.inl (sy_inD_yes hb)
        · refine Or.inr (fun z => ?_)
          rcases List.mem_cons.mp z with z | z
          · exact e z
          · exact h3 z
    | false =>
      rw [hb] at h2
      rcases sy_dfl_no (fun z => h2 (List.mem_cons_of_mem _ z)) with h3 | h3
      · exact Or.inl h3
      · refine Or.inr (fun z => ?_)
        rcases List.mem_cons.mp z with z | z
        · exact h2 (by rw [z]; exact List.mem_cons_self)
        · exact h3 z
noncomputable def sy_tcr1 (q0 s q1 d n : Nat) (RU : sy_RT) (B D l : List Nat) : List Nat := List.rec B (fun k _ ih => @Bool.rec (fun _ => List Nat) (k :: ih) ih (sy_cpd q0 s q1 d n RU D k)) l
noncomputable def sy_tcr (q0 s q1 d n len : Nat) (RU : sy_RT) (D : List Nat) : List Nat := sy_tcr1 q0 s q1 d n RU (sy_dfl (sy_touch q1 0 len RU []) D) D (sy_touch q1 0 len RU [])
theorem sy_tcr1_no {q0 s q1 d n : Nat} {RU : sy_RT} {B D : List Nat} {i : Nat} : ∀ {l : List Nat}, i ∉ sy_tcr1 q0 s q1 d n RU B D l → i ∉ B ∧ (i ∈ l → sy_cpd q0 s q1 d n RU D i = true)
  | [], h => ⟨h, fun z => by cases z⟩
  | k :: l, h => by
    have h2 : i ∉ (@Bool.rec (fun _ => List Nat) (k :: sy_tcr1 q0 s q1 d n RU B D l) (sy_tcr1 q0 s q1 d n RU B D l) (sy_cpd q0 s q1 d n RU D k)) := h
    cases hb : sy_cpd q0 s q1 d n RU D k with
    | true =>
      rw [hb] at h2
      obtain ⟨h3, h4⟩ := sy_tcr1_no h2
      refine ⟨h3, fun z => ?_⟩
      rcases List.mem_cons.mp z with e | e
      · rw [e]; exact hb
      · exact h4 e
    | false =>
      rw [hb] at h2
      obtain ⟨h3, h4⟩ := sy_tcr1_no (fun z => h2 (List.mem_cons_of_mem _ z))
      refine ⟨h3, fun z => ?_⟩
      rcases List.mem_cons.mp z with e | e
      · exact absurd (by rw [e]; exact List.mem_cons_self) h2
      · exact h4 e
theorem sy_tcr_ru {RU : sy_RT} {q0 s q1 d n len : Nat} {D : List Nat} {w w' : List ri_E} (hd : sy_ru RU D w) (hb : sy_but w w' q1 0 len) (hm : ∀ x : Nat × Nat, sy_wv w' x.1 x.2 = sy_wv w (sy_mp q0 s q1 d n x).1 (sy_mp q0 s q1 d n x).2) : sy_ru RU (sy_tcr q0 s q1 d n len RU D) w' := by
  refine ⟨hd.1, ?_⟩
  intro i r hr hi
  obtain ⟨h1, h2⟩ := sy_tcr1_no hi
  by_cases h3 : i ∈ sy_touch q1 0 len RU []
  · have h4 := h2 h3
    unfold sy_cpd at h4
    rw [hr] at h4
    obtain ⟨j, g1, g2⟩ := sy_prt_ok h4
    intro c hc
    obtain ⟨p, hp, h5⟩ := hd.2 j _ g1 g2 c hc
    refine ⟨p, hp, ?_⟩
    have e : sy_rv w' r.1 = sy_rv w (r.1.map (sy_mp q0 s q1 d n)) := by
      funext k
      unfold sy_rv
      rw [List.getElem?_map]
      cases hk : r.1[k]? with
      | none => rfl
      | some y =>
        dsimp only [Option.map_some]
        unfold sy_nv
        rw [hm y]
    rw [e]; exact h5
  · have hD : i ∉ D := by
      rcases sy_dfl_no h1 with h4 | h4
      · exact absurd h4 h3
      · exact h4
    obtain ⟨-, h5⟩ := sy_touch_no h3
    intro c hc
    obtain ⟨p, hp, h4⟩ := hd.2 i r hr hD c hc
    refine ⟨p, hp, ?_⟩
    have e : sy_rv w' r.1 = sy_rv w r.1 := by
      funext k
      unfold sy_rv
      cases hk : r.1[k]? with
      | none => rfl
      | some y =>
        dsimp only
        unfold sy_nv
        have hx := hd.1 i r hr y (List.mem_of_getElem? hk)
        rw [hb y.1 y.2 (fun z => h5 y.2 z.2.1 z.2.2 (by rw [← z.1]; exact hx))]
    rw [e]; exact h4
noncomputable def sy_cpl (T : Nat → Option sy_C) (RU : sy_RT) (tyL : List FieldType) (nL ix : Nat) (cur : List ri_Op) (pc : Nat) (lv : sy_L) (st : List sy_V) (H : sy_H) (D : List Nat) (ks : List Nat) : Option (Nat × sy_L × Nat × sy_H × List Nat) := match ks, st with
  | [v, ca, fd, fs, ie], [] => (match sy_cpv v lv with
    | some q => (match T q with
      | some c => (match sy_fr c fd, sy_fr c fs with
        | some d, some s => (match T d, T s with
          | some cd, some cs => bif ((c.1 && Nat.beq c.2.1 ca) && (sy_cps v pc ca fd fs ix ie cur && (Nat.blt v nL && !(Nat.beq 0 v)))) && (((!cd.1 && !cs.1) && (Nat.beq cd.2.2.1 585 && Nat.beq cs.2.2.1 585)) && ((sy_isL (ri_nth tyL cd.2.1) && sy_isL (ri_nth tyL cs.2.1)) && (!(Nat.beq d s) && (sy_feqs cs.2.2.2 cd.2.2.2 && sy_fsn cs.2.2.2)))) then some (ie, sy_s1 v (0, .inl 585, .inl 0) lv, d, sy_cpg s d H (sy_cph s d (sy_hdrop d 0 584 H) H), sy_tcr s 0 d 0 585 584 RU D) else none
          | _, _ => none)
        | _, _ => none)
      | none => none)
    | none => none)
  | _, _ => none
section SYZ
variable {E : sy_env} {T : Nat → Option sy_C} {RU : sy_RT} {ρ : List Int} {M : ri_M} {d2 bud2 nc ns fr : Nat} {P : ri_Out → Prop}
/-- how far the copy has come -/
def sy_cpw (T : Nat → Option sy_C) (w : List ri_E) (d s k : Nat) (wk : List ri_E) : Prop := wk.length = w.length ∧ sy_tw T wk ∧ ∀ q2 j2 : Nat, sy_wv wk q2 j2 = if q2 = d ∧ j2 < k then sy_wv w s j2 else sy_wv w q2 j2
theorem sy_cpw_step {w wk : List ri_E} {d s k : Nat} {cd cs : sy_C} (hs : T s = some cs) (hd : T d = some cd) (hds : d ≠ s) (hk : k < 585) (n1 : cd.2.2.1 = 585) (n2 : cs.2.2.1 = 585) (o1 : cd.1 = false) (o2 : cs.1 = false) (he : sy_feqs cs.2.2.2 cd.2.2.2 = true) (hln : sy_fsn cs.2.2.2 = true) (l1 : sy_isL (ri_nth E.2.2.2.1 cd.2.1) = true) (l2 : sy_isL (ri_nth E.2.2.2.1 cs.2.1) = true) (h : sy_cpw T w d s k wk) :
    ∃ v : Value, (∀ r : List Value, ri_ald E.2.2.2.1 ri_tL (.int (Int32.ofNat k) :: .ref s :: r) wk = some (v :: r)) ∧ ri_ast E.2.2.2.1 ri_gL [v, .int (Int32.ofNat k), .ref d] wk = some ([], sy_put wk d k v) ∧ sy_cpw T w d s (k + 1) (sy_put wk d k v) := by
  obtain ⟨h1, h2, h3⟩ := h
  obtain ⟨vs, g1, g2, g3⟩ := h2 s cs hs
  obtain ⟨us, f1, f2, f3⟩ := h2 d cd hd
  rw [o2] at g1
  rw [o1] at f1
  have g1' : wk[s]? = some (.inl (cs.2.1, vs)) := g1
  have f1' : wk[d]? = some (.inl (cd.2.1, us)) := f1
  have hlv : k < vs.length := by omega
  have hlu : k < us.length := by omega
  obtain ⟨e1, e2⟩ := sy_feqs_eq he (n2.trans n1.symm) k
  -- what is told of the place
  have hfs : ∃ f : sy_FS, sy_fs cs k = some f := by
    unfold sy_fs
    rw [show Nat.blt k cs.2.2.1 = true from Nat.ble_eq_true_of_le (by omega), cond_true]
    cases hx : cs.2.2.2 with
    | inl f => exact ⟨f, rfl⟩
    | inr l =>
      dsimp only
      rw [ri_nth_eq]
      rw [hx] at hln
      have hll : 585 ≤ l.length := Nat.le_of_ble_eq_true hln
      exact ⟨_, List.getElem?_eq_getElem (by omega)⟩
  obtain ⟨f, hf⟩ := hfs
  obtain ⟨v, g4, g5⟩ := g3 k f hf
  have hf1 : f.1 = 1 := e2 f hf
  have g5' := g5
  unfold sy_fv at g5'
  rw [hf1] at g5'
  obtain ⟨x, rfl, -⟩ := (g5' : ∃ x : Int64, v = .long x ∧ f.2.1 ≤ x.toInt ∧ x.toInt ≤ f.2.2)
  have hfd : sy_fs cd k = some f := by rw [← e1]; exact hf
  have hwv : sy_wv wk s k = some (.long x) := by unfold sy_wv; rw [g1']; exact g4
  have hwd : sy_wv wk d k = some us[k] := by unfold sy_wv; rw [f1']; exact List.getElem?_eq_getElem hlu
  refine ⟨.long x, ?_, ?_, ?_, sy_put_tw h2 hd hfd g5, ?_⟩
  · intro r
    unfold ri_ald
    dsimp only
    rw [ri_nth_eq wk, g1']
    dsimp only
    cases ht : ri_nth E.2.2.2.1 cs.2.1 with
    | none => rw [ht] at l2; cases l2
    | some ty =>
      rw [ht] at l2
      dsimp only
      have ety : ty = .long := by cases ty <;> first | rfl | cases l2
      subst ety
      rw [decide_eq_false (sy_kneg (by omega)), sy_knat (by omega), ri_nth_eq vs, g4]
      rfl
  · unfold ri_ast
    dsimp only
    rw [ri_nth_eq wk, f1']
    dsimp only
    cases ht : ri_nth E.2.2.2.1 cd.2.1 with
    | none => rw [ht] at l1; cases l1
    | some ty =>
      rw [ht] at l1
      dsimp only
      have ety : ty = .long := by cases ty <;> first | rfl | cases l1
      subst ety
      show ri_ok (!decide (Int32.ofNat k < 0)) (match ri_nth us (Int32.ofNat k).toNatClampNeg with
        | some _ => some (([] : List Value), ri_upd (.inl (cd.2.1, ri_upd (.long x) us (Int32.ofNat k).toNatClampNeg)) wk d)
        | none => none) = _
      rw [decide_eq_false (sy_kneg (by omega)), sy_knat (by omega), ri_nth_eq us, List.getElem?_eq_getElem hlu, ri_upd_eq, ri_upd_eq]
      unfold sy_put
      rw [f1']
      rfl
  · unfold sy_put
    rw [f1']
    show (wk.set d _).length = w.length
    rw [List.length_set]; exact h1
  · intro q2 j2
    rw [sy_put_wv hwd]
    by_cases c1 : q2 = d ∧ j2 = k
    · rw [if_pos c1, if_pos ⟨c1.1, by omega⟩, c1.2]
      have h4 := h3 s k
      rw [if_neg (fun z => hds z.1.symm)] at h4
      rw [← h4]; exact hwv.symm
    · rw [if_neg c1, h3 q2 j2]
      by_cases c2 : q2 = d ∧ j2 < k
      · rw [if_pos c2, if_pos ⟨c2.1, by omega⟩]
      · rw [if_neg c2, if_neg (fun z => by
          by_cases c3 : j2 = k
          · exact c1 ⟨z.1, c3⟩
          · exact c2 ⟨z.1, by omega⟩)]
theorem sy_fil_put {f : Nat × sy_V → Bool} {x : Nat × sy_V} : ∀ {lv : sy_L}, x ∈ lv → f x = true → x ∈ sy_fil f lv
  | [], h, _ => by cases h
  | y :: lv, h, hf => by
    show x ∈ (@Bool.rec (fun _ => sy_L) (sy_fil f lv) (y :: sy_fil f lv) (f y))
    rcases List.mem_cons.mp h with rfl | h2
    · rw [hf]; exact List.mem_cons_self
    · cases f y with
      | true => exact List.mem_cons_of_mem _ (sy_fil_put h2 hf)
      | false => exact sy_fil_put h2 hf
/-- the locals behind a round -/
theorem sy_cplv {i : Nat} {lv : sy_L} {lvc : ri_L} {v : Value} (h : sy_lv ρ (sy_fil (sy_f1 i) lv) lvc) : sy_lv ρ (sy_fil (sy_f1 i) lv) (ri_s1 i v lvc) ∧ ri_get i (ri_s1 i v lvc) = some v := by
  refine ⟨?_, ?_⟩
  · intro x hx
    obtain ⟨u, h3, h4⟩ := h x hx
    obtain ⟨h1, h2⟩ := sy_fil_mem hx
    refine ⟨u, ?_, h4⟩
    have e : ri_f1 i (x.1, u) = sy_f1 i x := by
      show (!(x.1 == i) && !(x.1 + 1 == i && u.category == 2)) = _
      rw [sy_is_cat h4, sy_nb, sy_nb, sy_nb]; rfl
    have hne : Nat.beq i x.1 = false := by
      cases hb : Nat.beq i x.1 with
      | false => rfl
      | true =>
        have e9 := sy_nbt hb
        have h2' : (!(Nat.beq x.1 i) && !(Nat.beq (x.1 + 1) i && Nat.beq (sy_cat x.2) 2)) = true := h2
        rw [← e9, show Nat.beq i i = true by rw [Nat.beq_eq]] at h2'
        cases h2'
    show (@Bool.rec (fun _ => Option Value) (ri_get x.1 (lvc.filter (ri_f1 i))) (some v) (Nat.beq i x.1)) = some u
    rw [hne]
    exact sy_get_fil (by rw [e]; exact h2) h3
  · show (@Bool.rec (fun _ => Option Value) (ri_get i (lvc.filter (ri_f1 i))) (some v) (Nat.beq i i)) = some v
    rw [show Nat.beq i i = true by rw [Nat.beq_eq]]
theorem sy_ev_tk {κ : Nat} {i : Instr} {a b : Nat} {u : Value} {ts : List Nat} {nxt : List ri_Op} {pc : Nat} {lvc : ri_L} {st : List Value} {w : List ri_E} {l2 : ri_L} {s2 : List Value} {j p2 : Nat} {cur2 : List ri_Op} (hz : ri_pure M.2.2.1 i pc lvc st = some (j, p2, l2, s2)) (hn : ri_next M nxt ts j = cur2) (hκ : κ = 0 ∨ (κ = 17 ∧ ri_conc a st = true)) (h : sy_Ev E d2 bud2 M cur2 p2 l2 s2 w nc ns fr P) : sy_Ev E d2 bud2 M ((pc, κ, i, a, b, u, ts) :: nxt) pc lvc st w nc ns fr P := by
  rcases hκ with rfl | ⟨rfl, hc⟩
  · exact sy_ev0 hz (by rw [hn]; exact h)
  · exact sy_ev17 hc hz (by rw [hn]; exact h)
theorem sy_cpl_ok {ix : Nat} {cur : List ri_Op} {pc : Nat} {lv lv' : sy_L} {st : List sy_V} {H H' : sy_H} {D D' : List Nat} {ks : List Nat} {ie dd : Nat} (h : sy_cpl T RU E.2.2.2.1 M.2.2.1 ix cur pc lv st H D ks = some (ie, lv', dd, H', D')) (hcur : cur = M.2.2.2.2.2.drop ix) {lvc : ri_L} {stc : List Value} {w : List ri_E} (hlv : sy_lv ρ lv lvc) (hst : sy_st ρ st stc) (ht : sy_tw T w) (hh : sy_hok ρ H w) (hd : sy_ru RU D w)
    (hgo : ∀ (lvz : ri_L) (w' : List ri_E), sy_lv ρ lv' lvz → w'.length = w.length → sy_tw T w' → sy_but w w' dd 0 584 → sy_hok ρ H' w' → sy_ru RU D' w' → sy_Ev E d2 bud2 M (M.2.2.2.2.2.drop ie) (pc + 25) lvz [] w' nc ns fr P) :
    sy_Ev E d2 bud2 M cur pc lvc stc w nc ns fr P := by
  unfold sy_cpl at h
  split at h
  · rename_i vl ca fd fs ie0
    rw [sy_st_nil hst]
    split at h
    · rename_i q hq
      split at h
      · rename_i c hc
        split at h
        · rename_i d s hfd hfs
          split at h
          · rename_i cd cs hcd hcs
            cases hb : (((c.1 && Nat.beq c.2.1 ca) && (sy_cps vl pc ca fd fs ix ie0 cur && (Nat.blt vl M.2.2.1 && !(Nat.beq 0 vl)))) && (((!cd.1 && !cs.1) && (Nat.beq cd.2.2.1 585 && Nat.beq cs.2.2.1 585)) && ((sy_isL (ri_nth E.2.2.2.1 cd.2.1) && sy_isL (ri_nth E.2.2.2.1 cs.2.1)) && (!(Nat.beq d s) && (sy_feqs cs.2.2.2 cd.2.2.2 && sy_fsn cs.2.2.2))))) with
            | false => rw [hb] at h; cases h
            | true =>
              rw [hb, cond_true] at h
              cases h
              rw [Bool.and_eq_true, Bool.and_eq_true] at hb
              obtain ⟨⟨hobj, hb1⟩, hb2⟩ := hb
              simp only [Bool.and_eq_true] at hb1 hb2
              obtain ⟨hpat, hnL, hv0⟩ := hb1
              obtain ⟨⟨⟨o1, o2⟩, n1, n2⟩, ⟨l1, l2⟩, hds, he, hln⟩ := hb2
              have o1' : cd.1 = false := by simpa using o1
              have o2' : cs.1 = false := by simpa using o2
              have n1' : cd.2.2.1 = 585 := sy_nbt n1
              have n2' : cs.2.2.1 = 585 := sy_nbt n2
              have hds' : dd ≠ s := by
                intro e
                rw [e, show Nat.beq s s = true by rw [Nat.beq_eq]] at hds
                cases hds
              -- locals
              have hloc : ∃ k0 : Nat, k0 = 0 ∧ ri_get 0 lvc = some (.ref q) ∧ ri_get vl lvc = some (.int (Int32.ofNat 0)) ∧ ∃ a : sy_V, sy_get 0 lv = some a ∧ a.1 = 3 ∧ a.2.1 = .inr q := by
                unfold sy_cpv at hq
                split at hq
                · rename_i a b ha hb3
                  cases hz : ((Nat.beq a.1 3 && Nat.beq b.1 0) && sy_is0 b.2.1) with
                  | false => rw [hz] at hq; cases hq
                  | true =>
                    rw [hz, cond_true] at hq
                    rw [Bool.and_eq_true, Bool.and_eq_true] at hz
                    obtain ⟨⟨z1, z2⟩, z3⟩ := hz
                    split at hq
                    · rename_i q9 hq9
                      cases hq
                      obtain ⟨v0, g1, g2⟩ := sy_get_ok hlv ha
                      obtain ⟨v1, f1, f2⟩ := sy_get_ok hlv hb3
                      obtain ⟨t, e, e2⟩ := a
                      obtain ⟨t1, e1, e3⟩ := b
                      have y1 : t = 3 := sy_nbt z1
                      have y2 : t1 = 0 := sy_nbt z2
                      subst y1; subst y2
                      obtain ⟨q8, rfl, hq8⟩ := (g2 : ∃ q : Nat, v0 = .ref q ∧ e = .inr q)
                      have e5 : e = .inr q := hq9
                      rw [e5] at hq8
                      cases hq8
                      obtain ⟨x, rfl, hx⟩ := (f2 : ∃ x : Int32, v1 = .int x ∧ sy_ev ρ e1 = some x.toInt)
                      have hx0 := sy_is0_ok z3 hx
                      have hx1 : x = Int32.ofNat 0 := Int32.toInt_inj.mp hx0
                      exact ⟨0, rfl, g1, by rw [f1, hx1], _, ha, rfl, e5⟩
                    · cases hq
                · cases hq
              obtain ⟨-, -, g0, g1, a0, ha0, ha1, ha2⟩ := hloc
              have hgetd := fun (wk : List ri_E) (hk : sy_tw T wk) (r : List Value) => sy_fr_ok hk hc hobj hfd r
              have hgets := fun (wk : List ri_E) (hk : sy_tw T wk) (r : List Value) => sy_fr_ok hk hc hobj hfs r
              -- this stays in its place
              have h0mem : (0, a0) ∈ sy_fil (sy_f1 vl) lv := by
                have hm := sy_get_mem ha0
                have hf : sy_f1 vl (0, a0) = true := by
                  obtain ⟨t, e, e2⟩ := a0
                  have y1 : t = 3 := ha1
                  subst y1
                  show (!(Nat.beq 0 vl) && !(Nat.beq (0 + 1) vl && Nat.beq 1 2)) = true
                  rw [hv0, show Nat.beq 1 2 = false from rfl, Bool.and_false]
                  rfl
                exact sy_fil_put hm hf
              have hl0 : ∀ lvk : ri_L, sy_lv ρ (sy_fil (sy_f1 vl) lv) lvk → ri_get 0 lvk = some (.ref q) := by
                intro lvk hk
                obtain ⟨v, v1, v2⟩ := hk _ h0mem
                obtain ⟨t, e, e2⟩ := a0
                have y1 : t = 3 := ha1
                subst y1
                obtain ⟨q8, rfl, hq8⟩ := (v2 : ∃ q : Nat, v = .ref q ∧ e = .inr q)
                have e5 : e = .inr q := ha2
                rw [e5] at hq8
                cases hq8
                exact v1
              have hfil : sy_lv ρ (sy_fil (sy_f1 vl) lv) lvc := fun x hx => hlv x (sy_fil_mem hx).1
              unfold sy_cps at hpat
              split at hpat
              · rename_i z0 z1 z2 z3 z4 z5 z6 z7 z8 z9 z10 z11 z12 rest
                simp only [Bool.and_eq_true] at hpat
                obtain ⟨p0, p1, p2, p3, p4, p5, p6, p7, p8, p9, p10, p11, p12⟩ := hpat
                obtain ⟨j0, a00, b00, u00, t00, rfl, y0⟩ := sy_oil_eq p0
                obtain ⟨a01, b01, u01, t01, rfl⟩ := sy_osi_eq p1
                obtain ⟨b02, u02, rfl⟩ := sy_ocg_eq p2
                obtain ⟨j3, a03, b03, u03, t03, rfl, y3⟩ := sy_oal_eq p3
                obtain ⟨i04, u04, t04, rfl⟩ := sy_ogf_eq p4
                obtain ⟨j5, a05, b05, u05, t05, rfl, y5⟩ := sy_oil_eq p5
                obtain ⟨j6, a06, b06, u06, t06, rfl, y6⟩ := sy_oal_eq p6
                obtain ⟨i07, u07, t07, rfl⟩ := sy_ogf_eq p7
                obtain ⟨j8, a08, b08, u08, t08, rfl, y8⟩ := sy_oil_eq p8
                obtain ⟨i09, a09, b09, u09, t09, rfl⟩ := sy_okk_eq p9
                obtain ⟨i10, a10, b10, u10, t10, rfl⟩ := sy_okk_eq p10
                obtain ⟨a11, b11, u11, t11, rfl⟩ := sy_oii_eq p11
                obtain ⟨a12, b12, u12, rfl⟩ := sy_ogo_eq p12
                have iv : ∀ (j : Fin 4) (v : Nat) (p : Nat) (lvk : ri_L) (sk : List Value) (x : Int32), j.val = v → ri_get v lvk = some (.int x) → ri_pure M.2.2.1 (.iload_n j) p lvk sk = some (0, p + 1, lvk, .int x :: sk) := by
                  intro j v p lvk sk x hj hx
                  show ri_gv (ri_get j.val lvk) (fun v => some (0, p + 1, lvk, v :: sk)) = _
                  rw [hj, hx]; rfl
                have av : ∀ (j : Fin 4) (v : Nat) (p : Nat) (lvk : ri_L) (sk : List Value) (x : Nat), j.val = v → ri_get v lvk = some (.ref x) → ri_pure M.2.2.1 (.aload_n j) p lvk sk = some (0, p + 1, lvk, .ref x :: sk) := by
                  intro j v p lvk sk x hj hx
                  show ri_gr (ri_get j.val lvk) (fun x => some (0, p + 1, lvk, .ref x :: sk)) (some (0, p + 1, lvk, .null :: sk)) = _
                  rw [hj, hx]; rfl
                have loop : ∀ (r k : Nat) (lvk : ri_L) (wk : List ri_E), k + r = 585 → sy_lv ρ (sy_fil (sy_f1 vl) lv) lvk → ri_get vl lvk = some (.int (Int32.ofNat k)) → sy_cpw T w dd s k wk → sy_Ev E d2 bud2 M (M.2.2.2.2.2.drop ix) pc lvk [] wk nc ns fr P := by
                  intro r
                  induction r with
                  | zero =>
                    intro k lvk wk hkr hl hg hw
                    have hk9 : k = 585 := by omega
                    subst hk9
                    rw [← hcur]
                    refine sy_ev_tk (iv j0 vl pc lvk [] _ y0 hg) rfl (Or.inl rfl) ?_
                    refine sy_ev_tk (j := 0) (p2 := pc + 1 + 3) (l2 := lvk) (s2 := [.int 585, .int (Int32.ofNat 585)]) (by show some (0, pc + 1 + 3, lvk, [Value.int (Int16.ofInt 585).toInt32, .int (Int32.ofNat 585)]) = _; rw [sy_c585]) rfl (Or.inl rfl) ?_
                    refine sy_ev_tk (j := 1) (p2 := pc + 25) (l2 := lvk) (s2 := []) (cur2 := M.2.2.2.2.2.drop ie) ?_ (by show ri_drop M.2.2.2.2.2 ie = _; exact ri_drop_eq _ _) (Or.inr ⟨rfl, rfl⟩) ?_
                    · show ri_br (ri_cnd .ge (Int32.ofNat 585) 585) (pc + 4) 21 (pc + 4 + 3) lvk [] = _
                      rw [sy_kge2]
                      unfold ri_br
                      have e : ((pc + 4 : Nat) : Int) + 21 = Int.ofNat (pc + 25) := by show _ = ((pc + 25 : Nat) : Int); omega
                      rw [e]; rfl
                    · obtain ⟨w1, w2, w3⟩ := hw
                      have but : sy_but w wk dd 0 584 := by
                        intro q2 j2 hn
                        rw [w3 q2 j2, if_neg (fun z => hn ⟨z.1, Nat.zero_le _, by omega⟩)]
                      refine hgo lvk wk ?_ w1 w2 but ?_ (sy_tcr_ru hd but ?_)
                      · intro x hx
                        rcases List.mem_cons.mp hx with rfl | hx
                        · exact ⟨_, hg, _, rfl, rfl⟩
                        · exact hl x hx
                      · refine sy_cpg_ok hh ?_ w3
                        intro y hy
                        rcases sy_cph_mem hy with hy | ⟨x, hx, x1, x2, x3, rfl⟩
                        · exact sy_but_hok hh but y hy
                        · rcases hh x hx with ⟨v, v1, v2⟩ | ⟨v1, -⟩ | ⟨v1, -⟩
                          · refine Or.inl ⟨v, ?_, v2⟩
                            show sy_wv wk dd x.1.2 = some v
                            rw [w3 dd x.1.2, if_pos ⟨rfl, x2⟩, ← x1]
                            exact v1
                          · omega
                          · omega
                      · intro x
                        obtain ⟨x1, x2⟩ := x
                        rw [w3 x1 x2]
                        unfold sy_mp
                        by_cases hx : x1 = dd ∧ x2 < 585
                        · rw [if_pos hx, hx.1, show (Nat.beq (dd, x2).1 dd && (Nat.ble 0 (dd, x2).2 && Nat.blt (dd, x2).2 (0 + 585))) = true by rw [Bool.and_eq_true, Bool.and_eq_true]; exact ⟨by rw [Nat.beq_eq], Nat.ble_eq_true_of_le (Nat.zero_le _), Nat.ble_eq_true_of_le (by show x2 + 1 ≤ 0 + 585; omega)⟩, cond_true]
                          show sy_wv w s x2 = sy_wv w s (0 + (x2 - 0))
                          rw [show 0 + (x2 - 0) = x2 by omega]
                        · have hf : (Nat.beq (x1, x2).1 dd && (Nat.ble 0 (x1, x2).2 && Nat.blt (x1, x2).2 (0 + 585))) = false := by
                            cases hz : (Nat.beq (x1, x2).1 dd && (Nat.ble 0 (x1, x2).2 && Nat.blt (x1, x2).2 (0 + 585))) with
                            | false => rfl
                            | true =>
                              rw [Bool.and_eq_true, Bool.and_eq_true] at hz
                              have e7 : x2 + 1 ≤ 0 + 585 := Nat.le_of_ble_eq_true hz.2.2
                              exact absurd ⟨sy_nbt hz.1, by omega⟩ hx
                          rw [if_neg hx, hf, cond_false]
                  | succ r ih =>
                    intro k lvk wk hkr hl hg hw
                    have hk9 : k < 585 := by omega
                    obtain ⟨v, e1, e2, e3⟩ := sy_cpw_step (E := E) hcs hcd hds' hk9 n1' n2' o1' o2' he hln l1 l2 hw
                    have hg0 := hl0 lvk hl
                    obtain ⟨hl2, hg2⟩ := sy_cplv (v := .int (Int32.ofNat (k + 1))) hl
                    have next := ih (k + 1) (ri_s1 vl (.int (Int32.ofNat (k + 1))) lvk) (sy_put wk dd k v) (by omega) hl2 hg2 e3
                    rw [← hcur]
                    refine sy_ev_tk (iv j0 vl pc lvk [] _ y0 hg) rfl (Or.inl rfl) ?_
                    refine sy_ev_tk (j := 0) (p2 := pc + 1 + 3) (l2 := lvk) (s2 := [.int 585, .int (Int32.ofNat k)]) (by show some (0, pc + 1 + 3, lvk, [Value.int (Int16.ofInt 585).toInt32, .int (Int32.ofNat k)]) = _; rw [sy_c585]) rfl (Or.inl rfl) ?_
                    refine sy_ev_tk (j := 0) (p2 := pc + 7) (l2 := lvk) (s2 := []) ?_ rfl (Or.inr ⟨rfl, rfl⟩) ?_
                    · show ri_br (ri_cnd .ge (Int32.ofNat k) 585) (pc + 4) 21 (pc + 4 + 3) lvk [] = _
                      rw [sy_kge hk9]
                      unfold ri_br
                      have e : ((pc + 4 : Nat) : Int) + 21 = Int.ofNat (pc + 25) := by show _ = ((pc + 25 : Nat) : Int); omega
                      rw [e]; rfl
                    refine sy_ev_tk (av j3 0 (pc + 7) lvk [] _ y3 hg0) rfl (Or.inl rfl) ?_
                    refine sy_ev1 (hgetd wk hw.2.1 []) ?_
                    refine sy_ev_tk (iv j5 vl (pc + 11) lvk _ _ y5 hg) rfl (Or.inl rfl) ?_
                    refine sy_ev_tk (av j6 0 (pc + 12) lvk _ _ y6 hg0) rfl (Or.inl rfl) ?_
                    refine sy_ev1 (hgets wk hw.2.1 _) ?_
                    refine sy_ev_tk (iv j8 vl (pc + 16) lvk _ _ y8 hg) rfl (Or.inl rfl) ?_
                    refine sy_evL (κ := 7) rfl (e1 _) ?_
                    refine sy_evS (κ := 8) (g := (ri_gL, ri_tL)) rfl (fun z => by cases z) e2 ?_
                    refine sy_ev_tk (j := 0) (p2 := pc + 22) (l2 := ri_s1 vl (.int (Int32.ofNat (k + 1))) lvk) (s2 := []) ?_ rfl (Or.inl rfl) ?_
                    · show ri_gi (ri_get vl lvk) (fun x => ri_ok (Nat.blt vl M.2.2.1) (some (0, pc + 19 + 3, ri_s1 vl (.int (x + Int32.ofInt 1)) lvk, []))) = _
                      rw [hg]
                      show ri_ok (Nat.blt vl M.2.2.1) (some (0, pc + 19 + 3, ri_s1 vl (.int (Int32.ofNat k + Int32.ofInt 1)) lvk, [])) = _
                      rw [hnL, sy_ksuc hk9]
                      rfl
                    refine sy_ev_tk (j := 1) (p2 := pc) (l2 := ri_s1 vl (.int (Int32.ofNat (k + 1))) lvk) (s2 := []) (cur2 := M.2.2.2.2.2.drop ix) ?_ (by show ri_drop M.2.2.2.2.2 ix = _; exact ri_drop_eq _ _) (Or.inl rfl) next
                    show ri_tg (pc + 22) (-22) 1 _ [] = _
                    unfold ri_tg
                    have e : ((pc + 22 : Nat) : Int) + -22 = Int.ofNat pc := by show _ = (pc : Int); omega
                    rw [e]
                rw [hcur]
                refine loop 585 0 lvc w rfl hfil g1 ⟨rfl, ht, fun q2 j2 => by rw [if_neg (fun z => Nat.not_lt_zero _ z.2)]⟩
              · cases hpat
          · cases h
        · cases h
      · cases h
    · cases h
  · cases h
end SYZ
