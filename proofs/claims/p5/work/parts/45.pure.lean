/-! ===== the surveyor, part 5: instructions that touch no heap ===== -/
/-- what an instruction may leave: which target, its pc, locals, stack, what is known -/
abbrev sy_O : Type := Nat × Nat × sy_L × List sy_V × sy_K
def sy_cov (ρ : List Int) (L : List sy_O) (r : Option ri_R) : Prop := ∃ o ∈ L, ∃ (m : List Int) (lz : ri_L) (sz : List Value), r = some (o.1, o.2.1, lz, sz) ∧ sy_lv (m ++ ρ) o.2.2.1 lz ∧ sy_st (m ++ ρ) o.2.2.2.1 sz ∧ sy_ok (m ++ ρ) o.2.2.2.2
def sy_one (pc : Nat) (lv : sy_L) (st : List sy_V) (K : sy_K) : Option (List sy_O) := some [(0, pc, lv, st, K)]
def sy_go1 (o : Option (sy_V × sy_K)) (pc : Nat) (lv : sy_L) (r : List sy_V) : Option (List sy_O) := match o with
  | some z => some [(0, pc, lv, z.1 :: r, z.2)]
  | none => none
noncomputable def sy_q1 {α : Type} (t : Nat) (st : List sy_V) (f : sy_E → List sy_V → Option α) : Option α := match st with
  | a :: r => bif Nat.beq a.1 t then f a.2.1 r else none
  | [] => none
noncomputable def sy_g1 {α : Type} (t : Nat) (o : Option sy_V) (f : sy_E → Option α) : Option α := match o with
  | some a => bif Nat.beq a.1 t then f a.2.1 else none
  | none => none
/-- a reference or null -/
noncomputable def sy_gr {α : Type} (o : Option sy_V) (f : sy_V → Option α) : Option α := match o with
  | some a => bif Nat.beq a.1 3 || Nat.beq a.1 4 then f a else none
  | none => none
noncomputable def sy_qr {α : Type} (st : List sy_V) (f : sy_V → List sy_V → Option α) : Option α := match st with
  | a :: r => bif Nat.beq a.1 3 || Nat.beq a.1 4 then f a r else none
  | [] => none
/-- a double -/
noncomputable def sy_gd {α : Type} (o : Option sy_V) (f : sy_V → Option α) : Option α := match o with
  | some a => bif Nat.beq a.1 2 then f a else none
  | none => none
noncomputable def sy_qd {α : Type} (st : List sy_V) (f : sy_V → List sy_V → Option α) : Option α := match st with
  | a :: r => bif Nat.beq a.1 2 then f a r else none
  | [] => none
noncomputable def sy_c1 {α : Type} (st : List sy_V) (f : sy_V → List sy_V → Option α) : Option α := match st with
  | a :: r => bif Nat.beq (sy_cat a) 1 then f a r else none
  | [] => none
section SYQ
variable {α : Type} {ρ : List Int} {st : List sy_V} {stc : List Value} {L : α}
theorem sy_q1_eq {t : Nat} {f : sy_E → List sy_V → Option α} (h : sy_q1 t st f = some L) : ∃ (e e2 : sy_E) (r : List sy_V), st = (t, e, e2) :: r ∧ f e r = some L := by
  unfold sy_q1 at h
  split at h
  · rename_i a r
    obtain ⟨t9, e, e2⟩ := a
    cases hb : Nat.beq t9 t with
    | true =>
      have h2 : (bif Nat.beq t9 t then f e r else none) = some L := h
      rw [hb, cond_true] at h2
      rw [Nat.eq_of_beq_eq_true hb]
      exact ⟨e, e2, r, rfl, h2⟩
    | false =>
      have h2 : (bif Nat.beq t9 t then f e r else none) = some L := h
      rw [hb] at h2; cases h2
  · cases h
theorem sy_int_top {f : sy_E → List sy_V → Option α} (h : sy_q1 0 st f = some L) (hs : sy_st ρ st stc) : ∃ (e : sy_E) (r : List sy_V) (x : Int32) (rc : List Value), f e r = some L ∧ stc = .int x :: rc ∧ sy_ev ρ e = some x.toInt ∧ sy_st ρ r rc := by
  obtain ⟨e, e2, r, rfl, h2⟩ := sy_q1_eq h
  obtain ⟨v, rc, rfl, hv, hr⟩ := sy_st_cons hs
  obtain ⟨x, rfl, hx⟩ := sy_is_int hv
  exact ⟨e, r, x, rc, h2, rfl, hx, hr⟩
theorem sy_long_top {f : sy_E → List sy_V → Option α} (h : sy_q1 1 st f = some L) (hs : sy_st ρ st stc) : ∃ (e : sy_E) (r : List sy_V) (x : Int64) (rc : List Value), f e r = some L ∧ stc = .long x :: rc ∧ sy_ev ρ e = some x.toInt ∧ sy_st ρ r rc := by
  obtain ⟨e, e2, r, rfl, h2⟩ := sy_q1_eq h
  obtain ⟨v, rc, rfl, hv, hr⟩ := sy_st_cons hs
  obtain ⟨x, rfl, hx⟩ := sy_is_long hv
  exact ⟨e, r, x, rc, h2, rfl, hx, hr⟩
theorem sy_dbl_top {f : sy_E → List sy_V → Option α} (h : sy_q1 2 st f = some L) (hs : sy_st ρ st stc) : ∃ (e : sy_E) (r : List sy_V) (x : UInt64) (k : Int) (rc : List Value), f e r = some L ∧ stc = .double x :: rc ∧ sy_ev ρ e = some k ∧ sy_db k x ∧ sy_st ρ r rc := by
  obtain ⟨e, e2, r, rfl, h2⟩ := sy_q1_eq h
  obtain ⟨v, rc, rfl, hv, hr⟩ := sy_st_cons hs
  obtain ⟨x, k, rfl, hx, hd⟩ := (hv : ∃ (x : UInt64) (k : Int), v = .double x ∧ sy_ev ρ e = some k ∧ sy_dx e2 k x)
  exact ⟨e, r, x, k, rc, h2, rfl, hx, hd.1, hr⟩
theorem sy_g1_eq {t : Nat} {o : Option sy_V} {f : sy_E → Option α} (h : sy_g1 t o f = some L) : ∃ e e2 : sy_E, o = some (t, e, e2) ∧ f e = some L := by
  unfold sy_g1 at h
  split at h
  · rename_i a
    obtain ⟨t9, e, e2⟩ := a
    have h2 : (bif Nat.beq t9 t then f e else none) = some L := h
    cases hb : Nat.beq t9 t with
    | true =>
      rw [hb, cond_true] at h2
      rw [Nat.eq_of_beq_eq_true hb]
      exact ⟨e, e2, rfl, h2⟩
    | false => rw [hb] at h2; cases h2
  · cases h
theorem sy_ref_is {a : sy_V} {v : Value} (h : (Nat.beq a.1 3 || Nat.beq a.1 4) = true) (hv : sy_is ρ a v) : (∃ q : Nat, v = .ref q) ∨ v = .null := by
  obtain ⟨t, e, e2⟩ := a
  rw [Bool.or_eq_true] at h
  rcases h with h | h
  · have e9 : t = 3 := Nat.eq_of_beq_eq_true h
    subst e9
    obtain ⟨q, rfl, -⟩ := (hv : ∃ q : Nat, v = .ref q ∧ e = .inr q)
    exact Or.inl ⟨q, rfl⟩
  · have e9 : t = 4 := Nat.eq_of_beq_eq_true h
    subst e9
    exact Or.inr hv
theorem sy_gr_eq {o : Option sy_V} {f : sy_V → Option α} (h : sy_gr o f = some L) : ∃ a : sy_V, o = some a ∧ (Nat.beq a.1 3 || Nat.beq a.1 4) = true ∧ f a = some L := by
  unfold sy_gr at h
  split at h
  · rename_i a
    cases hb : (Nat.beq a.1 3 || Nat.beq a.1 4) with
    | true => rw [hb, cond_true] at h; exact ⟨a, rfl, hb, h⟩
    | false => rw [hb] at h; cases h
  · cases h
theorem sy_qr_eq {f : sy_V → List sy_V → Option α} (h : sy_qr st f = some L) : ∃ (a : sy_V) (r : List sy_V), st = a :: r ∧ (Nat.beq a.1 3 || Nat.beq a.1 4) = true ∧ f a r = some L := by
  unfold sy_qr at h
  split at h
  · rename_i a r
    cases hb : (Nat.beq a.1 3 || Nat.beq a.1 4) with
    | true => rw [hb, cond_true] at h; exact ⟨a, r, rfl, hb, h⟩
    | false => rw [hb] at h; cases h
  · cases h
theorem sy_gd_eq {o : Option sy_V} {f : sy_V → Option α} (h : sy_gd o f = some L) : ∃ e e2 : sy_E, o = some (2, e, e2) ∧ f (2, e, e2) = some L := by
  unfold sy_gd at h
  split at h
  · rename_i a
    obtain ⟨t, e, e2⟩ := a
    cases hb : Nat.beq t 2 with
    | true =>
      dsimp only at h
      rw [hb, cond_true] at h
      rw [Nat.eq_of_beq_eq_true hb] at h ⊢
      exact ⟨e, e2, rfl, h⟩
    | false => dsimp only at h; rw [hb] at h; cases h
  · cases h
theorem sy_qd_top {f : sy_V → List sy_V → Option α} (h : sy_qd st f = some L) (hs : sy_st ρ st stc) : ∃ (e e2 : sy_E) (r : List sy_V) (x : UInt64) (k : Int) (rc : List Value), f (2, e, e2) r = some L ∧ stc = .double x :: rc ∧ sy_ev ρ e = some k ∧ sy_dx e2 k x ∧ sy_st ρ r rc := by
  unfold sy_qd at h
  split at h
  · rename_i a r
    obtain ⟨t, e, e2⟩ := a
    cases hb : Nat.beq t 2 with
    | true =>
      dsimp only at h
      rw [hb, cond_true] at h
      have e9 : t = 2 := Nat.eq_of_beq_eq_true hb
      subst e9
      obtain ⟨v, rc, rfl, hv, hr⟩ := sy_st_cons hs
      obtain ⟨x, k, rfl, hx, hd⟩ := (hv : ∃ (x : UInt64) (k : Int), v = .double x ∧ sy_ev ρ e = some k ∧ sy_dx e2 k x)
      exact ⟨e, e2, r, x, k, rc, h, rfl, hx, hd, hr⟩
    | false => dsimp only at h; rw [hb] at h; cases h
  · cases h
theorem sy_c1_eq {f : sy_V → List sy_V → Option α} (h : sy_c1 st f = some L) : ∃ (a : sy_V) (r : List sy_V), st = a :: r ∧ Nat.beq (sy_cat a) 1 = true ∧ f a r = some L := by
  unfold sy_c1 at h
  split at h
  · rename_i a r
    cases hb : Nat.beq (sy_cat a) 1 with
    | true => rw [hb, cond_true] at h; exact ⟨a, r, rfl, hb, h⟩
    | false => rw [hb] at h; cases h
  · cases h
end SYQ
/-- an int against another: the targets -/
noncomputable def sy_br (c : Jvm.ClassFile.Cond) (a b : sy_E) (pc : Nat) (off : Int) (lv : sy_L) (r : List sy_V) (K : sy_K) : Option (List sy_O) := match (pc : Int) + off with
  | .ofNat t => some ((sy_alt c true a b K).map (fun K' => (1, t, lv, r, K')) ++ (sy_alt c false a b K).map (fun K' => (0, pc + 3, lv, r, K')))
  | .negSucc _ => none
def sy_tg (pc : Nat) (off : Int) (j : Nat) (lv : sy_L) (r : List sy_V) (K : sy_K) : Option (List sy_O) := match (pc : Int) + off with
  | .ofNat t => some [(j, t, lv, r, K)]
  | .negSucc _ => none
/-- a switch: the cases that the value may be -/
noncomputable def sy_cases (e : sy_E) (pc : Nat) (lo : Int) (lv : sy_L) (r : List sy_V) (K : sy_K) (offs : List Int) : Nat → Option (List sy_O) := List.rec (fun _ => some []) (fun off _ ih n => match ih (n + 1), (pc : Int) + off with
  | some rest, .ofNat t => some ((sy_ase e (.inl (lo + n)) K).toList.map (fun K' => (n + 2, t, lv, r, K')) ++ rest)
  | _, _ => none) offs
noncomputable def sy_switch (e : sy_E) (pc : Nat) (dflt lo hi : Int) (offs : List Int) (lv : sy_L) (r : List sy_V) (K : sy_K) : Option (List sy_O) := bif sy_le (hi - lo + 1) (Int.ofNat offs.length) then (match sy_cases e pc lo lv r K offs 0, (pc : Int) + dflt with
  | some rest, .ofNat t => some (((sy_asl e (.inl lo) (-1) K).toList ++ (sy_asl (.inl hi) e (-1) K).toList).map (fun K' => (1, t, lv, r, K')) ++ rest)
  | _, _ => none) else none
/-- the number 0 -/
def sy_is0 (e : sy_E) : Bool := match e with
  | .inl (.ofNat 0) => true
  | _ => false
theorem sy_is0_ok {ρ : List Int} {e : sy_E} {x : Int} (h : sy_is0 e = true) (hx : sy_ev ρ e = some x) : x = 0 := by
  unfold sy_is0 at h
  split at h
  · exact (Option.some.inj hx).symm
  · cases h
/-- a number that is known, be it by its range -/
noncomputable def sy_kc (K : sy_K) (e : sy_E) : Option Int := match sy_iv K e with
  | some r => bif sy_le r.2 r.1 then some r.1 else none
  | none => none
theorem sy_kc_ok {ρ : List Int} {K : sy_K} {e : sy_E} {c x : Int} (hk : sy_ok ρ K) (h : sy_kc K e = some c) (hx : sy_ev ρ e = some x) : c = x := by
  unfold sy_kc at h
  split at h
  · rename_i r hr
    cases hb : sy_le r.2 r.1 with
    | false => rw [hb] at h; cases h
    | true =>
      rw [hb, cond_true] at h
      cases h
      rw [sy_le_iff] at hb
      have b := sy_iv_ok hk hr hx
      omega
  · cases h
noncomputable def sy_pure (nL : Nat) (i : Instr) (pc : Nat) (lv : sy_L) (st : List sy_V) (K : sy_K) : Option (List sy_O) := match i with
  | .iconst n => sy_one (pc + 1) lv ((0, .inl (Int32.ofInt n).toInt, .inl 0) :: st) K
  | .bipush n => sy_one (pc + 2) lv ((0, .inl (Int8.ofInt n).toInt32.toInt, .inl 0) :: st) K
  | .sipush n => sy_one (pc + 3) lv ((0, .inl (Int16.ofInt n).toInt32.toInt, .inl 0) :: st) K
  | .lconst n => sy_one (pc + 1) lv ((1, .inl (Int64.ofNat (n : Nat)).toInt, .inl 0) :: st) K
  | .aconst_null => sy_one (pc + 1) lv ((4, .inl 0, .inl 0) :: st) K
  | .iload i => sy_g1 0 (sy_get i lv) (fun e => sy_one (pc + 2) lv ((0, e, .inl 0) :: st) K)
  | .iload_n i => sy_g1 0 (sy_get i.val lv) (fun e => sy_one (pc + 1) lv ((0, e, .inl 0) :: st) K)
  | .lload i => sy_g1 1 (sy_get i lv) (fun e => sy_one (pc + 2) lv ((1, e, .inl 0) :: st) K)
  | .lload_n i => sy_g1 1 (sy_get i.val lv) (fun e => sy_one (pc + 1) lv ((1, e, .inl 0) :: st) K)
  | .dload i => sy_gd (sy_get i lv) (fun a => sy_one (pc + 2) lv (a :: st) K)
  | .dload_n i => sy_gd (sy_get i.val lv) (fun a => sy_one (pc + 1) lv (a :: st) K)
  | .aload i => sy_gr (sy_get i lv) (fun a => sy_one (pc + 2) lv (a :: st) K)
  | .aload_n i => sy_gr (sy_get i.val lv) (fun a => sy_one (pc + 1) lv (a :: st) K)
  | .istore i => sy_q1 0 st (fun e r => ri_ok (Nat.blt i nL) (sy_one (pc + 2) (sy_s1 i (0, e, .inl 0) lv) r K))
  | .istore_n i => sy_q1 0 st (fun e r => ri_ok (Nat.blt i.val nL) (sy_one (pc + 1) (sy_s1 i.val (0, e, .inl 0) lv) r K))
  | .lstore i => sy_q1 1 st (fun e r => ri_ok (Nat.blt (i + 1) nL) (sy_one (pc + 2) (sy_s2 i (1, e, .inl 0) lv) r K))
  | .lstore_n i => sy_q1 1 st (fun e r => ri_ok (Nat.blt (i.val + 1) nL) (sy_one (pc + 1) (sy_s2 i.val (1, e, .inl 0) lv) r K))
  | .dstore i => sy_qd st (fun a r => ri_ok (Nat.blt (i + 1) nL) (sy_one (pc + 2) (sy_s2 i a lv) r K))
  | .dstore_n i => sy_qd st (fun a r => ri_ok (Nat.blt (i.val + 1) nL) (sy_one (pc + 1) (sy_s2 i.val a lv) r K))
  | .astore i => sy_qr st (fun a r => ri_ok (Nat.blt i nL) (sy_one (pc + 2) (sy_s1 i a lv) r K))
  | .astore_n i => sy_qr st (fun a r => ri_ok (Nat.blt i.val nL) (sy_one (pc + 1) (sy_s1 i.val a lv) r K))
  | .iinc i n => sy_g1 0 (sy_get i lv) (fun e => ri_ok (Nat.blt i nL) (match sy_add 0 e (.inl (Int32.ofInt n).toInt) K with
    | some z => sy_one (pc + 3) (sy_s1 i z.1 lv) st z.2
    | none => none))
  | .iadd => sy_q1 0 st (fun b r => sy_q1 0 r (fun a r => sy_go1 (sy_add 0 a b K) (pc + 1) lv r))
  | .isub => sy_q1 0 st (fun b r => sy_q1 0 r (fun a r => sy_go1 (sy_sub 0 a b K) (pc + 1) lv r))
  | .imul => sy_q1 0 st (fun b r => sy_q1 0 r (fun a r => sy_go1 (sy_mul2 0 a b K) (pc + 1) lv r))
  | .idiv => sy_q1 0 st (fun b r => sy_q1 0 r (fun a r => sy_go1 (sy_div 0 a b K) (pc + 1) lv r))
  | .irem => sy_q1 0 st (fun b r => sy_q1 0 r (fun a r => sy_go1 (sy_rem a b K) (pc + 1) lv r))
  | .ladd => sy_q1 1 st (fun b r => sy_q1 1 r (fun a r => sy_go1 (sy_add 1 a b K) (pc + 1) lv r))
  | .lsub => sy_q1 1 st (fun b r => sy_q1 1 r (fun a r => sy_go1 (sy_sub 1 a b K) (pc + 1) lv r))
  | .lmul => sy_q1 1 st (fun b r => sy_q1 1 r (fun a r => sy_go1 (sy_mul2 1 a b K) (pc + 1) lv r))
  | .ldiv => sy_q1 1 st (fun b r => sy_q1 1 r (fun a r => sy_go1 (sy_div 1 a b K) (pc + 1) lv r))
  | .lrem => sy_q1 1 st (fun b r => sy_q1 1 r (fun a r => match sy_div 1 a b K with | some _ => sy_go1 (some (sy_any 1 K)) (pc + 1) lv r | none => none))
  | .iand => sy_q1 0 st (fun b r => sy_q1 0 r (fun a r => sy_go1 (sy_and a b K) (pc + 1) lv r))
  | .ior => sy_q1 0 st (fun b r => sy_q1 0 r (fun a r => sy_go1 (sy_or a b K) (pc + 1) lv r))
  | .ixor => sy_q1 0 st (fun b r => sy_q1 0 r (fun a r => sy_go1 (sy_xor 0 a b K) (pc + 1) lv r))
  | .ishl => sy_q1 0 st (fun b r => sy_q1 0 r (fun a r => (match sy_kc K a, sy_kc K b with
    | some m, some k => sy_one (pc + 1) lv ((0, .inl (Int32.ofInt m <<< (Int32.ofInt k &&& 31)).toInt, .inl 0) :: r) K
    | _, _ => sy_go1 (some (sy_any 0 K)) (pc + 1) lv r)))
  | .ishr => sy_q1 0 st (fun b r => sy_q1 0 r (fun a r => sy_go1 (sy_shr 0 a b K) (pc + 1) lv r))
  | .i2c => sy_q1 0 st (fun a r => sy_go1 (sy_i2c a K) (pc + 1) lv r)
  | .iushr => sy_q1 0 st (fun _ r => sy_q1 0 r (fun _ r => sy_go1 (some (sy_any 0 K)) (pc + 1) lv r))
  | .land => sy_q1 1 st (fun b r => (match r with
    | a :: r => bif Nat.beq a.1 6 && sy_mx63 b then sy_go1 (sy_fabs a.2.1 K) (pc + 1) lv r else sy_q1 1 (a :: r) (fun _ r => sy_go1 (some (sy_any 1 K)) (pc + 1) lv r)
    | [] => none))
  | .lor => sy_q1 1 st (fun _ r => sy_q1 1 r (fun _ r => sy_go1 (some (sy_any 1 K)) (pc + 1) lv r))
  | .lxor => sy_q1 1 st (fun b r => sy_q1 1 r (fun a r => sy_go1 (sy_xor 1 a b K) (pc + 1) lv r))
  | .lshl => sy_q1 0 st (fun b r => sy_q1 1 r (fun a r => (match sy_kc K a, sy_kc K b with
    | some m, some k => sy_one (pc + 1) lv ((1, .inl (Int64.ofInt m <<< ((Int32.ofInt k).toInt64 &&& 63)).toInt, .inl 0) :: r) K
    | _, _ => sy_go1 (some (sy_any 1 K)) (pc + 1) lv r)))
  | .lshr => sy_q1 0 st (fun b r => sy_q1 1 r (fun a r => sy_go1 (sy_shr 1 a b K) (pc + 1) lv r))
  | .lushr => sy_q1 0 st (fun _ r => sy_q1 1 r (fun _ r => sy_go1 (some (sy_any 1 K)) (pc + 1) lv r))
  | .ineg => sy_q1 0 st (fun a r => sy_go1 (sy_ng 0 a K) (pc + 1) lv r)
  | .lneg => sy_q1 1 st (fun a r => sy_go1 (sy_ng 1 a K) (pc + 1) lv r)
  | .i2l => sy_q1 0 st (fun a r => sy_one (pc + 1) lv ((1, a, .inl 0) :: r) K)
  | .l2i => sy_q1 1 st (fun a r => match sy_iv K a with
    | some s => bif sy_le (-2147483648) s.1 && sy_le s.2 2147483647 then sy_one (pc + 1) lv ((0, a, .inl 0) :: r) K else sy_go1 (some (sy_any 0 K)) (pc + 1) lv r
    | none => none)
  | .i2b => sy_q1 0 st (fun a r => sy_go1 (sy_i2b a K) (pc + 1) lv r)
  | .d2i => sy_qd st (fun a r => (match sy_iv K a.2.1 with
    | some s => bif sy_le 0 s.1 && sy_le s.2 2147483647 then sy_one (pc + 1) lv ((0, a.2.1, .inl 0) :: r) K else sy_go1 (some (sy_any 0 K)) (pc + 1) lv r
    | none => none))
  | .dcmp _ => sy_qd st (fun b r => sy_qd r (fun a r => some ((sy_fcmp a.2 b.2 K).map (fun o => (0, pc + 1, lv, (0, .inl o.1, .inl 0) :: r, o.2)))))
  | .dconst n => ri_ok (Nat.beq n.val 0) (sy_one (pc + 1) lv ((2, .inl 0, .inl 1) :: st) K)
  | .i2d => sy_q1 0 st (fun a r => sy_one (pc + 1) lv ((2, a, .inl 1) :: r) K)
  | .l2d => sy_q1 1 st (fun a r => sy_go1 (sy_fl2d a K) (pc + 1) lv r)
  | .dneg => sy_qd st (fun a r => sy_go1 (sy_fneg a.2 K) (pc + 1) lv r)
  | .dadd => sy_qd st (fun b r => sy_qd r (fun a r => sy_go1 (sy_fadd a.2 b.2 K) (pc + 1) lv r))
  | .dsub => sy_qd st (fun b r => sy_qd r (fun a r => sy_go1 (sy_fsub a.2 b.2 K) (pc + 1) lv r))
  | .dmul => sy_qd st (fun b r => sy_qd r (fun a r => sy_go1 (sy_fmul a.2 b.2 K) (pc + 1) lv r))
  | .ddiv => sy_qd st (fun b r => sy_qd r (fun a r => sy_go1 (sy_fdiv a.2 b.2 K) (pc + 1) lv r))
  | .lcmp => sy_q1 1 st (fun b r => (match r with
    | a :: r => bif Nat.beq a.1 6 then sy_go1 (some (sy_any 0 K)) (pc + 1) lv r else sy_q1 1 (a :: r) (fun a r => sy_one (pc + 1) lv ((5, a, b) :: r) K)
    | [] => none))
  | .dup => sy_c1 st (fun a r => sy_one (pc + 1) lv (a :: a :: r) K)
  | .pop => sy_c1 st (fun _ r => sy_one (pc + 1) lv r K)
  | .dup2 => (match st with
    | a :: r => bif Nat.beq (sy_cat a) 2 then sy_one (pc + 1) lv (a :: a :: r) K else sy_c1 (a :: r) (fun a r => sy_c1 r (fun b r => sy_one (pc + 1) lv (a :: b :: a :: b :: r) K))
    | [] => none)
  | .goto off => sy_tg pc off 1 lv st K
  | .ifCond c off => (match st with
    | a :: r => bif Nat.beq a.1 5 then sy_br c a.2.1 a.2.2 pc off lv r K else sy_q1 0 (a :: r) (fun e r => sy_br c e (.inl 0) pc off lv r K)
    | [] => none)
  | .if_icmp c off => sy_q1 0 st (fun b r => sy_q1 0 r (fun a r => sy_br c a b pc off lv r K))
  | .ifnonnull off => sy_qr st (fun a r => bif Nat.beq a.1 3 then sy_tg pc off 1 lv r K else sy_one (pc + 3) lv r K)
  | .ifnull off => sy_qr st (fun a r => bif Nat.beq a.1 3 then sy_one (pc + 3) lv r K else sy_tg pc off 1 lv r K)
  | .tableswitch dflt lo hi offs => sy_q1 0 st (fun e r => sy_switch e pc dflt lo hi offs.toList lv r K)
  | _ => none
