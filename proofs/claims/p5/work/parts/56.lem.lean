/-! ===== the surveyor, part 15: what its parts do ===== -/
section SYL
variable {ρ : List Int}
theorem sy_each_mem {α : Type} {f : α → List sy_Hn → Option (List sy_Hn)} : ∀ {L : List α} {hs hs' : List sy_Hn}, sy_each f L hs = some hs' → ∀ o ∈ L, ∃ h1 h2, f o h1 = some h2
  | [], hs, hs', _, o, ho => by cases ho
  | x :: L, hs, hs', h, o, ho => by
    have h2 : (match f x hs with
      | some h1 => sy_each f L h1
      | none => none) = some hs' := h
    split at h2
    · rename_i h1 hx
      rcases List.mem_cons.mp ho with rfl | ho
      · exact ⟨hs, h1, hx⟩
      · exact sy_each_mem h2 o ho
    · cases h2
theorem sy_nin_false {i : Nat} : ∀ {D : List Nat}, sy_nin i D = false → i ∈ D
  | [], h => by cases h
  | j :: D, h => by
    have h3 : (!(Nat.beq j i) && sy_nin i D) = false := h
    cases hb : Nat.beq j i with
    | true => rw [Nat.eq_of_beq_eq_true hb]; exact List.mem_cons_self
    | false =>
      rw [hb] at h3
      exact List.mem_cons_of_mem _ (sy_nin_false h3)
theorem sy_dsub_ok {D2 : List Nat} : ∀ {D : List Nat}, sy_dsub D D2 = true → ∀ i ∈ D, i ∈ D2
  | [], _, i, h => by cases h
  | j :: D, h, i, hi => by
    have h2 : (!(sy_nin j D2) && sy_dsub D D2) = true := h
    rw [Bool.and_eq_true] at h2
    rcases List.mem_cons.mp hi with rfl | hi
    · exact sy_nin_false (by simpa using h2.1)
    · exact sy_dsub_ok h2.2 i hi
theorem sy_ru_sub {RU : sy_RT} {D D2 : List Nat} {w : List ri_E} (h : sy_ru RU D w) (hs : ∀ i ∈ D, i ∈ D2) : sy_ru RU D2 w := ⟨h.1, fun i r hr hi => h.2 i r hr (fun z => hi (hs i z))⟩
/-- worlds that are alike but for some places -/
def sy_mods (w0 w : List ri_E) (MM : List (Nat × Nat × Nat)) : Prop := ∀ q j : Nat, (∀ x ∈ MM, ¬ (q = x.1 ∧ x.2.1 ≤ j ∧ j ≤ x.2.2)) → sy_wv w q j = sy_wv w0 q j
theorem sy_mcov_ok {x : Nat × Nat × Nat} : ∀ {MM : List (Nat × Nat × Nat)}, sy_mcov x MM = true → ∃ y ∈ MM, y.1 = x.1 ∧ y.2.1 ≤ x.2.1 ∧ x.2.2 ≤ y.2.2
  | [], h => by cases h
  | y :: MM, h => by
    have h2 : ((Nat.beq y.1 x.1 && (Nat.ble y.2.1 x.2.1 && Nat.ble x.2.2 y.2.2)) || sy_mcov x MM) = true := h
    rw [Bool.or_eq_true] at h2
    rcases h2 with h2 | h2
    · rw [Bool.and_eq_true, Bool.and_eq_true] at h2
      exact ⟨y, List.mem_cons_self, Nat.eq_of_beq_eq_true h2.1, Nat.le_of_ble_eq_true h2.2.1, Nat.le_of_ble_eq_true h2.2.2⟩
    · obtain ⟨z, h3, h4⟩ := sy_mcov_ok h2
      exact ⟨z, List.mem_cons_of_mem _ h3, h4⟩
theorem sy_mods_but {w0 w w' : List ri_E} {MM : List (Nat × Nat × Nat)} {x : Nat × Nat × Nat} (h : sy_mods w0 w MM) (hb : sy_but w w' x.1 x.2.1 x.2.2) (hc : sy_mcov x MM = true) : sy_mods w0 w' MM := by
  intro q j hn
  obtain ⟨y, h1, h2, h3, h4⟩ := sy_mcov_ok hc
  rw [hb q j (fun z => hn y h1 ⟨by rw [h2]; exact z.1, by omega, by omega⟩)]
  exact h q j hn
theorem sy_mall_ok {MM : List (Nat × Nat × Nat)} : ∀ {m : List (Nat × Nat × Nat)}, sy_mall m MM = true → ∀ x ∈ m, sy_mcov x MM = true
  | [], _, x, h => by cases h
  | y :: m, h, x, hx => by
    have h2 : (sy_mcov y MM && sy_mall m MM) = true := h
    rw [Bool.and_eq_true] at h2
    rcases List.mem_cons.mp hx with rfl | hx
    · exact h2.1
    · exact sy_mall_ok h2.2 x hx
theorem sy_mods_trans {w0 w w' : List ri_E} {MM m : List (Nat × Nat × Nat)} (h : sy_mods w0 w MM) (h2 : sy_mods w w' m) (hc : sy_mall m MM = true) : sy_mods w0 w' MM := by
  intro q j hn
  rw [h2 q j (fun x hx z => by
    obtain ⟨y, h3, h4, h5, h6⟩ := sy_mcov_ok (sy_mall_ok hc x hx)
    exact hn y h3 ⟨by rw [h4]; exact z.1, by omega, by omega⟩)]
  exact h q j hn
theorem sy_hmods_mem {y : (Nat × Nat) × sy_V} {H : sy_H} : ∀ {m : List (Nat × Nat × Nat)}, y ∈ sy_hmods m H → ∃ x ∈ H, (x.2.1 ≠ 11 → y = x ∧ ∀ z ∈ m, sy_hdc z.1 z.2.1 z.2.2 x = false) ∧ (x.2.1 = 11 → y.2.1 = 11 ∧ ∀ g : Nat, Nat.testBit (sy_gn y.2) g = true → Nat.testBit (sy_gn x.2) g = true ∧ ∀ z ∈ m, Nat.testBit (pg_kr z.1 z.2.1 z.2.2) g = false)
  | [], h => ⟨y, h, fun _ => ⟨rfl, fun z hz => by cases hz⟩, fun h9 => ⟨h9, fun g hg => ⟨hg, fun z hz => by cases hz⟩⟩⟩
  | z :: m, h => by
    obtain ⟨u, hu, hd, rfl⟩ := sy_hdk_mem (show y ∈ sy_hdk (pg_kr z.1 z.2.1 z.2.2) z.1 z.2.1 z.2.2 (sy_hmods m H) from h)
    obtain ⟨x, hx, h1, h2⟩ := sy_hmods_mem hu
    refine ⟨x, hx, fun hn => ?_, fun h11 => ?_⟩
    · obtain ⟨e, h3⟩ := h1 hn
      subst e
      refine ⟨sy_hkm_no hn, fun z9 hz9 => ?_⟩
      rcases List.mem_cons.mp hz9 with rfl | hz9
      · exact hd
      · exact h3 z9 hz9
    · obtain ⟨e, h3⟩ := h2 h11
      unfold sy_hkm
      rw [show Nat.beq u.2.1 11 = true by rw [Nat.beq_eq]; exact e]
      refine ⟨rfl, fun g hg => ?_⟩
      obtain ⟨g1, g2⟩ := sy_gm_bit (show Nat.testBit (sy_gm (pg_kr z.1 z.2.1 z.2.2) (sy_gn u.2)) g = true from hg)
      obtain ⟨g3, g4⟩ := h3 g g1
      refine ⟨g3, fun z9 hz9 => ?_⟩
      rcases List.mem_cons.mp hz9 with rfl | hz9
      · exact g2
      · exact g4 z9 hz9
/-- guests that none of the changes touches -/
theorem sy_pgmods {g : Nat} : ∀ {m : List (Nat × Nat × Nat)} {nv nv2 : Nat → Nat → Int}, (∀ q j : Nat, (∀ x ∈ m, ¬ (q = x.1 ∧ x.2.1 ≤ j ∧ j ≤ x.2.2)) → nv2 q j = nv q j) → (∀ x ∈ m, Nat.testBit (pg_kr x.1 x.2.1 x.2.2) g = false) → pg_ok nv g → pg_ok nv2 g
  | [], nv, nv2, h, _, hg => by
    have e : nv2 = nv := funext (fun q => funext (fun j => h q j (fun x hx => by cases hx)))
    rw [e]; exact hg
  | x :: m, nv, nv2, h, hk, hg => by
    have s1 : pg_ok (fun q j => if q = x.1 ∧ x.2.1 ≤ j ∧ j ≤ x.2.2 then nv2 q j else nv q j) g := pg_kr_ok (q := x.1) (lo := x.2.1) (hi := x.2.2) (nv := nv) (fun q2 j2 hn => if_neg hn) hg (hk x List.mem_cons_self)
    refine sy_pgmods (m := m) (fun q j hn => ?_) (fun y hy => hk y (List.mem_cons_of_mem _ hy)) s1
    by_cases hx : q = x.1 ∧ x.2.1 ≤ j ∧ j ≤ x.2.2
    · rw [if_pos hx]
    · rw [if_neg hx]
      refine h q j (fun y hy => ?_)
      rcases List.mem_cons.mp hy with rfl | hy
      · exact hx
      · exact hn y hy
theorem sy_hmods_ok {w w' : List ri_E} {H : sy_H} {m : List (Nat × Nat × Nat)} (h : sy_hok ρ H w) (hm : sy_mods w w' m) : sy_hok ρ (sy_hmods m H) w' := by
  intro y hy
  obtain ⟨x, hx, h1, h2⟩ := sy_hmods_mem hy
  have nve : ∀ q j : Nat, (∀ x ∈ m, ¬ (q = x.1 ∧ x.2.1 ≤ j ∧ j ≤ x.2.2)) → sy_nv w' q j = sy_nv w q j := fun q j hn => sy_wv_nv (hm q j hn)
  rcases h x hx with ⟨v, g1, g2⟩ | ⟨g1, g2⟩ | ⟨g1, g2⟩
  · obtain ⟨e, h3⟩ := h1 (sy_is_lt g2).2
    subst e
    exact Or.inl ⟨v, by rw [hm y.1.1 y.1.2 (fun z hz z2 => (sy_hdc_no (h3 z hz)).1 z2)]; exact g1, g2⟩
  · obtain ⟨e, h3⟩ := h1 (by rw [g1]; decide)
    subst e
    refine Or.inr (Or.inl ⟨g1, sy_gh_same g2 (fun j => nve _ _ (fun z hz z2 => ?_)) (fun q2 h7 he j => nve _ _ (fun z hz z2 => ?_))⟩)
    · exact ((sy_hdc_no (h3 z hz)).2 g1).1 z2.1
    · have k3 := ((sy_hdc_no (h3 z hz)).2 g1).2 h7
      rw [he, z2.1, sy_isq_self] at k3
      cases k3
  · obtain ⟨e, h3⟩ := h2 g1
    refine Or.inr (Or.inr ⟨e, fun g hg => ?_⟩)
    obtain ⟨g3, g4⟩ := h3 g hg
    exact sy_pgmods nve g4 (g2 g g3)
/-! what a callee begins with -/
theorem sy_args_key : ∀ {as : List sy_V} {i : Nat} {x : Nat × sy_V}, x ∈ sy_args i as → i ≤ x.1
  | [], i, x, h => by unfold sy_args at h; cases h
  | a :: as, i, x, h => by
    unfold sy_args at h
    rcases List.mem_cons.mp h with rfl | h
    · exact Nat.le_refl _
    · have := sy_args_key h
      omega
theorem sy_cat_12 (a : sy_V) : sy_cat a = 1 ∨ sy_cat a = 2 := by
  unfold sy_cat
  split
  · exact Or.inr rfl
  · exact Or.inr rfl
  · exact Or.inr rfl
  · exact Or.inl rfl
theorem sy_args_ok : ∀ {as : List sy_V} {vs : List Value} (i : Nat), sy_st ρ as vs → sy_lv ρ (sy_args i as) (lv_args i vs)
  | [], [], i, _ => by intro x hx; unfold sy_args at hx; cases hx
  | a :: as, v :: vs, i, h => by
    intro x hx
    unfold sy_args at hx
    have e : lv_args i (v :: vs) = (i, v) :: lv_args (i + sy_cat a) vs := by
      show (i, v) :: lv_args (if v.category = 2 then i + 2 else i + 1) vs = _
      rw [sy_is_cat h.1]
      rcases sy_cat_12 a with e | e <;> rw [e] <;> rfl
    rw [e]
    rcases List.mem_cons.mp hx with rfl | hx
    · refine ⟨v, ?_, h.1⟩
      show (@Bool.rec (fun _ => Option Value) (ri_get i (lv_args (i + sy_cat a) vs)) (some v) (Nat.beq i i)) = some v
      rw [show Nat.beq i i = true by rw [Nat.beq_eq]]
    · obtain ⟨u, h1, h2⟩ := sy_args_ok (i + sy_cat a) h.2 x hx
      refine ⟨u, ?_, h2⟩
      have hk := sy_args_key hx
      have hne : Nat.beq i x.1 = false := by
        cases hb : Nat.beq i x.1 with
        | false => rfl
        | true =>
          have e9 := Nat.eq_of_beq_eq_true hb
          rcases sy_cat_12 a with e | e <;> omega
      show (@Bool.rec (fun _ => Option Value) (ri_get x.1 (lv_args (i + sy_cat a) vs)) (some v) (Nat.beq i x.1)) = some u
      rw [hne]; exact h1
  | [], _ :: _, i, h => h.elim
  | _ :: _, [], i, h => h.elim
theorem sy_sl_len : ∀ {as : List sy_V} {vs : List Value}, sy_st ρ as vs → (lg_sl vs).length = sy_csum as
  | [], [], _ => rfl
  | a :: as, v :: vs, h => by
    have e2 : lg_sl (v :: vs) = (if v.category = 2 then [Slot.val v, .second] else [.val v]) ++ lg_sl vs := rfl
    rw [e2, List.length_append, sy_sl_len h.2]
    show _ = sy_cat a + sy_csum as
    rw [sy_is_cat h.1]
    rcases sy_cat_12 a with e | e <;> rw [e] <;> rfl
  | [], _ :: _, h => h.elim
  | _ :: _, [], h => h.elim
theorem sy_rcat {as : List sy_V} {vs : List Value} (h : sy_st ρ as vs) : ri_cat vs = sy_csum as := sy_csum_ok h
theorem sy_split_ok : ∀ {n : Nat} {acc st As rest : List sy_V} {accc stc : List Value}, sy_st ρ acc accc → sy_st ρ st stc → sy_split n acc st = some (As, rest) → ∃ Asc restc : List Value, ri_split n accc stc = some (Asc, restc) ∧ sy_st ρ As Asc ∧ sy_st ρ rest restc
  | 0, acc, st, As, rest, accc, stc, ha, hs, h => by
    cases h
    exact ⟨accc, stc, rfl, ha, hs⟩
  | n + 1, acc, [], As, rest, accc, stc, ha, hs, h => by cases h
  | n + 1, acc, a :: st, As, rest, accc, stc, ha, hs, h => by
    obtain ⟨v, r, rfl, hv, hr⟩ := sy_st_cons hs
    exact sy_split_ok (n := n) (acc := a :: acc) (accc := v :: accc) ⟨hv, ha⟩ hr h
theorem sy_st_app2 : ∀ {as bs : List sy_V} {vs us : List Value}, sy_st ρ as vs → sy_st ρ bs us → sy_st ρ (as ++ bs) (vs ++ us)
  | [], bs, [], us, _, h => h
  | a :: as, bs, v :: vs, us, h, h2 => ⟨h.1, sy_st_app2 h.2 h2⟩
  | [], _, _ :: _, _, h, _ => h.elim
  | _ :: _, _, [], _, h, _ => h.elim
theorem sy_nx_ok {M : ri_M} {ix j : Nat} {o : ri_Op} {nxt : List ri_Op} {ts : List Nat} (h : o :: nxt = M.2.2.2.2.2.drop ix) : ri_next M nxt ts j = M.2.2.2.2.2.drop (sy_nx M ix ts j) := by
  cases j with
  | zero =>
    show nxt = M.2.2.2.2.2.drop (ix + 1)
    have h2 := congrArg List.tail h
    rw [List.tail_drop] at h2
    exact h2
  | succ k =>
    show (match ri_nth ts k with | some t => ri_drop M.2.2.2.2.2 t | none => []) = M.2.2.2.2.2.drop (match ri_nth ts k with | some t => t | none => M.2.2.2.2.2.length)
    cases ri_nth ts k with
    | some t => exact ri_drop_eq _ _
    | none => exact (List.drop_length).symm
theorem sy_nxt_ok {M : ri_M} {ix : Nat} {o : ri_Op} {nxt : List ri_Op} (h : o :: nxt = M.2.2.2.2.2.drop ix) : nxt = M.2.2.2.2.2.drop (ix + 1) := by
  have h2 := congrArg List.tail h
  rw [List.tail_drop] at h2
  exact h2
/-- a value that is handed back -/
def sy_rel (ρ : List Int) (r : Option sy_V) (rc : Option Value) : Prop := match r, rc with
  | none, none => True
  | some a, some v => sy_is ρ a v
  | _, _ => False
theorem sy_char {x : Int32} (h0 : 0 ≤ x.toInt) (h1 : x.toInt ≤ 65535) : narrow .char (.int x) = .int x := by
  have e : (x.toUInt32 % 65536).toInt32 = x := by
    apply Int32.toInt_inj.mp
    have e1 : ((x.toUInt32 % 65536).toInt32).toInt = ((x.toUInt32 % 65536).toNat : Int).bmod (2 ^ 32) := BitVec.toInt_eq_toNat_bmod (x.toUInt32 % 65536).toBitVec
    have e2 : x.toInt = (x.toUInt32.toNat : Int).bmod (2 ^ 32) := BitVec.toInt_eq_toNat_bmod x.toUInt32.toBitVec
    have e3 : x.toUInt32.toNat < 2 ^ 32 := UInt32.toNat_lt _
    rw [e1, UInt32.toNat_mod]
    have e4 : x.toUInt32.toNat < 65536 := by
      rw [Int.bmod_def] at e2
      omega
    rw [show (65536 : UInt32).toNat = 65536 from rfl, Nat.mod_eq_of_lt e4]
    exact e2.symm
  exact congrArg Value.int e
theorem sy_byte {x : Int32} (h0 : -128 ≤ x.toInt) (h1 : x.toInt ≤ 127) : narrow .byte (.int x) = .int x := by
  have e : x.toInt8.toInt32 = x := by
    apply Int32.toInt_inj.mp
    rw [Int8.toInt_toInt32, Int32.toInt_toInt8, Int.bmod_def]
    omega
  exact congrArg Value.int e
theorem sy_ret_ok {M : ri_M} {i : Instr} {st : List sy_V} {stc : List Value} {K : sy_K} {r : Option sy_V} (hk : sy_ok ρ K) (hs : sy_st ρ st stc) (h : sy_ret M i st K = some r) (w : List ri_E) (nc ns fr : Nat) : ∃ rc : Option Value, ri_ret M i stc w nc ns fr = some (.inl rc, w, nc, ns, [], fr) ∧ sy_rel ρ r rc := by
  cases i with
  | return_ =>
    dsimp only [sy_ret] at h
    split at h
    · rename_i hm
      cases h
      rw [sy_st_nil hs]
      refine ⟨none, ?_, trivial⟩
      unfold ri_ret
      dsimp only
      rw [hm]
      rfl
    · cases h
  | ireturn =>
    dsimp only [sy_ret] at h
    split at h
    · rename_i a
      obtain ⟨t, e, e2⟩ := a
      cases hb : Nat.beq t 0 with
      | false => dsimp only at h; rw [hb] at h; cases h
      | true =>
        dsimp only at h
        rw [hb, cond_true] at h
        have e9 : t = 0 := Nat.eq_of_beq_eq_true hb
        subst e9
        obtain ⟨v, rc, rfl, hv, hr⟩ := sy_st_cons hs
        rw [sy_st_nil hr]
        obtain ⟨x, rfl, hx⟩ := sy_is_int hv
        split at h
        · rename_i hm
          cases h
          refine ⟨some (.int x), ?_, hv⟩
          unfold ri_ret ri_fitR
          dsimp only
          rw [hm]
          rfl
        · rename_i hm
          split at h
          · rename_i s hsv
            cases hb2 : (sy_le 0 s.1 && sy_le s.2 1) with
            | false => rw [hb2] at h; cases h
            | true =>
              rw [hb2, cond_true] at h
              cases h
              rw [Bool.and_eq_true, sy_le_iff, sy_le_iff] at hb2
              have b := sy_iv_ok hk hsv hx
              have h5 : x.toInt = 0 ∨ x.toInt = 1 := by omega
              refine ⟨some (.int x), ?_, hv⟩
              unfold ri_ret ri_fitR
              dsimp only
              rw [hm]
              have h6 : x = 0 ∨ x = 1 := by
                rcases h5 with h5 | h5
                · exact Or.inl (Int32.toInt_inj.mp h5)
                · exact Or.inr (Int32.toInt_inj.mp h5)
              rcases h6 with rfl | rfl <;> rfl
          · cases h
        · rename_i hm
          split at h
          · rename_i s hsv
            cases hb2 : (sy_le 0 s.1 && sy_le s.2 65535) with
            | false => rw [hb2] at h; cases h
            | true =>
              rw [hb2, cond_true] at h
              cases h
              rw [Bool.and_eq_true, sy_le_iff, sy_le_iff] at hb2
              have b := sy_iv_ok hk hsv hx
              refine ⟨some (.int x), ?_, hv⟩
              unfold ri_ret ri_fitR ri_fitC
              dsimp only
              rw [hm]
              dsimp only
              rw [decide_eq_true (sy_char (by omega) (by omega)), Bool.or_true]
              rfl
          · cases h
        · rename_i hm
          split at h
          · rename_i s hsv
            cases hb2 : (sy_le (-128) s.1 && sy_le s.2 127) with
            | false => rw [hb2] at h; cases h
            | true =>
              rw [hb2, cond_true] at h
              cases h
              rw [Bool.and_eq_true, sy_le_iff, sy_le_iff] at hb2
              have b := sy_iv_ok hk hsv hx
              refine ⟨some (.int x), ?_, hv⟩
              unfold ri_ret ri_fitR ri_fitC
              dsimp only
              rw [hm]
              dsimp only
              rw [decide_eq_true (sy_byte (by omega) (by omega)), Bool.or_true]
              rfl
          · cases h
        · cases h
    · cases h
  | lreturn =>
    dsimp only [sy_ret] at h
    split at h
    · rename_i a hm
      obtain ⟨t, e, e2⟩ := a
      cases hb : Nat.beq t 1 with
      | false => dsimp only at h; rw [hb] at h; cases h
      | true =>
        dsimp only at h
        rw [hb, cond_true] at h
        cases h
        have e9 : t = 1 := Nat.eq_of_beq_eq_true hb
        subst e9
        obtain ⟨v, rc, rfl, hv, hr⟩ := sy_st_cons hs
        rw [sy_st_nil hr]
        obtain ⟨x, rfl, hx⟩ := sy_is_long hv
        refine ⟨some (.long x), ?_, hv⟩
        unfold ri_ret ri_fitR
        dsimp only
        rw [hm]
        rfl
    · cases h
  | dreturn =>
    dsimp only [sy_ret] at h
    split at h
    · rename_i a hm
      obtain ⟨t, e, e2⟩ := a
      cases hb : Nat.beq t 2 with
      | false => dsimp only at h; rw [hb] at h; cases h
      | true =>
        dsimp only at h
        rw [hb, cond_true] at h
        cases h
        have e9 : t = 2 := Nat.eq_of_beq_eq_true hb
        subst e9
        obtain ⟨v, rc, rfl, hv, hr⟩ := sy_st_cons hs
        rw [sy_st_nil hr]
        have hv2 := hv
        obtain ⟨x, k, rfl, hx⟩ := (hv : ∃ (x : UInt64) (k : Int), v = .double x ∧ sy_ev ρ e = some k ∧ sy_dx e2 k x)
        refine ⟨some (.double x), ?_, hv2⟩
        unfold ri_ret ri_fitR
        dsimp only
        rw [hm]
        rfl
    · cases h
  | areturn =>
    dsimp only [sy_ret] at h
    split at h
    · rename_i a nm hm
      cases hb : (Nat.beq a.1 3 || Nat.beq a.1 4) with
      | false => rw [hb] at h; cases h
      | true =>
        rw [hb, cond_true] at h
        cases h
        obtain ⟨v, rc, rfl, hv, hr⟩ := sy_st_cons hs
        rw [sy_st_nil hr]
        rcases sy_ref_is hb hv with ⟨q, rfl⟩ | rfl
        · refine ⟨some (.ref q), ?_, hv⟩
          unfold ri_ret ri_fitR
          dsimp only
          rw [hm]
          rfl
        · refine ⟨some .null, ?_, hv⟩
          unfold ri_ret ri_fitR
          dsimp only
          rw [hm]
          rfl
    · rename_i a nm hm
      cases hb : (Nat.beq a.1 3 || Nat.beq a.1 4) with
      | false => rw [hb] at h; cases h
      | true =>
        rw [hb, cond_true] at h
        cases h
        obtain ⟨v, rc, rfl, hv, hr⟩ := sy_st_cons hs
        rw [sy_st_nil hr]
        rcases sy_ref_is hb hv with ⟨q, rfl⟩ | rfl
        · refine ⟨some (.ref q), ?_, hv⟩
          unfold ri_ret ri_fitR
          dsimp only
          rw [hm]
          rfl
        · refine ⟨some .null, ?_, hv⟩
          unfold ri_ret ri_fitR
          dsimp only
          rw [hm]
          rfl
    · cases h
  | _ => cases h
theorem sy_isc_mem {ix : Nat} {cu : sy_Cut} : ∀ {CU : List sy_Cut}, sy_isc ix CU = some cu → cu ∈ CU ∧ cu.1 = ix
  | [], h => by cases h
  | c :: CU, h => by
    have h2 : (@Bool.rec (fun _ => Option sy_Cut) (sy_isc ix CU) (some c) (Nat.beq c.1 ix)) = some cu := h
    cases hb : Nat.beq c.1 ix with
    | true =>
      rw [hb] at h2
      cases Option.some.inj h2
      exact ⟨List.mem_cons_self, Nat.eq_of_beq_eq_true hb⟩
    | false =>
      rw [hb] at h2
      obtain ⟨a, b⟩ := sy_isc_mem h2
      exact ⟨List.mem_cons_of_mem _ a, b⟩
theorem sy_ids0 : ∀ ρ0 : List Int, sy_sv ρ0 (sy_ids 0 ρ0.length) ρ0 := by
  intro ρ0
  have h := sy_ids_sv (σ := []) (τ := []) ρ0 [] trivial
  rw [List.append_nil, List.append_nil] at h
  exact h
theorem sy_cst_ok {v : Value} {c : sy_V} (h : sy_cst v = some c) : sy_is ρ c v := by
  unfold sy_cst at h
  split at h
  · cases h; exact ⟨_, rfl, rfl⟩
  · cases h; exact ⟨_, rfl, rfl⟩
  · cases h; exact ⟨_, rfl, rfl⟩
  · split at h
    · rename_i n hn
      cases h
      exact ⟨_, n, rfl, rfl, sd_cst_ok hn _⟩
    · cases h
  · cases h; exact ⟨_, rfl⟩
  · cases h
theorem sy_str_ok {d bud d2 bud2 a : Nat} {st : List sy_V} {stc : List Value} {K : sy_K} {z : Nat × List sy_V × sy_K} (h1 : d ≤ d2) (h2 : bud ≤ bud2) (hk : sy_ok ρ K) (hs : sy_st ρ st stc) (h : sy_str d bud a st K = some z) : ∃ (m : List Int) (sz : List Value), ri_str d2 bud2 a stc = some (z.1, sz) ∧ sy_st (m ++ ρ) z.2.1 sz ∧ sy_ok (m ++ ρ) z.2.2 := by
  unfold sy_str at h
  split at h
  · obtain ⟨q, r, rc, h5, rfl, hr⟩ := sy_ref_top h hs
    cases hb : (Nat.ble 1000001 q && Nat.blt q 1000065) with
    | false => rw [hb] at h5; cases h5
    | true =>
      rw [hb, cond_true] at h5
      cases h5
      exact ⟨[], .ref (q + 100000) :: rc, congrArg (fun z9 => ri_ok z9 _) hb, ⟨⟨_, rfl, rfl⟩, hr⟩, hk⟩
  · obtain ⟨q, r, rc, h5, rfl, hr⟩ := sy_ref_top h hs
    cases hb : (Nat.ble 1000001 q && Nat.blt q 1000065) with
    | false => rw [hb] at h5; cases h5
    | true =>
      rw [hb, cond_true] at h5
      cases h5
      exact ⟨[], .int 0 :: rc, congrArg (fun z9 => ri_ok z9 _) hb, ⟨⟨_, rfl, rfl⟩, hr⟩, hk⟩
  · obtain ⟨q, r, rc, h5, rfl, hr⟩ := sy_ref_top h hs
    cases hb : (Nat.ble 1100001 q && Nat.blt q 1100065) with
    | false => rw [hb] at h5; cases h5
    | true =>
      rw [hb, cond_true] at h5
      cases h5
      exact ⟨[], .int (Int32.ofNat (sg_bs (q - 1100001)).length) :: rc, congrArg (fun z9 => ri_ok z9 _) hb, ⟨⟨_, rfl, rfl⟩, hr⟩, hk⟩
  · obtain ⟨e, r1, x, rc1, h3, rfl, hx, hs1⟩ := sy_int_top h hs
    obtain ⟨q, r, rc, h5, rfl, hr⟩ := sy_ref_top h3 hs1
    split at h5
    · rename_i s hsv
      cases hb : ((Nat.ble 1100001 q && Nat.blt q 1100065) && (sy_le 0 s.1 && sy_le (s.2 + 1) (Int.ofNat (sg_bs (q - 1100001)).length))) with
      | false => rw [hb] at h5; cases h5
      | true =>
        rw [hb, cond_true] at h5
        rw [Bool.and_eq_true] at hb
        obtain ⟨b1, b23⟩ := hb
        rw [Bool.and_eq_true, sy_le_iff, sy_le_iff] at b23
        obtain ⟨b2, b3⟩ := b23
        have b3' : s.2 + 1 ≤ (((sg_bs (q - 1100001)).length : Nat) : Int) := b3
        have iv := sy_iv_ok hk hsv hx
        obtain ⟨n1, n2, n3, n4⟩ := sy_idx iv.1 iv.2 b2
        have hc : ((Nat.ble 1100001 q && Nat.blt q 1100065) && (!decide (x < 0) && Nat.blt x.toNatClampNeg (sg_bs (q - 1100001)).length)) = true := by
          rw [b1, decide_eq_false n1, show Nat.blt x.toNatClampNeg (sg_bs (q - 1100001)).length = true from Nat.ble_eq_true_of_le (by omega)]
          rfl
        cases hkn : sy_le s.2 s.1 with
        | true =>
          rw [hkn, cond_true] at h5
          cases h5
          rw [sy_le_iff] at hkn
          refine ⟨[], .int ((sg_bs (q - 1100001)).getD x.toNatClampNeg 0) :: rc, ?_, ⟨⟨_, rfl, ?_⟩, hr⟩, hk⟩
          · exact congrArg (fun z9 => ri_ok z9 _) hc
          · rw [show s.1.toNat = x.toNatClampNeg by omega]
            rfl
        | false =>
        rw [hkn, cond_false] at h5
        cases h5
        obtain ⟨m, k1, k2⟩ := sy_any_ok hk (t := 0) (v := .int ((sg_bs (q - 1100001)).getD x.toNatClampNeg 0)) ⟨_, rfl, rfl⟩
        refine ⟨m, .int ((sg_bs (q - 1100001)).getD x.toNatClampNeg 0) :: rc, ?_, ⟨k2, sy_st_app m hr⟩, k1⟩
        exact congrArg (fun z9 => ri_ok z9 _) hc
    · cases h5
  · obtain ⟨e, e2, r, rfl, h3⟩ := sy_q1_eq h
    obtain ⟨v, rc, rfl, hv, hr⟩ := sy_st_cons hs
    cases hb : (Nat.ble 1 d && Nat.ble (sy_csum r + 15) bud) with
    | false => rw [hb] at h3; cases h3
    | true =>
      rw [hb, cond_true] at h3
      cases h3
      rw [Bool.and_eq_true] at hb
      obtain ⟨x, k, rfl, hx, hd⟩ := (hv : ∃ (x : UInt64) (k : Int), v = .double x ∧ sy_ev ρ e = some k ∧ sy_dx e2 k x)
      refine ⟨[], .long x.toInt64 :: rc, ?_, ⟨⟨x, k, rfl, hx, hd.1⟩, hr⟩, hk⟩
      have hc : (Nat.ble 1 d2 && Nat.ble ((rc.map fun v => v.category).sum + 15) bud2) = true := by
        rw [sy_csum_ok hr, Nat.ble_eq_true_of_le (Nat.le_trans (Nat.le_of_ble_eq_true hb.1) h1), Nat.ble_eq_true_of_le (Nat.le_trans (Nat.le_of_ble_eq_true hb.2) h2)]
        rfl
      exact congrArg (fun z9 => ri_ok z9 _) hc
  · obtain ⟨e, e2, r, rfl, h3⟩ := sy_q1_eq h
    obtain ⟨v, rc, rfl, hv, hr⟩ := sy_st_cons hs
    cases hb : (Nat.ble 1 d && Nat.ble (sy_csum r + 15) bud) with
    | false => rw [hb] at h3; cases h3
    | true =>
      rw [hb, cond_true] at h3
      cases h3
      rw [Bool.and_eq_true] at hb
      obtain ⟨x, k, rfl, hx, hd⟩ := (hv : ∃ (x : UInt64) (k : Int), v = .long x.toInt64 ∧ sy_ev ρ e = some k ∧ sy_db k x)
      have hn : vn_snl2d x.toInt64 = false := by
        have h9 := sd_n64 hd.1
        unfold ri_n64 at h9
        rw [decide_eq_true_iff] at h9
        unfold vn_snl2d
        rw [UInt64.toUInt64_toInt64]
        have h8 : ¬ (x &&& 9223372036854775807 > 9218868437227405312) := fun q => by
          rw [gt_iff_lt, UInt64.lt_iff_toNat_lt] at q
          rw [UInt64.le_iff_toNat_le] at h9
          omega
        show (decide (x &&& 9223372036854775807 > 9218868437227405312) && _) = false
        rw [decide_eq_false h8]
        rfl
      refine ⟨[], .double x.toInt64.toUInt64 :: rc, ?_, ⟨⟨x, k, by rw [UInt64.toUInt64_toInt64], hx, hd, fun q => by cases q⟩, hr⟩, hk⟩
      have hc : ((Nat.ble 1 d2 && Nat.ble ((rc.map fun v => v.category).sum + 15) bud2) && !vn_snl2d x.toInt64) = true := by
        rw [sy_csum_ok hr, Nat.ble_eq_true_of_le (Nat.le_trans (Nat.le_of_ble_eq_true hb.1) h1), Nat.ble_eq_true_of_le (Nat.le_trans (Nat.le_of_ble_eq_true hb.2) h2), hn]
        rfl
      exact congrArg (fun z9 => ri_ok z9 _) hc
  · cases h
end SYL
