/-! ===== the surveyor, part 10: lengths, System.arraycopy of ints ===== -/
section SYB
variable {T : Nat → Option sy_C} {ρ : List Int} {w : List ri_E} {RU : List sy_R} {tyL : List FieldType}
noncomputable def sy_alen (T : Nat → Option sy_C) (tyL : List FieldType) (st : List sy_V) : Option (List sy_V) := sy_q3 st (fun q r => match T q with
  | some c => (match ri_nth tyL c.2.1 with
    | some _ => bif !c.1 then some ((0, .inl (Int32.ofNat c.2.2.1).toInt, .inl 0) :: r) else none
    | none => none)
  | none => none)
theorem sy_alen_ok {st st' : List sy_V} {stc : List Value} (h : sy_alen T tyL st = some st') (hs : sy_st ρ st stc) (ht : sy_tw T w) : ∃ sz : List Value, ri_alen2 tyL stc w = some sz ∧ sy_st ρ st' sz := by
  obtain ⟨q, r, rc, h1, rfl, hr⟩ := sy_ref_top h hs
  split at h1
  · rename_i c hc
    split at h1
    · rename_i ty hty
      cases hb : (!c.1) with
      | false => rw [hb] at h1; cases h1
      | true =>
        rw [hb, cond_true] at h1
        cases h1
        obtain ⟨vs, k1, k2, k3⟩ := sy_cell_arr ht hc (by simpa using hb)
        refine ⟨.int (Int32.ofNat vs.length) :: rc, ?_, ⟨⟨_, rfl, by rw [k2]; rfl⟩, hr⟩⟩
        unfold ri_alen2
        dsimp only
        rw [ri_nth_eq w, k1]
        dsimp only
        rw [hty]
    · cases h1
  · cases h1
noncomputable def sy_csum (st : List sy_V) : Nat := List.rec 0 (fun a _ ih => sy_cat a + ih) st
theorem sy_csum_ok : ∀ {as : List sy_V} {vs : List Value}, sy_st ρ as vs → (vs.map fun v => v.category).sum = sy_csum as
  | [], [], _ => rfl
  | a :: as, v :: vs, h => by
    show v.category + (vs.map fun v => v.category).sum = sy_cat a + sy_csum as
    rw [sy_is_cat h.1, sy_csum_ok h.2]
  | [], _ :: _, h => h.elim
  | _ :: _, [], h => h.elim
def sy_isI (t : FieldType) : Bool := match t with | .int => true | _ => false
noncomputable def sy_acopy (T : Nat → Option sy_C) (RU : List sy_R) (tyL : List FieldType) (bud : Nat) (st : List sy_V) (H : sy_H) (D : List Nat) (K : sy_K) : Option (List sy_V × Nat × Nat × sy_H × List Nat) := sy_q1 0 st (fun en st => sy_q1 0 st (fun ed st => sy_q3 st (fun q1 st => sy_q1 0 st (fun es st => sy_q3 st (fun q0 r => match T q0, T q1 with
  | some c0, some c1 => (match ri_nth tyL c0.2.1, c0.2.2.2, c1.2.2.2 with
    | some ty, .inl f0, .inl f1 => (match sy_iv K en, sy_iv K ed, sy_iv K es with
      | some n, some d, some s => bif (!c0.1 && !c1.1) && ((Nat.beq c0.2.1 c1.2.1 && sy_isI ty) && ((Nat.beq f0.1 0 && Nat.beq f1.1 0) && ((sy_le f1.2.1 f0.2.1 && sy_le f0.2.2 f1.2.2) && ((sy_le 0 n.1 && (sy_le 0 d.1 && sy_le 0 s.1)) && ((sy_le (s.2 + n.2) (Int.ofNat c0.2.2.1) && sy_le (d.2 + n.2) (Int.ofNat c1.2.2.1)) && Nat.ble (sy_csum r + 18) bud))))) then some (r, q1, c1.2.2.1, sy_hdrop q1 0 c1.2.2.1 H, sy_touch q1 0 c1.2.2.1 RU D 0) else none
      | _, _, _ => none)
    | _, _, _ => none)
  | _, _ => none)))))
theorem sy_acopy_ok {bud bud2 : Nat} (hbud : bud ≤ bud2) {st st' : List sy_V} {stc : List Value} {q n9 : Nat} {H H' : sy_H} {D D' : List Nat} {K : sy_K} (h : sy_acopy T RU tyL bud st H D K = some (st', q, n9, H', D')) (hk : sy_ok ρ K) (hs : sy_st ρ st stc) (hh : sy_hok ρ H w) (ht : sy_tw T w) (hd : sy_ru RU D w) :
    ∃ (sz : List Value) (w' : List ri_E), ri_acopy tyL bud2 stc w = some (sz, w') ∧ w'.length = w.length ∧ sy_st ρ st' sz ∧ sy_but w w' q 0 n9 ∧ sy_tw T w' ∧ sy_hok ρ H' w' ∧ sy_ru RU D' w' := by
  obtain ⟨en, st1, n, rc1, h1, rfl, hn, hs1⟩ := sy_int_top h hs
  obtain ⟨ed, st2, dp, rc2, h2, rfl, hdp, hs2⟩ := sy_int_top h1 hs1
  obtain ⟨q1, st3, rc3, h3, rfl, hs3⟩ := sy_ref_top h2 hs2
  obtain ⟨es, st4, sp, rc4, h4, rfl, hsp, hs4⟩ := sy_int_top h3 hs3
  obtain ⟨q0, r, rc, h5, rfl, hr⟩ := sy_ref_top h4 hs4
  split at h5
  · rename_i c0 c1 hc0 hc1
    split at h5
    · rename_i ty f0 f1 hty hf0 hf1
      split at h5
      · rename_i nn dd ss hnn hdd hss
        cases hb : ((!c0.1 && !c1.1) && ((Nat.beq c0.2.1 c1.2.1 && sy_isI ty) && ((Nat.beq f0.1 0 && Nat.beq f1.1 0) && ((sy_le f1.2.1 f0.2.1 && sy_le f0.2.2 f1.2.2) && ((sy_le 0 nn.1 && (sy_le 0 dd.1 && sy_le 0 ss.1)) && ((sy_le (ss.2 + nn.2) (Int.ofNat c0.2.2.1) && sy_le (dd.2 + nn.2) (Int.ofNat c1.2.2.1)) && Nat.ble (sy_csum r + 18) bud)))))) with
        | false => rw [hb] at h5; cases h5
        | true =>
          rw [hb, cond_true] at h5
          cases h5
          simp only [Bool.and_eq_true, sy_le_iff] at hb
          obtain ⟨⟨b1, b2⟩, ⟨b3, b4⟩, ⟨b5, b6⟩, ⟨b7, b8⟩, ⟨b9, b10, b11⟩, ⟨b12, b13⟩, b14⟩ := hb
          have b1' : c0.1 = false := by simpa using b1
          have b2' : c1.1 = false := by simpa using b2
          have b12' : ss.2 + nn.2 ≤ ((c0.2.2.1 : Nat) : Int) := b12
          have b13' : dd.2 + nn.2 ≤ ((c1.2.2.1 : Nat) : Int) := b13
          have ivn := sy_iv_ok hk hnn hn
          have ivd := sy_iv_ok hk hdd hdp
          have ivs := sy_iv_ok hk hss hsp
          obtain ⟨n1, n2, n3, n4⟩ := sy_idx ivn.1 ivn.2 b9
          obtain ⟨d1, d2, d3, d4⟩ := sy_idx ivd.1 ivd.2 b10
          obtain ⟨s1, s2, s3, s4⟩ := sy_idx ivs.1 ivs.2 b11
          obtain ⟨vs0, k1, k2, k3⟩ := sy_cell_arr ht hc0 b1'
          obtain ⟨vs1, l1, l2, l3⟩ := sy_cell_arr ht hc1 b2'
          have e9 : c0.2.1 = c1.2.1 := Nat.eq_of_beq_eq_true b3
          have ety : ty = .int := by cases ty <;> first | rfl | cases b4
          subst ety
          have z0 : f0.1 = 0 := Nat.eq_of_beq_eq_true b5
          have z1 : f1.1 = 0 := Nat.eq_of_beq_eq_true b6
          have bb0 : sp.toNatClampNeg + n.toNatClampNeg ≤ vs0.length := by omega
          have bb1 : dp.toNatClampNeg + n.toNatClampNeg ≤ vs1.length := by omega
          -- what an element of either is
          have el0 : ∀ (j : Nat) (v : Value), vs0[j]? = some v → sy_fv f0 v := by
            intro j v hv
            have hj := (List.getElem?_eq_some_iff.mp hv).1
            obtain ⟨vs9, g1, g2, g3⟩ := ht q0 c0 hc0
            have hjf : sy_fs c0 j = some f0 := by
              unfold sy_fs
              have hj2 : j < c0.2.2.1 := by omega
              rw [show Nat.blt j c0.2.2.1 = true from Nat.ble_eq_true_of_le hj2, cond_true, hf0]
            obtain ⟨v2, g4, g5⟩ := g3 j f0 hjf
            have e8 : sy_wv w q0 j = some v2 := by unfold sy_wv; rw [g1]; dsimp only; rw [sy_vals_mk]; exact g4
            rw [k3, hv] at e8
            cases e8
            exact g5
          have el1 : ∀ (j : Nat) (v : Value), vs1[j]? = some v → sy_fv f1 v := by
            intro j v hv
            have hj := (List.getElem?_eq_some_iff.mp hv).1
            obtain ⟨vs9, g1, g2, g3⟩ := ht q c1 hc1
            have hjf : sy_fs c1 j = some f1 := by
              unfold sy_fs
              have hj2 : j < c1.2.2.1 := by omega
              rw [show Nat.blt j c1.2.2.1 = true from Nat.ble_eq_true_of_le hj2, cond_true, hf1]
            obtain ⟨v2, g4, g5⟩ := g3 j f1 hjf
            have e8 : sy_wv w q j = some v2 := by unfold sy_wv; rw [g1]; dsimp only; rw [sy_vals_mk]; exact g4
            rw [l3, hv] at e8
            cases e8
            exact g5
          have f01 : ∀ v, sy_fv f0 v → sy_fv f1 v := fun v hv => sy_fv_sub hv ⟨by rw [z0, z1], b7, b8⟩ (by rw [z1]; decide)
          have ints : ((vs0.drop sp.toNatClampNeg).take n.toNatClampNeg).all (ri_ft .int) = true := by
            rw [List.all_eq_true]
            intro v hv
            obtain ⟨j, hj⟩ := List.getElem?_of_mem (List.mem_of_mem_drop (List.mem_of_mem_take hv))
            have h9 := el0 j v hj
            unfold sy_fv at h9
            rw [z0] at h9
            obtain ⟨x, rfl, -⟩ := h9
            rfl
          have hq1 := (List.getElem?_eq_some_iff.mp l1).1
          have len := ri_cpy_len bb0 bb1
          have sum9 : (rc.map fun v => v.category).sum + 18 ≤ bud2 := by
            rw [sy_csum_ok hr]
            exact Nat.le_trans (Nat.le_of_ble_eq_true b14) hbud
          have but : sy_but w (w.set q (.inl (c1.2.1, ri_cpy vs0 vs1 sp.toNatClampNeg dp.toNatClampNeg n.toNatClampNeg))) q 0 c1.2.2.1 := by
            intro q2 j2 hne
            by_cases hq9 : q2 = q
            · subst hq9
              have hj9 : c1.2.2.1 < j2 := by
                by_cases hz : j2 ≤ c1.2.2.1
                · exact absurd ⟨rfl, Nat.zero_le _, hz⟩ hne
                · omega
              unfold sy_wv
              rw [List.getElem?_set_self hq1, l1]
              show (ri_cpy vs0 vs1 _ _ _)[j2]? = vs1[j2]?
              rw [List.getElem?_eq_none (by omega), List.getElem?_eq_none (by omega)]
            · unfold sy_wv
              rw [List.getElem?_set_ne (fun z => hq9 z.symm)]
          refine ⟨rc, _, ?_, List.length_set, hr, but, ?_, sy_but_hok hh but, sy_but_ru hd but⟩
          · unfold ri_acopy
            dsimp only
            rw [ri_nth_eq w, k1]
            dsimp only
            rw [ri_nth_eq w, l1]
            dsimp only
            rw [hty]
            dsimp only
            rw [b3, decide_eq_false s1, decide_eq_false d1, decide_eq_false n1, Nat.ble_eq_true_of_le bb0, Nat.ble_eq_true_of_le bb1, ints, ri_upd_eq]
            have e7 : Nat.ble ((rc.map fun v => v.category).sum + 18) bud2 = true := Nat.ble_eq_true_of_le sum9
            first
              | (rw [e7]; rfl)
              | (simp only [e7]; rfl)
          · intro q2 c2 hc2
            by_cases hq9 : q2 = q
            · subst hq9
              cases Option.some.inj (hc2.symm.trans hc1)
              refine ⟨ri_cpy vs0 vs1 sp.toNatClampNeg dp.toNatClampNeg n.toNatClampNeg, ?_, by omega, ?_⟩
              · rw [List.getElem?_set_self hq1, b2']; rfl
              · intro j f hjf
                have hj2 : j < c1.2.2.1 := by
                  unfold sy_fs at hjf
                  cases hz : Nat.blt j c1.2.2.1 with
                  | true => exact Nat.le_of_ble_eq_true hz
                  | false => rw [hz] at hjf; cases hjf
                have ef : f = f1 := by
                  unfold sy_fs at hjf
                  rw [show Nat.blt j c1.2.2.1 = true from Nat.ble_eq_true_of_le hj2, cond_true, hf1] at hjf
                  exact (Option.some.inj hjf).symm
                subst ef
                rw [ri_cpy_at bb0 bb1]
                by_cases hw : dp.toNatClampNeg ≤ j ∧ j < dp.toNatClampNeg + n.toNatClampNeg
                · rw [if_pos hw]
                  have hlt : sp.toNatClampNeg + (j - dp.toNatClampNeg) < vs0.length := by omega
                  exact ⟨_, List.getElem?_eq_getElem hlt, f01 _ (el0 _ _ (List.getElem?_eq_getElem hlt))⟩
                · rw [if_neg hw]
                  have hlt : j < vs1.length := by omega
                  exact ⟨_, List.getElem?_eq_getElem hlt, el1 _ _ (List.getElem?_eq_getElem hlt)⟩
            · rw [List.getElem?_set_ne (fun z => hq9 z.symm)]
              exact ht q2 c2 hc2
      · cases h5
    · cases h5
  · cases h5
end SYB
