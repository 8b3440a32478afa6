/-! ===== the surveyor, part 6: its steps are the reckoner's, where no heap is touched ===== -/
section SYC
variable {ρ : List Int} {K : sy_K} {L : List sy_O} {lv : sy_L} {lvc : ri_L} {st r : List sy_V} {rc stc : List Value}
theorem sy_cov0 {pc : Nat} (hl : sy_lv ρ lv lvc) (hs : sy_st ρ r rc) (hk : sy_ok ρ K) : sy_cov ρ [(0, pc, lv, r, K)] (some (0, pc, lvc, rc)) :=
  ⟨_, List.mem_cons_self, [], lvc, rc, rfl, hl, hs, hk⟩
theorem sy_covg {pc : Nat} {o : Option (sy_V × sy_K)} {v : Value} (h : sy_go1 o pc lv r = some L) (hl : sy_lv ρ lv lvc) (hs : sy_st ρ r rc) (hm : ∀ (c : sy_V) (K' : sy_K), o = some (c, K') → ∃ m : List Int, sy_ok (m ++ ρ) K' ∧ sy_is (m ++ ρ) c v) : sy_cov ρ L (some (0, pc, lvc, v :: rc)) := by
  unfold sy_go1 at h
  split at h
  · rename_i z
    cases h
    obtain ⟨m, h1, h2⟩ := hm z.1 z.2 rfl
    exact ⟨_, List.mem_cons_self, m, lvc, v :: rc, rfl, sy_lv_app m hl, ⟨h2, sy_st_app m hs⟩, h1⟩
  · cases h
theorem sy_covany {pc t : Nat} {v : Value} {z : Int} (h : sy_go1 (some (sy_any t K)) pc lv r = some L) (hl : sy_lv ρ lv lvc) (hs : sy_st ρ r rc) (hk : sy_ok ρ K) (hv : sy_nm t v z) : sy_cov ρ L (some (0, pc, lvc, v :: rc)) :=
  sy_covg h hl hs (fun c K' hc => by
    have e1 : sy_any t K = (c, K') := Option.some.inj hc
    have h9 := sy_any_ok hk hv
    rw [e1] at h9
    exact h9)
theorem sy_b32 {z : Int} (h1 : sy_lo 0 ≤ z) (h2 : z ≤ sy_hi 0) : z.bmod (2 ^ 32) = z := by
  have h1' : (-2147483648 : Int) ≤ z := h1
  have h2' : z ≤ (2147483647 : Int) := h2
  rw [Int.bmod_def]; omega
theorem sy_b64 {z : Int} (h1 : sy_lo 1 ≤ z) (h2 : z ≤ sy_hi 1) : z.bmod (2 ^ 64) = z := by
  have h1' : (-9223372036854775808 : Int) ≤ z := h1
  have h2' : z ≤ (9223372036854775807 : Int) := h2
  rw [Int.bmod_def]; omega
theorem sy_tg_ok {pc j : Nat} {off : Int} (h : sy_tg pc off j lv r K = some L) (hl : sy_lv ρ lv lvc) (hs : sy_st ρ r rc) (hk : sy_ok ρ K) : sy_cov ρ L (ri_tg pc off j lvc rc) := by
  unfold sy_tg at h
  unfold ri_tg
  split at h
  · rename_i t ht
    cases h
    rw [ht]
    exact ⟨_, List.mem_cons_self, [], lvc, rc, rfl, hl, hs, hk⟩
  · cases h
theorem sy_br_ok {pc : Nat} {off : Int} {c : Jvm.ClassFile.Cond} {a b : sy_E} {x y : Int} {g : Bool} (h : sy_br c a b pc off lv r K = some L) (hl : sy_lv ρ lv lvc) (hs : sy_st ρ r rc) (hk : sy_ok ρ K) (hx : sy_ev ρ a = some x) (hy : sy_ev ρ b = some y) (hg : g = sy_cz c x y) : sy_cov ρ L (ri_br g pc off (pc + 3) lvc rc) := by
  unfold sy_br at h
  unfold ri_br
  split at h
  · rename_i t ht
    cases h
    rw [ht]
    obtain ⟨K', hm, hk'⟩ := sy_alt_ok hk hx hy c
    rw [← hg] at hm
    cases g with
    | true => exact ⟨_, List.mem_append_left _ (List.mem_map.mpr ⟨K', hm, rfl⟩), [], lvc, rc, rfl, hl, hs, hk'⟩
    | false => exact ⟨_, List.mem_append_right _ (List.mem_map.mpr ⟨K', hm, rfl⟩), [], lvc, rc, rfl, hl, hs, hk'⟩
  · cases h
theorem sy_cnd_cz (c : Jvm.ClassFile.Cond) (x y : Int32) : ri_cnd c x y = sy_cz c x.toInt y.toInt := by
  cases c with
  | eq => show decide (x = y) = decide (x.toInt = y.toInt); exact decide_eq_decide.mpr Int32.toInt_inj.symm
  | ne => show (!decide (x = y)) = !decide (x.toInt = y.toInt); rw [decide_eq_decide.mpr (Int32.toInt_inj (x := x) (y := y)).symm]
  | lt => show decide (x < y) = decide (x.toInt < y.toInt); exact decide_eq_decide.mpr Int32.lt_iff_toInt_lt
  | ge => show decide (y ≤ x) = decide (y.toInt ≤ x.toInt); exact decide_eq_decide.mpr Int32.le_iff_toInt_le
  | gt => show decide (y < x) = decide (y.toInt < x.toInt); exact decide_eq_decide.mpr Int32.lt_iff_toInt_lt
  | le => show decide (x ≤ y) = decide (x.toInt ≤ y.toInt); exact decide_eq_decide.mpr Int32.le_iff_toInt_le
theorem sy_lcmp_cz (c : Jvm.ClassFile.Cond) (x y : Int64) : ri_cnd c (lg_cmp x y) 0 = sy_cz c x.toInt y.toInt := by
  have t1 : x.toInt < y.toInt ∨ x.toInt = y.toInt ∨ y.toInt < x.toInt := by omega
  rcases t1 with h | h | h
  · have e : lg_cmp x y = -1 := by
      unfold lg_cmp
      rw [if_neg (fun q : x > y => by rw [gt_iff_lt, Int64.lt_iff_toInt_lt] at q; omega), if_neg (fun q => by rw [q] at h; omega)]
    rw [e]
    cases c <;> unfold sy_cz <;> simp only [] <;> first
      | (rw [show decide (x.toInt = y.toInt) = false from decide_eq_false (by omega)]; rfl)
      | (rw [show decide (x.toInt < y.toInt) = true from decide_eq_true h]; rfl)
      | (rw [show decide (y.toInt ≤ x.toInt) = false from decide_eq_false (by omega)]; rfl)
      | (rw [show decide (y.toInt < x.toInt) = false from decide_eq_false (by omega)]; rfl)
      | (rw [show decide (x.toInt ≤ y.toInt) = true from decide_eq_true (by omega)]; rfl)
  · have hxy : x = y := Int64.toInt_inj.mp h
    have e : lg_cmp x y = 0 := by
      unfold lg_cmp
      rw [if_neg (fun q : x > y => by rw [gt_iff_lt, Int64.lt_iff_toInt_lt] at q; omega), if_pos hxy]
    rw [e]
    cases c <;> unfold sy_cz <;> simp only [] <;> first
      | (rw [show decide (x.toInt = y.toInt) = true from decide_eq_true h]; rfl)
      | (rw [show decide (x.toInt < y.toInt) = false from decide_eq_false (by omega)]; rfl)
      | (rw [show decide (y.toInt ≤ x.toInt) = true from decide_eq_true (by omega)]; rfl)
      | (rw [show decide (y.toInt < x.toInt) = false from decide_eq_false (by omega)]; rfl)
      | (rw [show decide (x.toInt ≤ y.toInt) = true from decide_eq_true (by omega)]; rfl)
  · have e : lg_cmp x y = 1 := by
      unfold lg_cmp
      rw [if_pos (show x > y by rw [gt_iff_lt, Int64.lt_iff_toInt_lt]; exact h)]
    rw [e]
    cases c <;> unfold sy_cz <;> simp only [] <;> first
      | (rw [show decide (x.toInt = y.toInt) = false from decide_eq_false (by omega)]; rfl)
      | (rw [show decide (x.toInt < y.toInt) = false from decide_eq_false (by omega)]; rfl)
      | (rw [show decide (y.toInt ≤ x.toInt) = true from decide_eq_true (by omega)]; rfl)
      | (rw [show decide (y.toInt < x.toInt) = true from decide_eq_true h]; rfl)
      | (rw [show decide (x.toInt ≤ y.toInt) = false from decide_eq_false (by omega)]; rfl)
theorem sy_cases_ok {e : sy_E} {pc : Nat} {lo x : Int} (hl : sy_lv ρ lv lvc) (hs : sy_st ρ r rc) (hk : sy_ok ρ K) (hx : sy_ev ρ e = some x) : ∀ {offs : List Int} {n : Nat} {L : List sy_O}, sy_cases e pc lo lv r K offs n = some L → ∀ k : Nat, k < offs.length → x = lo + (n + k : Nat) →
    ∃ off t, offs[k]? = some off ∧ (pc : Int) + off = Int.ofNat t ∧ ∃ K', (n + k + 2, t, lv, r, K') ∈ L ∧ sy_ok ρ K'
  | [], n, L, h, k, hk2, _ => absurd hk2 (Nat.not_lt_zero _)
  | off :: offs, n, L, h, k, hk2, hxk => by
    have h2 : (match sy_cases e pc lo lv r K offs (n + 1), (pc : Int) + off with
      | some rest, .ofNat t => some ((sy_ase e (.inl (lo + n)) K).toList.map (fun K' => ((n + 2, t, lv, r, K') : sy_O)) ++ rest)
      | _, _ => none) = some L := h
    split at h2
    · rename_i rest t hrest ht
      cases h2
      cases k with
      | zero =>
        obtain ⟨K', e1, k1⟩ := sy_ase_ok (b := .inl (lo + n)) hk hx rfl (by rw [hxk]; rfl)
        refine ⟨off, t, rfl, ht, K', List.mem_append_left _ ?_, k1⟩
        rw [e1]
        exact List.mem_cons_self
      | succ k =>
        obtain ⟨off2, t2, g1, g2, K', g3, g4⟩ := sy_cases_ok hl hs hk hx hrest k (Nat.lt_of_succ_lt_succ hk2) (by rw [hxk]; congr 1; omega)
        refine ⟨off2, t2, g1, g2, K', List.mem_append_right _ ?_, g4⟩
        rw [show n + (k + 1) + 2 = n + 1 + k + 2 by omega]
        exact g3
    · cases h2
theorem sy_switch_ok {e : sy_E} {pc : Nat} {dflt lo hi : Int} {offs : Array Int} {x : Int32} (h : sy_switch e pc dflt lo hi offs.toList lv r K = some L) (hl : sy_lv ρ lv lvc) (hs : sy_st ρ r rc) (hk : sy_ok ρ K) (hx : sy_ev ρ e = some x.toInt) :
    sy_cov ρ L (bif decide (x.toInt < lo) || decide (hi < x.toInt) then ri_tg pc dflt 1 lvc rc else (match offs[(x.toInt - lo).toNat]? with | some off => ri_tg pc off ((x.toInt - lo).toNat + 2) lvc rc | none => none)) := by
  unfold sy_switch at h
  cases hb : sy_le (hi - lo + 1) (Int.ofNat offs.toList.length) with
  | false => rw [hb] at h; cases h
  | true =>
    rw [hb, cond_true] at h
    rw [sy_le_iff] at hb
    split at h
    · rename_i rest t hrest ht
      cases h
      cases hc : (decide (x.toInt < lo) || decide (hi < x.toInt)) with
      | true =>
        rw [cond_true]
        unfold ri_tg
        rw [ht]
        dsimp only
        rw [Bool.or_eq_true, decide_eq_true_iff, decide_eq_true_iff] at hc
        by_cases h1 : x.toInt < lo
        · obtain ⟨K', e1, k1⟩ := sy_asl_ok (b := .inl lo) (c := -1) hk hx rfl (by omega)
          refine ⟨(1, t, lv, r, K'), List.mem_append_left _ (List.mem_map.mpr ⟨K', List.mem_append_left _ ?_, rfl⟩), [], lvc, rc, rfl, hl, hs, k1⟩
          rw [e1]; exact List.mem_cons_self
        · obtain ⟨K', e1, k1⟩ := sy_asl_ok (a := .inl hi) (c := -1) hk rfl hx (by omega)
          refine ⟨(1, t, lv, r, K'), List.mem_append_left _ (List.mem_map.mpr ⟨K', List.mem_append_right _ ?_, rfl⟩), [], lvc, rc, rfl, hl, hs, k1⟩
          rw [e1]; exact List.mem_cons_self
      | false =>
        rw [cond_false]
        rw [Bool.or_eq_false_iff, decide_eq_false_iff_not, decide_eq_false_iff_not] at hc
        have hn : ((x.toInt - lo).toNat : Int) = x.toInt - lo := Int.toNat_of_nonneg (by omega)
        have hb2 : hi - lo + 1 ≤ ((offs.toList.length : Nat) : Int) := hb
        obtain ⟨off, t2, g1, g2, K', g3, g4⟩ := sy_cases_ok (n := 0) hl hs hk hx hrest (x.toInt - lo).toNat (by omega) (by rw [Nat.zero_add, hn]; omega)
        have g1' : offs[(x.toInt - lo).toNat]? = some off := by rw [← Array.getElem?_toList]; exact g1
        rw [g1']
        dsimp only
        unfold ri_tg
        rw [g2]
        dsimp only
        rw [Nat.zero_add] at g3
        exact ⟨_, List.mem_append_right _ g3, [], lvc, rc, rfl, hl, hs, g4⟩
    · cases h
end SYC
set_option maxHeartbeats 4000000 in
theorem sy_pure_ok {ρ : List Int} {nL : Nat} {i : Instr} {pc : Nat} {lv : sy_L} {st : List sy_V} {K : sy_K} {L : List sy_O} {lvc : ri_L} {stc : List Value} (h : sy_pure nL i pc lv st K = some L) (hk : sy_ok ρ K) (hl : sy_lv ρ lv lvc) (hs : sy_st ρ st stc) : sy_cov ρ L (ri_pure nL i pc lvc stc) := by
  cases i with
  | iconst n =>
    dsimp only [sy_pure] at h
    cases h; exact sy_cov0 hl ⟨⟨_, rfl, rfl⟩, hs⟩ hk
  | bipush n =>
    dsimp only [sy_pure] at h
    cases h; exact sy_cov0 hl ⟨⟨_, rfl, rfl⟩, hs⟩ hk
  | sipush n =>
    dsimp only [sy_pure] at h
    cases h; exact sy_cov0 hl ⟨⟨_, rfl, rfl⟩, hs⟩ hk
  | lconst n =>
    dsimp only [sy_pure] at h
    cases h; exact sy_cov0 hl ⟨⟨_, rfl, rfl⟩, hs⟩ hk
  | aconst_null =>
    dsimp only [sy_pure] at h
    cases h; exact sy_cov0 hl ⟨rfl, hs⟩ hk
  | iload i =>
    dsimp only [sy_pure] at h
    obtain ⟨e, e2, he, h2⟩ := sy_g1_eq h
    obtain ⟨v, hv, hi⟩ := sy_get_ok hl he
    cases h2
    obtain ⟨x, rfl, hx⟩ := sy_is_int hi
    show sy_cov ρ _ (ri_gv (ri_get i lvc) (fun v => some (0, pc + 2, lvc, v :: stc)))
    rw [hv]
    exact sy_cov0 hl ⟨⟨x, rfl, hx⟩, hs⟩ hk
  | iload_n i =>
    dsimp only [sy_pure] at h
    obtain ⟨e, e2, he, h2⟩ := sy_g1_eq h
    obtain ⟨v, hv, hi⟩ := sy_get_ok hl he
    cases h2
    obtain ⟨x, rfl, hx⟩ := sy_is_int hi
    show sy_cov ρ _ (ri_gv (ri_get i.val lvc) (fun v => some (0, pc + 1, lvc, v :: stc)))
    rw [hv]
    exact sy_cov0 hl ⟨⟨x, rfl, hx⟩, hs⟩ hk
  | lload i =>
    dsimp only [sy_pure] at h
    obtain ⟨e, e2, he, h2⟩ := sy_g1_eq h
    obtain ⟨v, hv, hi⟩ := sy_get_ok hl he
    cases h2
    obtain ⟨x, rfl, hx⟩ := sy_is_long hi
    show sy_cov ρ _ (ri_gl (ri_get i lvc) (fun x => some (0, pc + 2, lvc, .long x :: stc)))
    rw [hv]
    exact sy_cov0 hl ⟨⟨x, rfl, hx⟩, hs⟩ hk
  | lload_n i =>
    dsimp only [sy_pure] at h
    obtain ⟨e, e2, he, h2⟩ := sy_g1_eq h
    obtain ⟨v, hv, hi⟩ := sy_get_ok hl he
    cases h2
    obtain ⟨x, rfl, hx⟩ := sy_is_long hi
    show sy_cov ρ _ (ri_gl (ri_get i.val lvc) (fun x => some (0, pc + 1, lvc, .long x :: stc)))
    rw [hv]
    exact sy_cov0 hl ⟨⟨x, rfl, hx⟩, hs⟩ hk
  | dload i =>
    dsimp only [sy_pure] at h
    obtain ⟨e, e2, he, h2⟩ := sy_gd_eq h
    obtain ⟨v, hv, hi⟩ := sy_get_ok hl he
    cases h2
    obtain ⟨x, k, rfl, hx, hd⟩ := (hi : ∃ (x : UInt64) (k : Int), v = .double x ∧ sy_ev ρ e = some k ∧ sy_dx e2 k x)
    show sy_cov ρ _ (ri_gd (ri_get i lvc) (fun x => some (0, pc + 2, lvc, .double x :: stc)))
    rw [hv]
    exact sy_cov0 hl ⟨⟨x, k, rfl, hx, hd⟩, hs⟩ hk
  | dload_n i =>
    dsimp only [sy_pure] at h
    obtain ⟨e, e2, he, h2⟩ := sy_gd_eq h
    obtain ⟨v, hv, hi⟩ := sy_get_ok hl he
    cases h2
    obtain ⟨x, k, rfl, hx, hd⟩ := (hi : ∃ (x : UInt64) (k : Int), v = .double x ∧ sy_ev ρ e = some k ∧ sy_dx e2 k x)
    show sy_cov ρ _ (ri_gd (ri_get i.val lvc) (fun x => some (0, pc + 1, lvc, .double x :: stc)))
    rw [hv]
    exact sy_cov0 hl ⟨⟨x, k, rfl, hx, hd⟩, hs⟩ hk
  | aload i =>
    dsimp only [sy_pure] at h
    obtain ⟨a, he, hb, h2⟩ := sy_gr_eq h
    obtain ⟨v, hv, hi⟩ := sy_get_ok hl he
    cases h2
    show sy_cov ρ _ (ri_gr (ri_get i lvc) (fun x => some (0, pc + 2, lvc, .ref x :: stc)) (some (0, pc + 2, lvc, .null :: stc)))
    rw [hv]
    rcases sy_ref_is hb hi with ⟨q, rfl⟩ | rfl
    · exact sy_cov0 hl ⟨hi, hs⟩ hk
    · exact sy_cov0 hl ⟨hi, hs⟩ hk
  | aload_n i =>
    dsimp only [sy_pure] at h
    obtain ⟨a, he, hb, h2⟩ := sy_gr_eq h
    obtain ⟨v, hv, hi⟩ := sy_get_ok hl he
    cases h2
    show sy_cov ρ _ (ri_gr (ri_get i.val lvc) (fun x => some (0, pc + 1, lvc, .ref x :: stc)) (some (0, pc + 1, lvc, .null :: stc)))
    rw [hv]
    rcases sy_ref_is hb hi with ⟨q, rfl⟩ | rfl
    · exact sy_cov0 hl ⟨hi, hs⟩ hk
    · exact sy_cov0 hl ⟨hi, hs⟩ hk
  | istore i =>
    dsimp only [sy_pure] at h
    obtain ⟨e, r, x, rc, h2, rfl, hx, hr⟩ := sy_int_top h hs
    obtain ⟨hb, h3⟩ := ri_ok_eq h2
    cases h3
    show sy_cov ρ _ (ri_ok (Nat.blt (i) nL) (some (0, pc + 2, ri_s1 i (.int x) lvc, rc)))
    rw [hb]
    exact sy_cov0 (sy_s1_ok hl ⟨x, rfl, hx⟩) hr hk
  | istore_n i =>
    dsimp only [sy_pure] at h
    obtain ⟨e, r, x, rc, h2, rfl, hx, hr⟩ := sy_int_top h hs
    obtain ⟨hb, h3⟩ := ri_ok_eq h2
    cases h3
    show sy_cov ρ _ (ri_ok (Nat.blt (i.val) nL) (some (0, pc + 1, ri_s1 i.val (.int x) lvc, rc)))
    rw [hb]
    exact sy_cov0 (sy_s1_ok hl ⟨x, rfl, hx⟩) hr hk
  | lstore i =>
    dsimp only [sy_pure] at h
    obtain ⟨e, r, x, rc, h2, rfl, hx, hr⟩ := sy_long_top h hs
    obtain ⟨hb, h3⟩ := ri_ok_eq h2
    cases h3
    show sy_cov ρ _ (ri_ok (Nat.blt (i + 1) nL) (some (0, pc + 2, ri_s2 i (.long x) lvc, rc)))
    rw [hb]
    exact sy_cov0 (sy_s2_ok hl ⟨x, rfl, hx⟩) hr hk
  | lstore_n i =>
    dsimp only [sy_pure] at h
    obtain ⟨e, r, x, rc, h2, rfl, hx, hr⟩ := sy_long_top h hs
    obtain ⟨hb, h3⟩ := ri_ok_eq h2
    cases h3
    show sy_cov ρ _ (ri_ok (Nat.blt (i.val + 1) nL) (some (0, pc + 1, ri_s2 i.val (.long x) lvc, rc)))
    rw [hb]
    exact sy_cov0 (sy_s2_ok hl ⟨x, rfl, hx⟩) hr hk
  | dstore i =>
    dsimp only [sy_pure] at h
    obtain ⟨e, e2, r, x, k, rc, h2, rfl, hx, hd, hr⟩ := sy_qd_top h hs
    obtain ⟨hb, h3⟩ := ri_ok_eq h2
    cases h3
    show sy_cov ρ _ (ri_ok (Nat.blt (i + 1) nL) (some (0, pc + 2, ri_s2 i (.double x) lvc, rc)))
    rw [hb]
    exact sy_cov0 (sy_s2_ok hl ⟨x, k, rfl, hx, hd⟩) hr hk
  | dstore_n i =>
    dsimp only [sy_pure] at h
    obtain ⟨e, e2, r, x, k, rc, h2, rfl, hx, hd, hr⟩ := sy_qd_top h hs
    obtain ⟨hb, h3⟩ := ri_ok_eq h2
    cases h3
    show sy_cov ρ _ (ri_ok (Nat.blt (i.val + 1) nL) (some (0, pc + 1, ri_s2 i.val (.double x) lvc, rc)))
    rw [hb]
    exact sy_cov0 (sy_s2_ok hl ⟨x, k, rfl, hx, hd⟩) hr hk
  | astore i =>
    dsimp only [sy_pure] at h
    obtain ⟨a, r, rfl, hb, h2⟩ := sy_qr_eq h
    obtain ⟨v, rc, rfl, hv, hr⟩ := sy_st_cons hs
    obtain ⟨hb2, h3⟩ := ri_ok_eq h2
    cases h3
    show sy_cov ρ _ (ri_r1 (v :: rc) (fun x r => ri_ok (Nat.blt i nL) (some (0, pc + 2, ri_s1 i (.ref x) lvc, r))) (fun r => ri_ok (Nat.blt i nL) (some (0, pc + 2, ri_s1 i .null lvc, r))))
    rw [hb2]
    rcases sy_ref_is hb hv with ⟨q, rfl⟩ | rfl
    · exact sy_cov0 (sy_s1_ok hl hv) hr hk
    · exact sy_cov0 (sy_s1_ok hl hv) hr hk
  | astore_n i =>
    dsimp only [sy_pure] at h
    obtain ⟨a, r, rfl, hb, h2⟩ := sy_qr_eq h
    obtain ⟨v, rc, rfl, hv, hr⟩ := sy_st_cons hs
    obtain ⟨hb2, h3⟩ := ri_ok_eq h2
    cases h3
    show sy_cov ρ _ (ri_r1 (v :: rc) (fun x r => ri_ok (Nat.blt i.val nL) (some (0, pc + 1, ri_s1 i.val (.ref x) lvc, r))) (fun r => ri_ok (Nat.blt i.val nL) (some (0, pc + 1, ri_s1 i.val .null lvc, r))))
    rw [hb2]
    rcases sy_ref_is hb hv with ⟨q, rfl⟩ | rfl
    · exact sy_cov0 (sy_s1_ok hl hv) hr hk
    · exact sy_cov0 (sy_s1_ok hl hv) hr hk
  | iinc i n =>
    dsimp only [sy_pure] at h
    obtain ⟨e, e2, he, h2⟩ := sy_g1_eq h
    obtain ⟨v, hv, hi⟩ := sy_get_ok hl he
    obtain ⟨x, rfl, hx⟩ := sy_is_int hi
    obtain ⟨hb, h3⟩ := ri_ok_eq h2
    split at h3
    · rename_i z hz
      cases h3
      show sy_cov ρ _ (ri_gi (ri_get i lvc) (fun x => ri_ok (Nat.blt i nL) (some (0, pc + 3, ri_s1 i (.int (x + Int32.ofInt n)) lvc, stc))))
      rw [hv, hb]
      obtain ⟨m, h4, h5⟩ := sy_add_ok (v := .int (x + Int32.ofInt n)) (c := z.1) (K' := z.2) hk hx rfl hz ⟨_, rfl, rfl⟩ (fun q1 q2 => by rw [Int32.toInt_add, sy_b32 q1 q2])
      exact ⟨_, List.mem_cons_self, m, _, _, rfl, sy_s1_ok (sy_lv_app m hl) h5, sy_st_app m hs, h4⟩
    · cases h3
  | iadd =>
    dsimp only [sy_pure] at h
    obtain ⟨b, r1, y, rc1, h1, rfl, hy, hs1⟩ := sy_int_top h hs
    obtain ⟨a, r, x, rc, h2, rfl, hx, hs2⟩ := sy_int_top h1 hs1
    exact sy_covg (v := .int (x + y)) h2 hl hs2 (fun c K' hc => sy_add_ok hk hx hy hc ⟨_, rfl, rfl⟩ (fun q1 q2 => by rw [Int32.toInt_add, sy_b32 q1 q2]))
  | isub =>
    dsimp only [sy_pure] at h
    obtain ⟨b, r1, y, rc1, h1, rfl, hy, hs1⟩ := sy_int_top h hs
    obtain ⟨a, r, x, rc, h2, rfl, hx, hs2⟩ := sy_int_top h1 hs1
    exact sy_covg (v := .int (x - y)) h2 hl hs2 (fun c K' hc => sy_sub_ok hk hx hy hc ⟨_, rfl, rfl⟩ (fun q1 q2 => by rw [Int32.toInt_sub, sy_b32 q1 q2]))
  | imul =>
    dsimp only [sy_pure] at h
    obtain ⟨b, r1, y, rc1, h1, rfl, hy, hs1⟩ := sy_int_top h hs
    obtain ⟨a, r, x, rc, h2, rfl, hx, hs2⟩ := sy_int_top h1 hs1
    exact sy_covg (v := .int (x * y)) h2 hl hs2 (fun c K' hc => sy_mul2_ok hk hx hy hc ⟨_, rfl, rfl⟩ (fun q1 q2 => by rw [Int32.toInt_mul, sy_b32 q1 q2]))
  | ladd =>
    dsimp only [sy_pure] at h
    obtain ⟨b, r1, y, rc1, h1, rfl, hy, hs1⟩ := sy_long_top h hs
    obtain ⟨a, r, x, rc, h2, rfl, hx, hs2⟩ := sy_long_top h1 hs1
    exact sy_covg (v := .long (x + y)) h2 hl hs2 (fun c K' hc => sy_add_ok hk hx hy hc ⟨_, rfl, rfl⟩ (fun q1 q2 => by rw [Int64.toInt_add, sy_b64 q1 q2]))
  | lsub =>
    dsimp only [sy_pure] at h
    obtain ⟨b, r1, y, rc1, h1, rfl, hy, hs1⟩ := sy_long_top h hs
    obtain ⟨a, r, x, rc, h2, rfl, hx, hs2⟩ := sy_long_top h1 hs1
    exact sy_covg (v := .long (x - y)) h2 hl hs2 (fun c K' hc => sy_sub_ok hk hx hy hc ⟨_, rfl, rfl⟩ (fun q1 q2 => by rw [Int64.toInt_sub, sy_b64 q1 q2]))
  | lmul =>
    dsimp only [sy_pure] at h
    obtain ⟨b, r1, y, rc1, h1, rfl, hy, hs1⟩ := sy_long_top h hs
    obtain ⟨a, r, x, rc, h2, rfl, hx, hs2⟩ := sy_long_top h1 hs1
    exact sy_covg (v := .long (x * y)) h2 hl hs2 (fun c K' hc => sy_mul2_ok hk hx hy hc ⟨_, rfl, rfl⟩ (fun q1 q2 => by rw [Int64.toInt_mul, sy_b64 q1 q2]))
  | idiv =>
    dsimp only [sy_pure] at h
    obtain ⟨b, r1, y, rc1, h1, rfl, hy, hs1⟩ := sy_int_top h hs
    obtain ⟨a, r, x, rc, h2, rfl, hx, hs2⟩ := sy_int_top h1 hs1
    have hy0 : y ≠ 0 := by
      cases hq : sy_div 0 a b K with
      | none => rw [hq] at h2; cases h2
      | some z => exact fun e9 => (sy_div_ok (v := .null) (z0 := 0) (c := z.1) (K' := z.2) hk hx hy hq).1 (by rw [e9]; rfl)
    show sy_cov ρ L (ri_ok (!decide (y = 0)) (some (0, pc + 1, lvc, .int (x / y) :: rc)))
    rw [decide_eq_false hy0]
    exact sy_covg (v := .int (x / y)) h2 hl hs2 (fun c K' hc => (sy_div_ok hk hx hy hc).2 ⟨_, rfl, rfl⟩ (fun q1 q2 => by rw [Int32.toInt_div, sy_b32 q1 q2]))
  | ldiv =>
    dsimp only [sy_pure] at h
    obtain ⟨b, r1, y, rc1, h1, rfl, hy, hs1⟩ := sy_long_top h hs
    obtain ⟨a, r, x, rc, h2, rfl, hx, hs2⟩ := sy_long_top h1 hs1
    have hy0 : y ≠ 0 := by
      cases hq : sy_div 1 a b K with
      | none => rw [hq] at h2; cases h2
      | some z => exact fun e9 => (sy_div_ok (v := .null) (z0 := 0) (c := z.1) (K' := z.2) hk hx hy hq).1 (by rw [e9]; rfl)
    show sy_cov ρ L (ri_ok (!decide (y = 0)) (some (0, pc + 1, lvc, .long (x / y) :: rc)))
    rw [decide_eq_false hy0]
    exact sy_covg (v := .long (x / y)) h2 hl hs2 (fun c K' hc => (sy_div_ok hk hx hy hc).2 ⟨_, rfl, rfl⟩ (fun q1 q2 => by rw [Int64.toInt_div, sy_b64 q1 q2]))
  | irem =>
    dsimp only [sy_pure] at h
    obtain ⟨b, r1, y, rc1, h1, rfl, hy, hs1⟩ := sy_int_top h hs
    obtain ⟨a, r, x, rc, h2, rfl, hx, hs2⟩ := sy_int_top h1 hs1
    have hy0 : y ≠ 0 := by
      cases hq : sy_rem a b K with
      | none => rw [hq] at h2; cases h2
      | some z => exact (sy_rem_ok (c := z.1) (K' := z.2) hk hx hy hq).1
    show sy_cov ρ L (ri_ok (!decide (y = 0)) (some (0, pc + 1, lvc, .int (x - x / y * y) :: rc)))
    rw [decide_eq_false hy0]
    exact sy_covg (v := .int (x - x / y * y)) h2 hl hs2 (fun c K' hc => (sy_rem_ok hk hx hy hc).2)
  | lrem =>
    dsimp only [sy_pure] at h
    obtain ⟨b, r1, y, rc1, h1, rfl, hy, hs1⟩ := sy_long_top h hs
    obtain ⟨a, r, x, rc, h2, rfl, hx, hs2⟩ := sy_long_top h1 hs1
    split at h2
    · rename_i z hq
      have hy0 : y ≠ 0 := fun e9 => (sy_div_ok (v := .null) (z0 := 0) (c := z.1) (K' := z.2) hk hx hy hq).1 (by rw [e9]; rfl)
      show sy_cov ρ L (ri_ok (!decide (y = 0)) (some (0, pc + 1, lvc, .long (x - x / y * y) :: rc)))
      rw [decide_eq_false hy0]
      exact sy_covany (t := 1) h2 hl hs2 hk ⟨_, rfl, rfl⟩
    · cases h2
  | iand =>
    dsimp only [sy_pure] at h
    obtain ⟨b, r1, y, rc1, h1, rfl, hy, hs1⟩ := sy_int_top h hs
    obtain ⟨a, r, x, rc, h2, rfl, hx, hs2⟩ := sy_int_top h1 hs1
    exact sy_covg (v := .int (x &&& y)) h2 hl hs2 (fun c K' hc => sy_and_ok hk hx hy hc)
  | ior =>
    dsimp only [sy_pure] at h
    obtain ⟨b, r1, y, rc1, h1, rfl, hy, hs1⟩ := sy_int_top h hs
    obtain ⟨a, r, x, rc, h2, rfl, hx, hs2⟩ := sy_int_top h1 hs1
    exact sy_covg (v := .int (x ||| y)) h2 hl hs2 (fun c K' hc => sy_or_ok hk hx hy hc)
  | ixor =>
    dsimp only [sy_pure] at h
    obtain ⟨b, r1, y, rc1, h1, rfl, hy, hs1⟩ := sy_int_top h hs
    obtain ⟨a, r, x, rc, h2, rfl, hx, hs2⟩ := sy_int_top h1 hs1
    exact sy_covg (v := .int (x ^^^ y)) h2 hl hs2 (fun c K' hc => sy_xor_ok (t := 0) (z := (x ^^^ y).toInt) hk hx hy ⟨_, rfl, rfl⟩ (sy_xsg x.toBitVec y.toBitVec) hc)
  | ishl =>
    dsimp only [sy_pure] at h
    obtain ⟨b, r1, y, rc1, h1, rfl, hy, hs1⟩ := sy_int_top h hs
    obtain ⟨a, r, x, rc, h2, rfl, hx, hs2⟩ := sy_int_top h1 hs1
    split at h2
    · rename_i m k hm hkk
      cases h2
      refine sy_cov0 hl ⟨⟨x <<< (y &&& 31), rfl, ?_⟩, hs2⟩ hk
      have e1 : m = x.toInt := sy_kc_ok hk hm hx
      have e2 : k = y.toInt := sy_kc_ok hk hkk hy
      show some _ = _
      rw [e1, e2, Int32.ofInt_toInt, Int32.ofInt_toInt]
    · exact sy_covany (t := 0) h2 hl hs2 hk ⟨_, rfl, rfl⟩
  | ishr =>
    dsimp only [sy_pure] at h
    obtain ⟨b, r1, y, rc1, h1, rfl, hy, hs1⟩ := sy_int_top h hs
    obtain ⟨a, r, x, rc, h2, rfl, hx, hs2⟩ := sy_int_top h1 hs1
    exact sy_covg (v := .int (x >>> (y &&& 31))) h2 hl hs2 (fun c K' hc => sy_shr_ok32 hk hx hy hc)
  | i2c =>
    dsimp only [sy_pure] at h
    obtain ⟨a, r, x, rc, h2, rfl, hx, hs2⟩ := sy_int_top h hs
    exact sy_covg (v := .int ((x.toUInt32 % 65536).toInt32)) h2 hl hs2 (fun c K' hc => sy_i2c_ok hk hx hc)
  | iushr =>
    dsimp only [sy_pure] at h
    obtain ⟨b, r1, y, rc1, h1, rfl, hy, hs1⟩ := sy_int_top h hs
    obtain ⟨a, r, x, rc, h2, rfl, hx, hs2⟩ := sy_int_top h1 hs1
    exact sy_covany (t := 0) h2 hl hs2 hk ⟨_, rfl, rfl⟩
  | land =>
    dsimp only [sy_pure] at h
    obtain ⟨b, r1, y, rc1, h1, rfl, hy, hs1⟩ := sy_long_top h hs
    split at h1
    · rename_i a r
      cases hb : (Nat.beq a.1 6 && sy_mx63 b) with
      | true =>
        rw [hb, cond_true] at h1
        rw [Bool.and_eq_true] at hb
        obtain ⟨v, rc, rfl, hv, hr⟩ := sy_st_cons hs1
        obtain ⟨t, e1, e2⟩ := a
        have e9 : t = 6 := Nat.eq_of_beq_eq_true hb.1
        subst e9
        obtain ⟨x, k, rfl, hx, hd⟩ := (hv : ∃ (x : UInt64) (k : Int), v = .long x.toInt64 ∧ sy_ev ρ e1 = some k ∧ sy_db k x)
        rw [sy_mx63_ok hb.2 hy]
        have h8 := sy_covg (v := .long (x &&& 9223372036854775807).toInt64) h1 hl hr (fun c K' hc => sy_fabs_ok hk hx hd hc)
        rw [UInt64.toInt64_and] at h8
        exact h8
      | false =>
        rw [hb, cond_false] at h1
        obtain ⟨a9, r9, x, rc, h2, rfl, hx, hs2⟩ := sy_long_top h1 hs1
        exact sy_covany (t := 1) h2 hl hs2 hk ⟨_, rfl, rfl⟩
    · cases h1
  | lor =>
    dsimp only [sy_pure] at h
    obtain ⟨b, r1, y, rc1, h1, rfl, hy, hs1⟩ := sy_long_top h hs
    obtain ⟨a, r, x, rc, h2, rfl, hx, hs2⟩ := sy_long_top h1 hs1
    exact sy_covany (t := 1) h2 hl hs2 hk ⟨_, rfl, rfl⟩
  | lxor =>
    dsimp only [sy_pure] at h
    obtain ⟨b, r1, y, rc1, h1, rfl, hy, hs1⟩ := sy_long_top h hs
    obtain ⟨a, r, x, rc, h2, rfl, hx, hs2⟩ := sy_long_top h1 hs1
    exact sy_covg (v := .long (x ^^^ y)) h2 hl hs2 (fun c K' hc => sy_xor_ok (t := 1) (z := (x ^^^ y).toInt) hk hx hy ⟨_, rfl, rfl⟩ (sy_xsg x.toBitVec y.toBitVec) hc)
  | lshl =>
    dsimp only [sy_pure] at h
    obtain ⟨b, r1, y, rc1, h1, rfl, hy, hs1⟩ := sy_int_top h hs
    obtain ⟨a, r, x, rc, h2, rfl, hx, hs2⟩ := sy_long_top h1 hs1
    split at h2
    · rename_i m k hm hkk
      cases h2
      refine sy_cov0 hl ⟨⟨x <<< (y.toInt64 &&& 63), rfl, ?_⟩, hs2⟩ hk
      have e1 : m = x.toInt := sy_kc_ok hk hm hx
      have e2 : k = y.toInt := sy_kc_ok hk hkk hy
      show some _ = _
      rw [e1, e2, Int64.ofInt_toInt, Int32.ofInt_toInt]
    · exact sy_covany (t := 1) h2 hl hs2 hk ⟨_, rfl, rfl⟩
  | lshr =>
    dsimp only [sy_pure] at h
    obtain ⟨b, r1, y, rc1, h1, rfl, hy, hs1⟩ := sy_int_top h hs
    obtain ⟨a, r, x, rc, h2, rfl, hx, hs2⟩ := sy_long_top h1 hs1
    exact sy_covg (v := .long (x >>> (y.toInt64 &&& 63))) h2 hl hs2 (fun c K' hc => sy_shr_ok64 hk hx hy hc)
  | lushr =>
    dsimp only [sy_pure] at h
    obtain ⟨b, r1, y, rc1, h1, rfl, hy, hs1⟩ := sy_int_top h hs
    obtain ⟨a, r, x, rc, h2, rfl, hx, hs2⟩ := sy_long_top h1 hs1
    exact sy_covany (t := 1) h2 hl hs2 hk ⟨_, rfl, rfl⟩
  | ineg =>
    dsimp only [sy_pure] at h
    obtain ⟨a, r, x, rc, h2, rfl, hx, hs2⟩ := sy_int_top h hs
    exact sy_covg (v := .int (-x)) h2 hl hs2 (fun c K' hc => sy_ng_ok hk hx hc ⟨_, rfl, rfl⟩ (fun q1 q2 => by rw [Int32.toInt_neg, sy_b32 q1 q2]))
  | lneg =>
    dsimp only [sy_pure] at h
    obtain ⟨a, r, x, rc, h2, rfl, hx, hs2⟩ := sy_long_top h hs
    exact sy_covg (v := .long (-x)) h2 hl hs2 (fun c K' hc => sy_ng_ok hk hx hc ⟨_, rfl, rfl⟩ (fun q1 q2 => by rw [Int64.toInt_neg, sy_b64 q1 q2]))
  | i2l =>
    dsimp only [sy_pure] at h
    obtain ⟨a, r, x, rc, h2, rfl, hx, hs2⟩ := sy_int_top h hs
    cases h2
    exact sy_cov0 hl ⟨⟨x.toInt64, rfl, by rw [Int32.toInt_toInt64]; exact hx⟩, hs2⟩ hk
  | l2i =>
    dsimp only [sy_pure] at h
    obtain ⟨a, r, x, rc, h2, rfl, hx, hs2⟩ := sy_long_top h hs
    split at h2
    · rename_i s hiv
      have hb9 := sy_iv_ok hk hiv hx
      cases hb : (sy_le (-2147483648) s.1 && sy_le s.2 2147483647) with
      | true =>
        rw [hb, cond_true] at h2
        rw [Bool.and_eq_true, sy_le_iff, sy_le_iff] at hb
        cases h2
        refine sy_cov0 hl ⟨⟨x.toInt32, rfl, ?_⟩, hs2⟩ hk
        rw [Int64.toInt_toInt32, sy_b32 (show (-2147483648 : Int) ≤ x.toInt by omega) (show x.toInt ≤ (2147483647 : Int) by omega)]
        exact hx
      | false =>
        rw [hb, cond_false] at h2
        exact sy_covany (t := 0) h2 hl hs2 hk ⟨_, rfl, rfl⟩
    · cases h2
  | i2b =>
    dsimp only [sy_pure] at h
    obtain ⟨a, r, x, rc, h2, rfl, hx, hs2⟩ := sy_int_top h hs
    exact sy_covg (v := .int (x.toInt8.toInt32)) h2 hl hs2 (fun c K' hc => sy_i2b_ok hk hx hc)
  | d2i =>
    dsimp only [sy_pure] at h
    obtain ⟨e, e2, r, x, k, rc, h2, rfl, hx, hd, hs2⟩ := sy_qd_top h hs
    split at h2
    · rename_i s hiv
      have hb9 := sy_iv_ok hk hiv hx
      cases hb : (sy_le 0 s.1 && sy_le s.2 2147483647) with
      | true =>
        rw [hb, cond_true] at h2
        rw [Bool.and_eq_true, sy_le_iff, sy_le_iff] at hb
        cases h2
        refine sy_cov0 hl ⟨⟨FP.d2i x, rfl, ?_⟩, hs2⟩ hk
        rw [sd_d2i hd.1 (by omega) (by omega)]
        exact hx
      | false =>
        rw [hb, cond_false] at h2
        exact sy_covany (t := 0) h2 hl hs2 hk ⟨_, rfl, rfl⟩
    · cases h2
  | dcmp op =>
    dsimp only [sy_pure] at h
    obtain ⟨eb, eb2, r1, y, k1, rc1, h1, rfl, hy, hd1, hs1⟩ := sy_qd_top h hs
    obtain ⟨ea, ea2, r, x, k, rc, h2, rfl, hx, hd, hs2⟩ := sy_qd_top h1 hs1
    cases h2
    obtain ⟨o, o1, o2, o3⟩ := sy_fcmp_ok (a := (ea, ea2)) (b := (eb, eb2)) op hk hx hd hy hd1
    exact ⟨_, List.mem_map.mpr ⟨o, o1, rfl⟩, [], lvc, _, rfl, hl, ⟨⟨_, rfl, by show some o.1 = _; rw [o2]⟩, hs2⟩, o3⟩
  | dconst n =>
    dsimp only [sy_pure] at h
    obtain ⟨hb, h3⟩ := ri_ok_eq h
    cases h3
    show sy_cov ρ _ (ri_ok (Nat.beq n.val 0) (some (0, pc + 1, lvc, .double FP.dconst0 :: stc)))
    rw [hb]
    exact sy_cov0 hl ⟨⟨0, 0, rfl, rfl, sd_cst_ok rfl _⟩, hs⟩ hk
  | i2d =>
    dsimp only [sy_pure] at h
    obtain ⟨a, r, x, rc, h2, rfl, hx, hs2⟩ := sy_int_top h hs
    cases h2
    have b1 := Int32.le_toInt x
    have b2 := Int32.toInt_lt x
    exact sy_cov0 hl ⟨⟨FP.i2d x, x.toInt, rfl, hx, sd_int_db (FP.Core.i2d_int x) (by omega) _⟩, hs2⟩ hk
  | l2d =>
    dsimp only [sy_pure] at h
    obtain ⟨a, r, x, rc, h2, rfl, hx, hs2⟩ := sy_long_top h hs
    exact sy_covg (v := .double (FP.l2d x)) h2 hl hs2 (fun c K' hc => sy_fl2d_ok hk hx hc)
  | dneg =>
    dsimp only [sy_pure] at h
    obtain ⟨e, e2, r, x, k, rc, h2, rfl, hx, hd, hs2⟩ := sy_qd_top h hs
    exact sy_covg (v := .double (FP.dneg x)) h2 hl hs2 (fun c K' hc => sy_fneg_ok hk hx hd hc)
  | dadd =>
    dsimp only [sy_pure] at h
    obtain ⟨eb, eb2, r1, y, ky, rc1, h1, rfl, hy, dy, hs1⟩ := sy_qd_top h hs
    obtain ⟨ea, ea2, r, x, kx, rc, h2, rfl, hx, dx, hs2⟩ := sy_qd_top h1 hs1
    unfold sy_go1 at h2
    split at h2
    · rename_i z hz
      cases h2
      obtain ⟨f3, m, k1, k2⟩ := sy_fadd_ok (a := (ea, ea2)) (b := (eb, eb2)) (c := z.1) (K' := z.2) hk hx dx hy dy hz
      refine ⟨_, List.mem_cons_self, m, lvc, .double (FP.dadd x y) :: rc, ?_, sy_lv_app m hl, ⟨k2, sy_st_app m hs2⟩, k1⟩
      show ri_ok (ri_n64 (FP.dadd x y)) _ = _
      rw [sd_n64 f3]
      rfl
    · cases h2
  | dsub =>
    dsimp only [sy_pure] at h
    obtain ⟨eb, eb2, r1, y, ky, rc1, h1, rfl, hy, dy, hs1⟩ := sy_qd_top h hs
    obtain ⟨ea, ea2, r, x, kx, rc, h2, rfl, hx, dx, hs2⟩ := sy_qd_top h1 hs1
    unfold sy_go1 at h2
    split at h2
    · rename_i z hz
      cases h2
      obtain ⟨f3, m, k1, k2⟩ := sy_fsub_ok (a := (ea, ea2)) (b := (eb, eb2)) (c := z.1) (K' := z.2) hk hx dx hy dy hz
      refine ⟨_, List.mem_cons_self, m, lvc, .double (FP.dsub x y) :: rc, ?_, sy_lv_app m hl, ⟨k2, sy_st_app m hs2⟩, k1⟩
      show ri_ok (ri_n64 (FP.dsub x y)) _ = _
      rw [sd_n64 f3]
      rfl
    · cases h2
  | dmul =>
    dsimp only [sy_pure] at h
    obtain ⟨eb, eb2, r1, y, ky, rc1, h1, rfl, hy, dy, hs1⟩ := sy_qd_top h hs
    obtain ⟨ea, ea2, r, x, kx, rc, h2, rfl, hx, dx, hs2⟩ := sy_qd_top h1 hs1
    unfold sy_go1 at h2
    split at h2
    · rename_i z hz
      cases h2
      obtain ⟨f3, m, k1, k2⟩ := sy_fmul_ok (a := (ea, ea2)) (b := (eb, eb2)) (c := z.1) (K' := z.2) hk hx dx hy dy hz
      refine ⟨_, List.mem_cons_self, m, lvc, .double (FP.dmul x y) :: rc, ?_, sy_lv_app m hl, ⟨k2, sy_st_app m hs2⟩, k1⟩
      show ri_ok (ri_n64 (FP.dmul x y)) _ = _
      rw [sd_n64 f3]
      rfl
    · cases h2
  | ddiv =>
    dsimp only [sy_pure] at h
    obtain ⟨eb, eb2, r1, y, ky, rc1, h1, rfl, hy, dy, hs1⟩ := sy_qd_top h hs
    obtain ⟨ea, ea2, r, x, kx, rc, h2, rfl, hx, dx, hs2⟩ := sy_qd_top h1 hs1
    unfold sy_go1 at h2
    split at h2
    · rename_i z hz
      cases h2
      obtain ⟨f3, m, k1, k2⟩ := sy_fdiv_ok (a := (ea, ea2)) (b := (eb, eb2)) (c := z.1) (K' := z.2) hk hx dx hy dy hz
      refine ⟨_, List.mem_cons_self, m, lvc, .double (FP.ddiv x y) :: rc, ?_, sy_lv_app m hl, ⟨k2, sy_st_app m hs2⟩, k1⟩
      show ri_ok (ri_n64 (FP.ddiv x y)) _ = _
      rw [sd_n64 f3]
      rfl
    · cases h2
  | lcmp =>
    dsimp only [sy_pure] at h
    obtain ⟨b, r1, y, rc1, h1, rfl, hy, hs1⟩ := sy_long_top h hs
    split at h1
    · rename_i a r
      cases hb : Nat.beq a.1 6 with
      | true =>
        rw [hb, cond_true] at h1
        obtain ⟨v, rc, rfl, hv, hr⟩ := sy_st_cons hs1
        obtain ⟨t, e1, e2⟩ := a
        have e9 : t = 6 := Nat.eq_of_beq_eq_true hb
        subst e9
        obtain ⟨x, k, rfl, hx, hd⟩ := (hv : ∃ (x : UInt64) (k : Int), v = .long x.toInt64 ∧ sy_ev ρ e1 = some k ∧ sy_db k x)
        exact sy_covany (t := 0) h1 hl hr hk ⟨_, rfl, rfl⟩
      | false =>
        rw [hb, cond_false] at h1
        obtain ⟨a9, r9, x, rc, h2, rfl, hx, hs2⟩ := sy_long_top h1 hs1
        cases h2
        exact sy_cov0 hl ⟨⟨x, y, rfl, hx, hy⟩, hs2⟩ hk
    · cases h1
  | dup =>
    dsimp only [sy_pure] at h
    obtain ⟨a, r, rfl, hb, h2⟩ := sy_c1_eq h
    obtain ⟨v, rc, rfl, hv, hr⟩ := sy_st_cons hs
    cases h2
    show sy_cov ρ _ (bif Nat.beq v.category 1 then some (0, pc + 1, lvc, v :: v :: rc) else none)
    rw [sy_is_cat hv, hb]
    exact sy_cov0 hl ⟨hv, hv, hr⟩ hk
  | pop =>
    dsimp only [sy_pure] at h
    obtain ⟨a, r, rfl, hb, h2⟩ := sy_c1_eq h
    obtain ⟨v, rc, rfl, hv, hr⟩ := sy_st_cons hs
    cases h2
    show sy_cov ρ _ (bif Nat.beq v.category 1 then some (0, pc + 1, lvc, rc) else none)
    rw [sy_is_cat hv, hb]
    exact sy_cov0 hl hr hk
  | dup2 =>
    dsimp only [sy_pure] at h
    split at h
    · rename_i a r
      obtain ⟨v, rc, rfl, hv, hr⟩ := sy_st_cons hs
      show sy_cov ρ L (bif Nat.beq v.category 2 then some (0, pc + 1, lvc, v :: v :: rc) else ri_c1 (v :: rc) (fun v r => ri_c1 r (fun u r => some (0, pc + 1, lvc, v :: u :: v :: u :: r))))
      rw [sy_is_cat hv]
      cases hb : Nat.beq (sy_cat a) 2 with
      | true =>
        rw [hb, cond_true] at h
        cases h
        exact sy_cov0 hl ⟨hv, hv, hr⟩ hk
      | false =>
        rw [hb, cond_false] at h
        obtain ⟨a9, r9, e9, hb2, h3⟩ := sy_c1_eq h
        cases e9
        obtain ⟨b, r2, rfl, hb3, h4⟩ := sy_c1_eq h3
        obtain ⟨u, rc2, rfl, hu, hr2⟩ := sy_st_cons hr
        cases h4
        rw [cond_false]
        show sy_cov ρ _ (bif Nat.beq v.category 1 then (bif Nat.beq u.category 1 then some (0, pc + 1, lvc, v :: u :: v :: u :: rc2) else none) else none)
        rw [sy_is_cat hv, hb2, sy_is_cat hu, hb3]
        exact sy_cov0 hl ⟨hv, hu, hv, hu, hr2⟩ hk
    · cases h
  | goto off =>
    dsimp only [sy_pure] at h
    exact sy_tg_ok h hl hs hk
  | ifCond c off =>
    dsimp only [sy_pure] at h
    split at h
    · rename_i a r
      cases hb : Nat.beq a.1 5 with
      | true =>
        rw [hb, cond_true] at h
        obtain ⟨v, rc, rfl, hv, hr⟩ := sy_st_cons hs
        obtain ⟨t, e1, e2⟩ := a
        have e9 : t = 5 := Nat.eq_of_beq_eq_true hb
        subst e9
        obtain ⟨x, y, rfl, hx, hy⟩ := (hv : ∃ x y : Int64, v = .int (lg_cmp x y) ∧ sy_ev ρ e1 = some x.toInt ∧ sy_ev ρ e2 = some y.toInt)
        exact sy_br_ok h hl hr hk hx hy (sy_lcmp_cz c x y)
      | false =>
        rw [hb, cond_false] at h
        obtain ⟨e, r9, x, rc, h2, rfl, hx, hr⟩ := sy_int_top h hs
        exact sy_br_ok h2 hl hr hk hx (y := 0) rfl (sy_cnd_cz c x 0)
    · cases h
  | if_icmp c off =>
    dsimp only [sy_pure] at h
    obtain ⟨b, r1, y, rc1, h1, rfl, hy, hs1⟩ := sy_int_top h hs
    obtain ⟨a, r, x, rc, h2, rfl, hx, hs2⟩ := sy_int_top h1 hs1
    exact sy_br_ok h2 hl hs2 hk hx hy (sy_cnd_cz c x y)
  | ifnonnull off =>
    dsimp only [sy_pure] at h
    obtain ⟨a, r, rfl, hb, h2⟩ := sy_qr_eq h
    obtain ⟨v, rc, rfl, hv, hr⟩ := sy_st_cons hs
    obtain ⟨t, e1, e2⟩ := a
    cases h3 : Nat.beq t 3 with
    | true =>
      have e9 : t = 3 := Nat.eq_of_beq_eq_true h3
      subst e9
      obtain ⟨q, rfl, -⟩ := (hv : ∃ q : Nat, v = .ref q ∧ e1 = .inr q)
      exact sy_tg_ok h2 hl hr hk
    | false =>
      have h4 : (Nat.beq t 3 || Nat.beq t 4) = true := hb
      rw [h3, Bool.false_or] at h4
      have e9 : t = 4 := Nat.eq_of_beq_eq_true h4
      subst e9
      have e8 : v = .null := hv
      subst e8
      cases h2
      exact sy_cov0 hl hr hk
  | ifnull off =>
    dsimp only [sy_pure] at h
    obtain ⟨a, r, rfl, hb, h2⟩ := sy_qr_eq h
    obtain ⟨v, rc, rfl, hv, hr⟩ := sy_st_cons hs
    obtain ⟨t, e1, e2⟩ := a
    cases h3 : Nat.beq t 3 with
    | true =>
      have e9 : t = 3 := Nat.eq_of_beq_eq_true h3
      subst e9
      obtain ⟨q, rfl, -⟩ := (hv : ∃ q : Nat, v = .ref q ∧ e1 = .inr q)
      cases h2
      exact sy_cov0 hl hr hk
    | false =>
      have h4 : (Nat.beq t 3 || Nat.beq t 4) = true := hb
      rw [h3, Bool.false_or] at h4
      have e9 : t = 4 := Nat.eq_of_beq_eq_true h4
      subst e9
      have e8 : v = .null := hv
      subst e8
      exact sy_tg_ok h2 hl hr hk
  | tableswitch dflt lo hi offs =>
    dsimp only [sy_pure] at h
    obtain ⟨e, r, x, rc, h2, rfl, hx, hr⟩ := sy_int_top h hs
    exact sy_switch_ok h2 hl hr hk hx
  | _ => cases h
