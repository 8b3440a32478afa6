/-! ===== the law's loop, with calls of both ===== -/
/-- an end of the law: 1, and not too many exceptions -/
def sl_fin (cb : Nat × Nat) (k : Nat) (out : ri_Out) : Prop := out.1 = .inl (some (.int 1)) ∧ out.2.2.2.2.1 = [] ∧ out.2.2.1 ≤ k * cb.1 ∧ out.2.2.2.1 ≤ k * cb.2
theorem sl_i32 {k : Nat} (h : k ≤ 100000) : (Int32.ofNat k).toInt = (k : Int) := by
  rw [Int32.toInt_ofNat']
  have e9 : Int32.size = 4294967296 := rfl
  rw [e9, Int.bmod_def]
  have e : ((k : Int) % ((4294967296 : Nat) : Int)) = (k : Int) := Int.emod_eq_of_lt (by omega) (by omega)
  omega
theorem sl_of {x : Int32} {k : Nat} (h : x.toInt = (k : Int)) (hk : k ≤ 100000) : x = Int32.ofNat k := Int32.toInt_inj.mp (by rw [h, sl_i32 hk])
theorem sl_sub {k : Nat} (h : k ≤ 100000) : (Int32.ofNat k - (Int8.ofInt 6).toInt32).toInt = (k : Int) - 6 := by
  rw [Int32.toInt_sub, sl_i32 h]
  have e9 : (Int8.ofInt 6).toInt32.toInt = 6 := by decide +kernel
  rw [e9, Int.bmod_def]
  have e8 : ((2 ^ 32 : Nat) : Int) = 4294967296 := by decide +kernel
  rw [e8]
  omega
/-- the head of the loop -/
theorem sl_head {E : sy_env} {d bud : Nat} {M : ri_M} {lvc : ri_L} {w : List ri_E} {fr i : Nat} {P : ri_Out → Prop} {rest : List ri_Op}
    (hM : M.2.2.2.2.2.drop 13 = (23, 0, .iload 4, 0, 0, .null, []) :: (25, 0, .aload_n 0, 0, 0, .null, []) :: (26, 25, .arraylength, 0, 0, .null, []) :: (27, 0, .bipush 6, 0, 0, .null, []) :: (29, 17, .isub, 2, 9999, .null, []) :: (30, 17, .if_icmp .gt 1557, 2, 9999, .null, [980]) :: rest)
    (h4 : ri_get 4 lvc = some (.int (Int32.ofNat i))) (h0 : ri_get 0 lvc = some (.ref 1000000)) (hi : i ≤ 100000) (hL : E.2.2.2.2.2.2.1 ≤ 100000)
    (hout : E.2.2.2.2.2.2.1 < i + 6 → sy_Ev E d bud M (M.2.2.2.2.2.drop 980) 1587 lvc [] w 0 0 fr P) (hin : i + 6 ≤ E.2.2.2.2.2.2.1 → sy_Ev E d bud M rest 33 lvc [] w 0 0 fr P) :
    sy_Ev E d bud M (M.2.2.2.2.2.drop 13) 23 lvc [] w 0 0 fr P := by
  rw [hM]
  refine sy_ev_tk (j := 0) (p2 := 25) (l2 := lvc) (s2 := [.int (Int32.ofNat i)]) ?_ rfl (Or.inl rfl) ?_
  · show ri_gv (ri_get 4 lvc) (fun v => some (0, 23 + 2, lvc, v :: [])) = _
    rw [h4]; rfl
  refine sy_ev_tk (j := 0) (p2 := 26) (l2 := lvc) (s2 := [.ref 1000000, .int (Int32.ofNat i)]) ?_ rfl (Or.inl rfl) ?_
  · show ri_gr (ri_get 0 lvc) (fun x => some (0, 25 + 1, lvc, Value.ref x :: [Value.int (Int32.ofNat i)])) (some (0, 25 + 1, lvc, Value.null :: [Value.int (Int32.ofNat i)])) = _
    rw [h0]; rfl
  refine sy_ev25 ?_
  refine sy_ev_tk (j := 0) (p2 := 29) (l2 := lvc) (s2 := [.int (Int8.ofInt 6).toInt32, .int (Int32.ofNat E.2.2.2.2.2.2.1), .int (Int32.ofNat i)]) rfl rfl (Or.inl rfl) ?_
  refine sy_ev_tk (j := 0) (p2 := 30) (l2 := lvc) (s2 := [.int (Int32.ofNat E.2.2.2.2.2.2.1 - (Int8.ofInt 6).toInt32), .int (Int32.ofNat i)]) rfl rfl (Or.inr ⟨rfl, rfl⟩) ?_
  have e1 := sl_sub hL
  have e2 := sl_i32 hi
  by_cases hc : E.2.2.2.2.2.2.1 < i + 6
  · refine sy_ev_tk (j := 1) (p2 := 1587) (l2 := lvc) (s2 := []) (cur2 := M.2.2.2.2.2.drop 980) ?_ (by show ri_drop M.2.2.2.2.2 980 = _; exact ri_drop_eq _ _) (Or.inr ⟨rfl, rfl⟩) (hout hc)
    show ri_br (decide (Int32.ofNat E.2.2.2.2.2.2.1 - (Int8.ofInt 6).toInt32 < Int32.ofNat i)) 30 1557 (30 + 3) lvc [] = _
    have h9 : Int32.ofNat E.2.2.2.2.2.2.1 - (Int8.ofInt 6).toInt32 < Int32.ofNat i := by rw [Int32.lt_iff_toInt_lt, e1, e2]; omega
    rw [decide_eq_true h9]
    rfl
  · refine sy_ev_tk (j := 0) (p2 := 33) (l2 := lvc) (s2 := []) (cur2 := rest) ?_ rfl (Or.inr ⟨rfl, rfl⟩) (hin (by omega))
    show ri_br (decide (Int32.ofNat E.2.2.2.2.2.2.1 - (Int8.ofInt 6).toInt32 < Int32.ofNat i)) 30 1557 (30 + 3) lvc [] = _
    have h9 : ¬ Int32.ofNat E.2.2.2.2.2.2.1 - (Int8.ofInt 6).toInt32 < Int32.ofNat i := by rw [Int32.lt_iff_toInt_lt, e1, e2]; omega
    rw [decide_eq_false h9]
    rfl

def sl_H (G a0 a1 a2 a3 a4 : Nat) : sy_H := [((1, 1), 0, .inr a0, .inl 0), ((244, 7), 0, .inr a0, .inl 0), ((59, 3), 0, .inr a1, .inl 0), ((115, 3), 0, .inr a2, .inl 0), ((0, 4), 0, .inr a3, .inl 0), ((244, 5), 0, .inr a3, .inl 0), ((0, 1), 0, .inr a4, .inl 0), ((244, 11), 0, .inr a4, .inl 0), ((58, 7), 10, .inr a0, .inl (Int.ofNat 249)), ((999999, 0), 11, .inr G, .inl 0)]
def sl_K0 : sy_K := ([((-1), 400), (0, 1), (0, 30720), (0, 30720), (-2147483648, 2147483647), (-2147483648, 2147483647), (-2147483648, 2147483647), (-2147483648, 2147483647), (-2147483648, 2147483647), (-2147483648, 2147483647), (0, 400), (0, 400), (0, 3066)], [[(10, [0]), (-1, [10])], [(10, [0]), (-1, [9])]])
def sl_KC : sy_K := ([((-1), 400), (0, 1), (0, 30720), (0, 30720), (0, 400), (6, 3072), ((-1), 400), (0, 1), (0, 30720), (0, 30720), (-2147483648, 2147483647), (-2147483648, 2147483647), (-2147483648, 2147483647), (-2147483648, 2147483647), (-2147483648, 2147483647), (-2147483648, 2147483647), (0, 400), (0, 400), (0, 3066)], [[(10, [13]), (-1, [16])], [(10, [13]), (-1, [15])], [(-1, [13]), (1, [0]), (6, [])], [(1, [13]), (-1, [0]), (-6, [])]])
def sl_lvb (qx qm qo n : Nat) : sy_L := [(0, 3, .inr 1000000, .inl 0), (1, 3, .inr qx, .inl 0), (2, 3, .inr qm, .inl 0), (3, 3, .inr qo, .inl 0), (4, 0, .inr n, .inl 0)]
def sl_cu (G qx qm qo : Nat) : sy_Cut := (13, sl_lvb qx qm qo 13, sl_KC, sl_H G 14 15 16 17 18, [], [(1, [])])
theorem sl_kind0 {ρ : List Int} {w : List ri_E} {p : Nat × Nat} {a : Nat} (h : sy_hx ρ w (p, 0, .inr a, .inl 0)) : ∃ x : Int32, sy_wv w p.1 p.2 = some (.int x) ∧ sy_at ρ a = some x.toInt := by
  rcases h with ⟨v, h1, h2⟩ | ⟨h1, -⟩ | ⟨h1, -⟩
  · obtain ⟨x, rfl, h3⟩ := (h2 : ∃ x : Int32, v = .int x ∧ sy_ev ρ (.inr a) = some x.toInt)
    exact ⟨x, h1, h3⟩
  · cases h1
  · cases h1
theorem sl_same {ρ : List Int} {a : Nat} {x y : Int32} (h1 : sy_at ρ a = some x.toInt) (h2 : sy_at ρ a = some y.toInt) : y = x := Int32.toInt_inj.mp (Option.some.inj (h2.symm.trans h1))
theorem sl_H_to {ρ : List Int} {w : List ri_E} {G a0 a1 a2 a3 a4 : Nat} (h : sy_hok ρ (sl_H G a0 a1 a2 a3 a4) w) : ∃ v0 v1 v2 v3 v4 : Int32, sy_at ρ a0 = some v0.toInt ∧ sy_at ρ a1 = some v1.toInt ∧ sy_at ρ a2 = some v2.toInt ∧ sy_at ρ a3 = some v3.toInt ∧ sy_at ρ a4 = some v4.toInt ∧ ∀ (ρ2 : List Int) (b0 b1 b2 b3 b4 : Nat), sy_at ρ2 b0 = some v0.toInt → sy_at ρ2 b1 = some v1.toInt → sy_at ρ2 b2 = some v2.toInt → sy_at ρ2 b3 = some v3.toInt → sy_at ρ2 b4 = some v4.toInt → sy_hok ρ2 (sl_H G b0 b1 b2 b3 b4) w := by
  obtain ⟨x0, c0, d0⟩ := sl_kind0 (h ((1, 1), 0, .inr a0, .inl 0) (by simp [sl_H]))
  obtain ⟨x1, c1, d1⟩ := sl_kind0 (h ((244, 7), 0, .inr a0, .inl 0) (by simp [sl_H]))
  have e1 := sl_same d0 d1
  rw [e1] at c1
  obtain ⟨x2, c2, d2⟩ := sl_kind0 (h ((59, 3), 0, .inr a1, .inl 0) (by simp [sl_H]))
  obtain ⟨x3, c3, d3⟩ := sl_kind0 (h ((115, 3), 0, .inr a2, .inl 0) (by simp [sl_H]))
  obtain ⟨x4, c4, d4⟩ := sl_kind0 (h ((0, 4), 0, .inr a3, .inl 0) (by simp [sl_H]))
  obtain ⟨x5, c5, d5⟩ := sl_kind0 (h ((244, 5), 0, .inr a3, .inl 0) (by simp [sl_H]))
  have e5 := sl_same d4 d5
  rw [e5] at c5
  obtain ⟨x6, c6, d6⟩ := sl_kind0 (h ((0, 1), 0, .inr a4, .inl 0) (by simp [sl_H]))
  obtain ⟨x7, c7, d7⟩ := sl_kind0 (h ((244, 11), 0, .inr a4, .inl 0) (by simp [sl_H]))
  have e7 := sl_same d6 d7
  rw [e7] at c7
  have m6 := h ((58, 7), 10, .inr a0, .inl (Int.ofNat 249)) (by simp [sl_H])
  have m7 := h ((999999, 0), 11, .inr G, .inl 0) (by simp [sl_H])
  have g7 : sy_gs w (sy_gn (11, .inr G, .inl 0)) := by
    rcases m7 with ⟨v, -, h2⟩ | ⟨h1, -⟩ | ⟨-, h1⟩
    · exact (h2 : False).elim
    · cases h1
    · exact h1
  have g6 : ∀ (ρ2 : List Int) (a9 : Nat), sy_at ρ2 a9 = some x0.toInt → sy_gh ρ2 w 58 7 (.inr a9) (.inl (Int.ofNat 249)) := by
    intro ρ2 a9 h9
    rcases m6 with ⟨v, -, h2⟩ | ⟨-, h1⟩ | ⟨h1, -⟩
    · exact (h2 : False).elim
    · obtain ⟨x, y, z1, z2, z3⟩ := (h1 : ∃ (b : Int) (q2' : Nat), sy_ev ρ (.inr a0) = some b ∧ (.inl (Int.ofNat 249) : sy_E) = .inl (Int.ofNat q2') ∧ ∀ j : Nat, (j : Int) < b → sy_nv w 58 j = sy_nv w q2' j)
      have ex : x = x0.toInt := Option.some.inj ((z1.symm.trans (show sy_ev ρ (.inr a0) = some x0.toInt from d0)))
      subst ex
      exact ⟨_, y, h9, z2, z3⟩
    · cases h1
  refine ⟨x0, x2, x3, x4, x6, d0, d2, d3, d4, d6, fun ρ2 b0 b1 b2 b3 b4 f0 f1 f2 f3 f4 x hx => ?_⟩
  simp only [sl_H, List.mem_cons, List.not_mem_nil, or_false] at hx
  rcases hx with rfl | rfl | rfl | rfl | rfl | rfl | rfl | rfl | rfl | rfl
  · exact Or.inl ⟨_, c0, _, rfl, f0⟩
  · exact Or.inl ⟨_, c1, _, rfl, f0⟩
  · exact Or.inl ⟨_, c2, _, rfl, f1⟩
  · exact Or.inl ⟨_, c3, _, rfl, f2⟩
  · exact Or.inl ⟨_, c4, _, rfl, f3⟩
  · exact Or.inl ⟨_, c5, _, rfl, f3⟩
  · exact Or.inl ⟨_, c6, _, rfl, f4⟩
  · exact Or.inl ⟨_, c7, _, rfl, f4⟩
  · exact Or.inr (Or.inl ⟨rfl, g6 ρ2 b0 f0⟩)
  · exact Or.inr (Or.inr ⟨rfl, g7⟩)
def sl_hd2 (T : Nat → Option sy_C) (RU : sy_RT) (G qx qm qo n9 i : Nat) (lvc : ri_L) (w : List ri_E) : Prop := ri_get 0 lvc = some (.ref 1000000) ∧ ri_get 1 lvc = some (.ref qx) ∧ ri_get 2 lvc = some (.ref qm) ∧ ri_get 3 lvc = some (.ref qo) ∧ ri_get 4 lvc = some (.int (Int32.ofNat i)) ∧ w.length = n9 ∧ sy_tw T w ∧ sy_ru RU [] w ∧ ∃ v0 v1 v2 v3 v4 : Int32, (0 ≤ v0.toInt ∧ v0.toInt ≤ 400) ∧ (0 ≤ v1.toInt ∧ v1.toInt ≤ 10 * (i : Int)) ∧ (0 ≤ v2.toInt ∧ v2.toInt ≤ 10 * (i : Int)) ∧ (0 ≤ v3.toInt ∧ v3.toInt ≤ 1) ∧ ((-1) ≤ v4.toInt ∧ v4.toInt ≤ 400) ∧ sy_hok [v4.toInt, v3.toInt, v2.toInt, v1.toInt, v0.toInt] (sl_H G 0 1 2 3 4) w
theorem sl_loop2 {E : sy_env} {own : Bool → Nat → Bool} {T : Nat → Option sy_C} {RU : sy_RT} {CT : List sy_Ct} {PC : List (Bool × pv_Ct)} {C : sy_Ct} {M : ri_M} {cb : Nat × Nat} {G qx qm qo n n9 : Nat} {hs hs' : List sy_Hn} {rest : List ri_Op} (hT : ∀ n, 1000000 ≤ n → ri_nth E.2.2.2.1 n = none) (hdj : ∀ s q, own s q = true → own (!s) q = false) (hPC : ∀ c ∈ PC, pv_Cok E own T (pv_RF c.1 RU) c.2) (hCT : ∀ c ∈ CT, sy_Cok E T RU c) (hal : E.2.2.2.2.2.2.2.1 n9 = false)
    (hM : M.2.2.2.2.2.drop 13 = (23, 0, .iload 4, 0, 0, .null, []) :: (25, 0, .aload_n 0, 0, 0, .null, []) :: (26, 25, .arraylength, 0, 0, .null, []) :: (27, 0, .bipush 6, 0, 0, .null, []) :: (29, 17, .isub, 2, 9999, .null, []) :: (30, 17, .if_icmp .gt 1557, 2, 9999, .null, [980]) :: rest)
    (hM2 : M.2.2.2.2.2.drop 980 = [(1587, 0, .iconst 1, 0, 0, .null, []), (1588, 16, .ireturn, 0, 0, .null, [])]) (hMr : M.2.2.2.1 = some .boolean)
    (hxs : ∀ j : Nat, ∃ x : Int32, E.2.2.2.2.2.1 j = .int x) (hL : E.2.2.2.2.2.2.1 ≤ 3072)
    (hC : C.2.2.2.2 = (sl_K0, sl_H G 1 9 10 11 12, [], C.2.2.2.2.2.2.2.1, []))
    (hrun : lw_run (sy_e4 E) T RU CT PC C [sl_cu G qx qm qo] none cb n [] C.2.1 C.2.2.1 M 19 rest 33 (sl_lvb qx qm qo 0) [] (sl_H G 1 9 10 11 12) [] sl_K0 0 0 hs = some hs') :
    ∀ k9 i : Nat, i ≤ 3072 → E.2.2.2.2.2.2.1 < i + 6 * k9 + 6 → ∀ (lvc : ri_L) (w : List ri_E) (fr d bud : Nat), C.2.1 ≤ d → C.2.2.1 ≤ bud → sl_hd2 T RU G qx qm qo n9 i lvc w → sy_Ev E d bud M (M.2.2.2.2.2.drop 13) 23 lvc [] w 0 0 fr (sl_fin cb k9) := by
  have hr19 : rest = M.2.2.2.2.2.drop 19 := by
    have h9 := congrArg (List.drop 6) hM
    rw [List.drop_drop] at h9
    exact h9.symm
  have out0 : ∀ (k : Nat) (lvc : ri_L) (w : List ri_E) (fr d bud : Nat), sy_Ev E d bud M (M.2.2.2.2.2.drop 980) 1587 lvc [] w 0 0 fr (sl_fin cb k) := by
    intro k lvc w fr d bud
    rw [hM2]
    refine sy_ev_tk (j := 0) (p2 := 1588) (l2 := lvc) (s2 := [.int 1]) (by show some (0, 1587 + 1, lvc, [Value.int (Int32.ofInt 1)]) = _; rw [show (Int32.ofInt 1) = (1 : Int32) from rfl]) rfl (Or.inl rfl) ?_
    refine sy_ev16 (out := (.inl (some (.int 1)), w, 0, 0, [], fr)) ?_ ⟨rfl, rfl, Nat.zero_le _, Nat.zero_le _⟩
    show ri_ok (ri_fitR M.2.2.2.1 (.int 1) || ri_fitC M.2.2.2.1 1) _ = _
    rw [hMr]
    rfl
  intro k9
  induction k9 with
  | zero =>
    intro i hi hk lvc w fr d bud h1 h2 hh
    obtain ⟨g0, g1, g2, g3, g4, -⟩ := hh
    exact sl_head hM g4 g0 (by omega) (by omega) (fun _ => out0 0 lvc w fr d bud) (fun z => absurd z (by omega))
  | succ k9 ih =>
    intro i hi3 hk lvc w fr d bud h1 h2 hh
    obtain ⟨g0, g1, g2, g3, g4, g5, g6, g7, v0, v1, v2, v3, v4, ⟨l0, r0⟩, ⟨l1, r1⟩, ⟨l2, r2⟩, ⟨l3, r3⟩, ⟨l4, r4⟩, hH9⟩ := hh
    refine sl_head hM g4 g0 (by omega) (by omega) (fun _ => out0 _ lvc w fr d bud) (fun hin => ?_)
    have hi6 : i ≤ 3066 := by omega
    have ei : (Int32.ofNat i).toInt = (i : Int) := sl_i32 (by omega)
    obtain ⟨y0, hy0⟩ := hxs (i + 0)
    obtain ⟨y1, hy1⟩ := hxs (i + 1)
    obtain ⟨y2, hy2⟩ := hxs (i + 2)
    obtain ⟨y3, hy3⟩ := hxs (i + 3)
    obtain ⟨y4, hy4⟩ := hxs (i + 4)
    obtain ⟨y5, hy5⟩ := hxs (i + 5)
    -- the world, with the round's own numbers
    obtain ⟨w0, w1, w2, w3, w4, c0, c1, c2, c3, c4, c99⟩ := sl_H_to hH9
    have e0 : w0.toInt = v0.toInt := (Option.some.inj c0).symm
    have e1 : w1.toInt = v1.toInt := (Option.some.inj c1).symm
    have e2 : w2.toInt = v2.toInt := (Option.some.inj c2).symm
    have e3 : w3.toInt = v3.toInt := (Option.some.inj c3).symm
    have e4 : w4.toInt = v4.toInt := (Option.some.inj c4).symm
    have hH0 : sy_hok [v4.toInt, v3.toInt, v2.toInt, v1.toInt, y5.toInt, y4.toInt, y3.toInt, y2.toInt, y1.toInt, y0.toInt, v0.toInt, v0.toInt, (i : Int)] (sl_H G 1 9 10 11 12) w := c99 _ 1 9 10 11 12 (by rw [e0]; rfl) (by rw [e1]; rfl) (by rw [e2]; rfl) (by rw [e3]; rfl) (by rw [e4]; rfl)
    have hk0 : sy_ok [v4.toInt, v3.toInt, v2.toInt, v1.toInt, y5.toInt, y4.toInt, y3.toInt, y2.toInt, y1.toInt, y0.toInt, v0.toInt, v0.toInt, (i : Int)] sl_K0 := by
      have a0 : sy_ok [] (([], []) : sy_K) := ⟨rfl, fun j r hr => absurd (sy_at_lt hr) (Nat.not_lt_zero _), fun p hp => by cases hp⟩
      have a1 := sy_ok_app a0 (i : Int) (lo := 0) (hi := 3066) (by omega) (by omega) (fs := []) (fun p hp => by cases hp)
      have a2 := sy_ok_app a1 v0.toInt (lo := 0) (hi := 400) l0 r0 (fs := []) (fun p hp => by cases hp)
      have a3 := sy_ok_app a2 v0.toInt (lo := 0) (hi := 400) l0 r0 (fs := []) (fun p hp => by cases hp)
      have wd : ∀ (y : Int32) (ρ9 : List Int) (R9 : List (Int × Int)), sy_ok ρ9 (R9, []) → sy_ok (y.toInt :: ρ9) ((-2147483648, 2147483647) :: R9, []) := fun y ρ9 R9 h9 => sy_ok_app h9 y.toInt (Int32.le_toInt y) (by have := Int32.toInt_lt y; omega) (fs := []) (fun p hp => by cases hp)
      have a9 := wd y5 _ _ (wd y4 _ _ (wd y3 _ _ (wd y2 _ _ (wd y1 _ _ (wd y0 _ _ a3)))))
      have z1 := sy_ok_app a9 v1.toInt (lo := 0) (hi := 30720) l1 (by omega) (fs := []) (fun p hp => by cases hp)
      have z2 := sy_ok_app z1 v2.toInt (lo := 0) (hi := 30720) l2 (by omega) (fs := []) (fun p hp => by cases hp)
      have z3 := sy_ok_app z2 v3.toInt (lo := 0) (hi := 1) l3 r3 (fs := []) (fun p hp => by cases hp)
      have z4 := sy_ok_app z3 v4.toInt (lo := (-1)) (hi := 400) l4 r4 (fs := []) (fun p hp => by cases hp)
      refine ⟨z4.1, z4.2.1, fun p hp => ?_⟩
      unfold sl_K0 at hp
      simp only [List.mem_cons, List.not_mem_nil, or_false] at hp
      rcases hp with rfl | rfl
      · refine ⟨rfl, ?_⟩
        show 0 ≤ 10 * ((i : Int) * 1) + (-1 * (v2.toInt * 1) + 0)
        omega
      · refine ⟨rfl, ?_⟩
        show 0 ≤ 10 * ((i : Int) * 1) + (-1 * (v1.toInt * 1) + 0)
        omega
    have s0 : sy_at [v4.toInt, v3.toInt, v2.toInt, v1.toInt, y5.toInt, y4.toInt, y3.toInt, y2.toInt, y1.toInt, y0.toInt, v0.toInt, v0.toInt, (i : Int)] 0 = some (i : Int) := rfl
    have hSc : sy_Sc E [v4.toInt, v3.toInt, v2.toInt, v1.toInt, y5.toInt, y4.toInt, y3.toInt, y2.toInt, y1.toInt, y0.toInt, v0.toInt, v0.toInt, (i : Int)] := ⟨(i : Int), s0, by omega, by omega, fun c hc => by
      match c, hc with
      | 0, _ => exact ⟨y0, hy0, rfl⟩
      | 1, _ => exact ⟨y1, hy1, rfl⟩
      | 2, _ => exact ⟨y2, hy2, rfl⟩
      | 3, _ => exact ⟨y3, hy3, rfl⟩
      | 4, _ => exact ⟨y4, hy4, rfl⟩
      | 5, _ => exact ⟨y5, hy5, rfl⟩
      | _ + 6, h6 => exact absurd h6 (by omega)⟩
    have hy : sy_Hy E T RU C (sl_fin cb (k9 + 1)) [v4.toInt, v3.toInt, v2.toInt, v1.toInt, y5.toInt, y4.toInt, y3.toInt, y2.toInt, y1.toInt, y0.toInt, v0.toInt, v0.toInt, (i : Int)] w := by
      refine ⟨by rw [hC]; rfl, ?_, fun _ => hSc⟩
      intro out ho
      obtain ⟨-, -, -, -, o, ho, -⟩ := ho
      rw [hC] at ho
      cases ho
    have hcut : sy_CutOk E T RU C [sl_cu G qx qm qo] none cb (sl_fin cb (k9 + 1)) [v4.toInt, v3.toInt, v2.toInt, v1.toInt, y5.toInt, y4.toInt, y3.toInt, y2.toInt, y1.toInt, y0.toInt, v0.toInt, v0.toInt, (i : Int)] [v4.toInt, v3.toInt, v2.toInt, v1.toInt, y5.toInt, y4.toInt, y3.toInt, y2.toInt, y1.toInt, y0.toInt, v0.toInt, v0.toInt, (i : Int)] w M := by
      intro cu2 hcu2 τ lv2 w2 fr2 d3 b3 o2 nxt2 nc ns q1 q2' q3 q4 q5 q6 q7 q8 q9 q10 q11 q12 q13
      have ecu := List.mem_singleton.mp hcu2
      subst ecu
      unfold sl_cu at q4 q5 q6 q8 q9 ⊢
      dsimp only at q4 q5 q6 q8 q9 ⊢
      have eo : o2.1 = 23 := by
        rw [hM] at q4
        rw [← (List.cons.inj q4).1]
      rw [eo]
      obtain ⟨m, rfl⟩ := q1
      have b0 : sy_at (m ++ [v4.toInt, v3.toInt, v2.toInt, v1.toInt, y5.toInt, y4.toInt, y3.toInt, y2.toInt, y1.toInt, y0.toInt, v0.toInt, v0.toInt, (i : Int)]) 0 = some (i : Int) := sy_at_app s0 m
      obtain ⟨v0, c0, ⟨x0, rfl, g10⟩⟩ := q6 (0, 3, .inr 1000000, .inl 0) (by simp [sl_lvb])
      obtain ⟨v1, c1, ⟨x1, rfl, g11⟩⟩ := q6 (1, 3, .inr qx, .inl 0) (by simp [sl_lvb])
      obtain ⟨v2, c2, ⟨x2, rfl, g12⟩⟩ := q6 (2, 3, .inr qm, .inl 0) (by simp [sl_lvb])
      obtain ⟨v3, c3, ⟨x3, rfl, g13⟩⟩ := q6 (3, 3, .inr qo, .inl 0) (by simp [sl_lvb])
      obtain ⟨v4, c4, ⟨x4, rfl, g14⟩⟩ := q6 (4, 0, .inr 13, .inl 0) (by simp [sl_lvb])
      cases g10; cases g11; cases g12; cases g13
      have z4 : sy_at (m ++ [v4.toInt, v3.toInt, v2.toInt, v1.toInt, y5.toInt, y4.toInt, y3.toInt, y2.toInt, y1.toInt, y0.toInt, v0.toInt, v0.toInt, (i : Int)]) 13 = some x4.toInt := g14
      obtain ⟨t0, t1, t2, t3, t4, s0, s1, s2, s3, s4, zH⟩ := sl_H_to q8
      have f1 := (q5.2.2 [(1, [13]), (-1, [0]), (-6, [])] (by simp [sl_KC])).2
      have f2 := (q5.2.2 [(-1, [13]), (1, [0]), (6, [])] (by simp [sl_KC])).2
      have h2 := (q5.2.2 [(10, [13]), (-1, [16])] (by simp [sl_KC])).2
      have h1 := (q5.2.2 [(10, [13]), (-1, [15])] (by simp [sl_KC])).2
      have u0 : sy_tot (m ++ [v4.toInt, v3.toInt, v2.toInt, v1.toInt, y5.toInt, y4.toInt, y3.toInt, y2.toInt, y1.toInt, y0.toInt, v0.toInt, v0.toInt, (i : Int)]) 0 = (i : Int) := by unfold sy_tot; rw [b0]; rfl
      have u4 : sy_tot (m ++ [v4.toInt, v3.toInt, v2.toInt, v1.toInt, y5.toInt, y4.toInt, y3.toInt, y2.toInt, y1.toInt, y0.toInt, v0.toInt, v0.toInt, (i : Int)]) 13 = x4.toInt := by unfold sy_tot; rw [z4]; rfl
      have p2 : sy_tot (m ++ [v4.toInt, v3.toInt, v2.toInt, v1.toInt, y5.toInt, y4.toInt, y3.toInt, y2.toInt, y1.toInt, y0.toInt, v0.toInt, v0.toInt, (i : Int)]) 16 = t2.toInt := by unfold sy_tot; rw [s2]; rfl
      have p1 : sy_tot (m ++ [v4.toInt, v3.toInt, v2.toInt, v1.toInt, y5.toInt, y4.toInt, y3.toInt, y2.toInt, y1.toInt, y0.toInt, v0.toInt, v0.toInt, (i : Int)]) 15 = t1.toInt := by unfold sy_tot; rw [s1]; rfl
      have f1' : 0 ≤ 1 * (sy_tot (m ++ [v4.toInt, v3.toInt, v2.toInt, v1.toInt, y5.toInt, y4.toInt, y3.toInt, y2.toInt, y1.toInt, y0.toInt, v0.toInt, v0.toInt, (i : Int)]) 13 * 1) + (-1 * (sy_tot (m ++ [v4.toInt, v3.toInt, v2.toInt, v1.toInt, y5.toInt, y4.toInt, y3.toInt, y2.toInt, y1.toInt, y0.toInt, v0.toInt, v0.toInt, (i : Int)]) 0 * 1) + (-6 * 1 + 0)) := f1
      have f2' : 0 ≤ -1 * (sy_tot (m ++ [v4.toInt, v3.toInt, v2.toInt, v1.toInt, y5.toInt, y4.toInt, y3.toInt, y2.toInt, y1.toInt, y0.toInt, v0.toInt, v0.toInt, (i : Int)]) 13 * 1) + (1 * (sy_tot (m ++ [v4.toInt, v3.toInt, v2.toInt, v1.toInt, y5.toInt, y4.toInt, y3.toInt, y2.toInt, y1.toInt, y0.toInt, v0.toInt, v0.toInt, (i : Int)]) 0 * 1) + (6 * 1 + 0)) := f2
      have k2 : 0 ≤ 10 * (sy_tot (m ++ [v4.toInt, v3.toInt, v2.toInt, v1.toInt, y5.toInt, y4.toInt, y3.toInt, y2.toInt, y1.toInt, y0.toInt, v0.toInt, v0.toInt, (i : Int)]) 13 * 1) + (-1 * (sy_tot (m ++ [v4.toInt, v3.toInt, v2.toInt, v1.toInt, y5.toInt, y4.toInt, y3.toInt, y2.toInt, y1.toInt, y0.toInt, v0.toInt, v0.toInt, (i : Int)]) 16 * 1) + 0) := h2
      have k1 : 0 ≤ 10 * (sy_tot (m ++ [v4.toInt, v3.toInt, v2.toInt, v1.toInt, y5.toInt, y4.toInt, y3.toInt, y2.toInt, y1.toInt, y0.toInt, v0.toInt, v0.toInt, (i : Int)]) 13 * 1) + (-1 * (sy_tot (m ++ [v4.toInt, v3.toInt, v2.toInt, v1.toInt, y5.toInt, y4.toInt, y3.toInt, y2.toInt, y1.toInt, y0.toInt, v0.toInt, v0.toInt, (i : Int)]) 15 * 1) + 0) := h1
      rw [u0, u4] at f1' f2'
      rw [u4, p2] at k2
      rw [u4, p1] at k1
      have ex : x4 = Int32.ofNat (i + 6) := sl_of (by omega) (by omega)
      have ex2 : x4.toInt = (i : Int) + 6 := by omega
      have o0 := q5.2.1 14 (0, 400) rfl t0.toInt s0
      have o1 := q5.2.1 15 (0, 30720) rfl t1.toInt s1
      have o2 := q5.2.1 16 (0, 30720) rfl t2.toInt s2
      have o3 := q5.2.1 17 (0, 1) rfl t3.toInt s3
      have o4 := q5.2.1 18 ((-1), 400) rfl t4.toInt s4
      have h8 := ih (i + 6) (by omega) (by omega) lv2 w2 fr2 d3 b3 q2' q3 ⟨c0, c1, c2, c3, by rw [c4, ex], q7.2.1.trans g5, q7.1, q9, t0, t1, t2, t3, t4, o0, ⟨o1.1, by push_cast; omega⟩, ⟨o2.1, by push_cast; omega⟩, o3, o4, zH [t4.toInt, t3.toInt, t2.toInt, t1.toInt, t0.toInt] 0 1 2 3 4 rfl rfl rfl rfl rfl⟩
      obtain ⟨nn, out, e1, e2, e3, e4, e5⟩ := h8
      have h7 : sy_Ev E d3 b3 M (M.2.2.2.2.2.drop 13) 23 lv2 [] w2 0 0 fr2 (fun out => sl_fin cb (k9 + 1) (rs_o nc ns out)) := by
        refine ⟨nn, out, e1, e2, e3, ?_, ?_⟩
        · show nc + out.2.2.1 ≤ (k9 + 1) * cb.1
          rw [Nat.succ_mul]; omega
        · show ns + out.2.2.2.1 ≤ (k9 + 1) * cb.2
          rw [Nat.succ_mul]; omega
      exact sy_ev_sh nc ns h7
    have hih := lw_run_ok (ρs := [v4.toInt, v3.toInt, v2.toInt, v1.toInt, y5.toInt, y4.toInt, y3.toInt, y2.toInt, y1.toInt, y0.toInt, v0.toInt, v0.toInt, (i : Int)]) (M0 := M) (w0 := w) (μ0 := none) hT hdj hPC hSc hCT (by rw [g5]; exact hal) ⟨[], rfl⟩ hy hcut (fun m0 e => by cases e) n
    refine hih _ _ _ _ _ _ _ _ _ _ _ _ _ _ _ _ hrun hr19 [v4.toInt, v3.toInt, v2.toInt, v1.toInt, y5.toInt, y4.toInt, y3.toInt, y2.toInt, y1.toInt, y0.toInt, v0.toInt, v0.toInt, (i : Int)] [] d bud lvc [] w fr ⟨[], rfl⟩ trivial ⟨rfl, h1, h2⟩ h1 h2 hk0 ?_ trivial ⟨g6, rfl, sy_mods_rf w _⟩ hH0 g7
    intro x hx
    simp only [sl_lvb, List.mem_cons, List.not_mem_nil, or_false] at hx
    rcases hx with rfl | rfl | rfl | rfl | rfl
    · exact ⟨_, g0, _, rfl, rfl⟩
    · exact ⟨_, g1, _, rfl, rfl⟩
    · exact ⟨_, g2, _, rfl, rfl⟩
    · exact ⟨_, g3, _, rfl, rfl⟩
    · exact ⟨_, g4, _, rfl, by show some (i : Int) = some (Int32.ofNat i).toInt; rw [ei]⟩
