/-! ===== the law's loop ===== -/
/-- what the loop's head finds: i, the world, as many bytes on both TAPES -/
def sl_hd (T : Nat → Option sy_C) (RU : sy_RT) (qx qm qo : Nat) (rx mx : Nat × Nat) (n9 i : Nat) (lvc : ri_L) (w : List ri_E) : Prop := ri_get 0 lvc = some (.ref 1000000) ∧ ri_get 1 lvc = some (.ref qx) ∧ ri_get 2 lvc = some (.ref qm) ∧ ri_get 3 lvc = some (.ref qo) ∧ ri_get 4 lvc = some (.int (Int32.ofNat i)) ∧ w.length = n9 ∧ sy_tw T w ∧ sy_ru RU [] w ∧ ∃ t : Int32, 0 ≤ t.toInt ∧ t.toInt ≤ 1 ∧ sy_wv w rx.1 rx.2 = some (.int t) ∧ sy_wv w mx.1 mx.2 = some (.int t)
/-- an end of the law: 1, and not too many exceptions -/
def sl_fin (cb : Nat × Nat) (k : Nat) (out : ri_Out) : Prop := out.1 = .inl (some (.int 1)) ∧ out.2.2.2.2.1 = [] ∧ out.2.2.1 ≤ k * cb.1 ∧ out.2.2.2.1 ≤ k * cb.2
theorem sl_i32 {k : Nat} (h : k ≤ 100000) : (Int32.ofNat k).toInt = (k : Int) := by
  rw [Int32.toInt_ofNat']
  have e9 : Int32.size = 4294967296 := rfl
  rw [e9, Int.bmod_def]
  have e : ((k : Int) % ((4294967296 : Nat) : Int)) = (k : Int) := Int.emod_eq_of_lt (by omega) (by omega)
  omega
theorem sl_of {x : Int32} {k : Nat} (h : x.toInt = (k : Int)) (hk : k ≤ 100000) : x = Int32.ofNat k := Int32.toInt_inj.mp (by rw [h, sl_i32 hk])
theorem sl_sub {k : Nat} (h : k ≤ 100000) : (Int32.ofNat k - (Int8.ofInt 6).toInt32).toInt = (k : Int) - 6 := by
  rw [Int32.toInt_sub, sl_i32 h]
  have e9 : (Int8.ofInt 6).toInt32.toInt = 6 := by decide +kernel
  rw [e9, Int.bmod_def]
  have e8 : ((2 ^ 32 : Nat) : Int) = 4294967296 := by decide +kernel
  rw [e8]
  omega
/-- the head of the loop -/
theorem sl_head {E : sy_env} {d bud : Nat} {M : ri_M} {lvc : ri_L} {w : List ri_E} {fr i : Nat} {P : ri_Out → Prop} {rest : List ri_Op}
    (hM : M.2.2.2.2.2.drop 13 = (23, 0, .iload 4, 0, 0, .null, []) :: (25, 0, .aload_n 0, 0, 0, .null, []) :: (26, 25, .arraylength, 0, 0, .null, []) :: (27, 0, .bipush 6, 0, 0, .null, []) :: (29, 17, .isub, 2, 9999, .null, []) :: (30, 17, .if_icmp .gt 1557, 2, 9999, .null, [980]) :: rest)
    (h4 : ri_get 4 lvc = some (.int (Int32.ofNat i))) (h0 : ri_get 0 lvc = some (.ref 1000000)) (hi : i ≤ 100000) (hL : E.2.2.2.2.2.2.1 ≤ 100000)
    (hout : E.2.2.2.2.2.2.1 < i + 6 → sy_Ev E d bud M (M.2.2.2.2.2.drop 980) 1587 lvc [] w 0 0 fr P) (hin : i + 6 ≤ E.2.2.2.2.2.2.1 → sy_Ev E d bud M rest 33 lvc [] w 0 0 fr P) :
    sy_Ev E d bud M (M.2.2.2.2.2.drop 13) 23 lvc [] w 0 0 fr P := by
  rw [hM]
  refine sy_ev_tk (j := 0) (p2 := 25) (l2 := lvc) (s2 := [.int (Int32.ofNat i)]) ?_ rfl (Or.inl rfl) ?_
  · show ri_gv (ri_get 4 lvc) (fun v => some (0, 23 + 2, lvc, v :: [])) = _
    rw [h4]; rfl
  refine sy_ev_tk (j := 0) (p2 := 26) (l2 := lvc) (s2 := [.ref 1000000, .int (Int32.ofNat i)]) ?_ rfl (Or.inl rfl) ?_
  · show ri_gr (ri_get 0 lvc) (fun x => some (0, 25 + 1, lvc, Value.ref x :: [Value.int (Int32.ofNat i)])) (some (0, 25 + 1, lvc, Value.null :: [Value.int (Int32.ofNat i)])) = _
    rw [h0]; rfl
  refine sy_ev25 ?_
  refine sy_ev_tk (j := 0) (p2 := 29) (l2 := lvc) (s2 := [.int (Int8.ofInt 6).toInt32, .int (Int32.ofNat E.2.2.2.2.2.2.1), .int (Int32.ofNat i)]) rfl rfl (Or.inl rfl) ?_
  refine sy_ev_tk (j := 0) (p2 := 30) (l2 := lvc) (s2 := [.int (Int32.ofNat E.2.2.2.2.2.2.1 - (Int8.ofInt 6).toInt32), .int (Int32.ofNat i)]) rfl rfl (Or.inr ⟨rfl, rfl⟩) ?_
  have e1 := sl_sub hL
  have e2 := sl_i32 hi
  by_cases hc : E.2.2.2.2.2.2.1 < i + 6
  · refine sy_ev_tk (j := 1) (p2 := 1587) (l2 := lvc) (s2 := []) (cur2 := M.2.2.2.2.2.drop 980) ?_ (by show ri_drop M.2.2.2.2.2 980 = _; exact ri_drop_eq _ _) (Or.inr ⟨rfl, rfl⟩) (hout hc)
    show ri_br (decide (Int32.ofNat E.2.2.2.2.2.2.1 - (Int8.ofInt 6).toInt32 < Int32.ofNat i)) 30 1557 (30 + 3) lvc [] = _
    have h9 : Int32.ofNat E.2.2.2.2.2.2.1 - (Int8.ofInt 6).toInt32 < Int32.ofNat i := by rw [Int32.lt_iff_toInt_lt, e1, e2]; omega
    rw [decide_eq_true h9]
    rfl
  · refine sy_ev_tk (j := 0) (p2 := 33) (l2 := lvc) (s2 := []) (cur2 := rest) ?_ rfl (Or.inr ⟨rfl, rfl⟩) (hin (by omega))
    show ri_br (decide (Int32.ofNat E.2.2.2.2.2.2.1 - (Int8.ofInt 6).toInt32 < Int32.ofNat i)) 30 1557 (30 + 3) lvc [] = _
    have h9 : ¬ Int32.ofNat E.2.2.2.2.2.2.1 - (Int8.ofInt 6).toInt32 < Int32.ofNat i := by rw [Int32.lt_iff_toInt_lt, e1, e2]; omega
    rw [decide_eq_false h9]
    rfl
/-- the law, from its loop's head -/
theorem sl_loop {E : sy_env} {T : Nat → Option sy_C} {RU : sy_RT} {CT : List sy_Ct} {C : sy_Ct} {cu : sy_Cut} {M : ri_M} {cb rx mx : Nat × Nat} {qx qm qo n n9 : Nat} {hs hs' : List sy_Hn} {rest : List ri_Op} {lvb : sy_L} {H0 : sy_H} (hCT : ∀ c ∈ CT, sy_Cok E T RU c) (hal : E.2.2.2.2.2.2.2.1 n9 = false)
    (hM : M.2.2.2.2.2.drop 13 = (23, 0, .iload 4, 0, 0, .null, []) :: (25, 0, .aload_n 0, 0, 0, .null, []) :: (26, 25, .arraylength, 0, 0, .null, []) :: (27, 0, .bipush 6, 0, 0, .null, []) :: (29, 17, .isub, 2, 9999, .null, []) :: (30, 17, .if_icmp .gt 1557, 2, 9999, .null, [980]) :: rest)
    (hM2 : M.2.2.2.2.2.drop 980 = [(1587, 0, .iconst 1, 0, 0, .null, []), (1588, 16, .ireturn, 0, 0, .null, [])]) (hMr : M.2.2.2.1 = some .boolean)
    (hxs : ∀ j : Nat, ∃ x : Int32, E.2.2.2.2.2.1 j = .int x) (hL : E.2.2.2.2.2.2.1 ≤ 3072)
    (hC : C.2.2.2.2 = (([(-2147483648, 2147483647), (-2147483648, 2147483647), (-2147483648, 2147483647), (-2147483648, 2147483647), (-2147483648, 2147483647), (-2147483648, 2147483647), (0, 1), (0, 1), (0, 3066)], [[(1, [1]), (-1, [2])], [(-1, [1]), (1, [2])]]), H0, [], C.2.2.2.2.2.2.2.1, []))
    (hlv : lvb = [(0, 3, .inr 1000000, .inl 0), (1, 3, .inr qx, .inl 0), (2, 3, .inr qm, .inl 0), (3, 3, .inr qo, .inl 0), (4, 0, .inr 0, .inl 0)]) (hH : H0 = [(rx, 0, .inr 1, .inl 0), (mx, 0, .inr 2, .inl 0)])
    (hcu : cu = (13, [(0, 3, .inr 1000000, .inl 0), (1, 3, .inr qx, .inl 0), (2, 3, .inr qm, .inl 0), (3, 3, .inr qo, .inl 0), (4, 0, .inr 9, .inl 0)], ([(0, 1), (0, 1), (6, 3072), (-2147483648, 2147483647), (-2147483648, 2147483647), (-2147483648, 2147483647), (-2147483648, 2147483647), (-2147483648, 2147483647), (-2147483648, 2147483647), (0, 1), (0, 1), (0, 3066)], [[(-1, [9]), (1, [0]), (6, [])], [(1, [9]), (-1, [0]), (-6, [])], [(1, [10]), (-1, [11])], [(-1, [10]), (1, [11])]]), [(rx, 0, .inr 10, .inl 0), (mx, 0, .inr 11, .inl 0)], [], [(1, [])]))
    (hrun : sy_run (sy_e4 E) T RU CT C [cu] none cb n [] C.2.1 C.2.2.1 M 19 rest 33 lvb [] H0 [] ([(-2147483648, 2147483647), (-2147483648, 2147483647), (-2147483648, 2147483647), (-2147483648, 2147483647), (-2147483648, 2147483647), (-2147483648, 2147483647), (0, 1), (0, 1), (0, 3066)], [[(1, [1]), (-1, [2])], [(-1, [1]), (1, [2])]]) 0 0 hs = some hs') :
    ∀ k i : Nat, i ≤ 3072 → E.2.2.2.2.2.2.1 < i + 6 * k + 6 → ∀ (lvc : ri_L) (w : List ri_E) (fr d bud : Nat), C.2.1 ≤ d → C.2.2.1 ≤ bud → sl_hd T RU qx qm qo rx mx n9 i lvc w → sy_Ev E d bud M (M.2.2.2.2.2.drop 13) 23 lvc [] w 0 0 fr (sl_fin cb k) := by
  have hr19 : rest = M.2.2.2.2.2.drop 19 := by
    have h9 := congrArg (List.drop 6) hM
    rw [List.drop_drop] at h9
    exact h9.symm
  have out0 : ∀ (k : Nat) (lvc : ri_L) (w : List ri_E) (fr d bud : Nat), sy_Ev E d bud M (M.2.2.2.2.2.drop 980) 1587 lvc [] w 0 0 fr (sl_fin cb k) := by
    intro k lvc w fr d bud
    rw [hM2]
    refine sy_ev_tk (j := 0) (p2 := 1588) (l2 := lvc) (s2 := [.int 1]) (by show some (0, 1587 + 1, lvc, [Value.int (Int32.ofInt 1)]) = _; rw [show (Int32.ofInt 1) = (1 : Int32) from rfl]) rfl (Or.inl rfl) ?_
    refine sy_ev16 (out := (.inl (some (.int 1)), w, 0, 0, [], fr)) ?_ ⟨rfl, rfl, Nat.zero_le _, Nat.zero_le _⟩
    show ri_ok (ri_fitR M.2.2.2.1 (.int 1) || ri_fitC M.2.2.2.1 1) _ = _
    rw [hMr]
    rfl
  intro k
  induction k with
  | zero =>
    intro i hi hk lvc w fr d bud h1 h2 hh
    obtain ⟨g0, g1, g2, g3, g4, -⟩ := hh
    exact sl_head hM g4 g0 (by omega) (by omega) (fun _ => out0 0 lvc w fr d bud) (fun z => absurd z (by omega))
  | succ k ih =>
    intro i hi hk lvc w fr d bud h1 h2 hh
    obtain ⟨g0, g1, g2, g3, g4, g5, g6, g7, t, t1, t2, t3, t4⟩ := hh
    refine sl_head hM g4 g0 (by omega) (by omega) (fun _ => out0 _ lvc w fr d bud) (fun hin => ?_)
    have hi6 : i ≤ 3066 := by omega
    have ei : (Int32.ofNat i).toInt = (i : Int) := sl_i32 (by omega)
    obtain ⟨y0, hy0⟩ := hxs (i + 0)
    obtain ⟨y1, hy1⟩ := hxs (i + 1)
    obtain ⟨y2, hy2⟩ := hxs (i + 2)
    obtain ⟨y3, hy3⟩ := hxs (i + 3)
    obtain ⟨y4, hy4⟩ := hxs (i + 4)
    obtain ⟨y5, hy5⟩ := hxs (i + 5)
    have hk0 : sy_ok [y5.toInt, y4.toInt, y3.toInt, y2.toInt, y1.toInt, y0.toInt, t.toInt, t.toInt, (i : Int)] (([(-2147483648, 2147483647), (-2147483648, 2147483647), (-2147483648, 2147483647), (-2147483648, 2147483647), (-2147483648, 2147483647), (-2147483648, 2147483647), (0, 1), (0, 1), (0, 3066)], [[(1, [1]), (-1, [2])], [(-1, [1]), (1, [2])]]) : sy_K) := by
      have a0 : sy_ok [] (([], []) : sy_K) := ⟨rfl, fun j r hr => absurd (sy_at_lt hr) (Nat.not_lt_zero _), fun p hp => by cases hp⟩
      have a1 := sy_ok_app a0 (i : Int) (lo := 0) (hi := 3066) (by omega) (by omega) (fs := []) (fun p hp => by cases hp)
      have a2 := sy_ok_app a1 t.toInt (lo := 0) (hi := 1) t1 t2 (fs := []) (fun p hp => by cases hp)
      have a3 := sy_ok_app a2 t.toInt (lo := 0) (hi := 1) t1 t2 (fs := []) (fun p hp => by cases hp)
      have wd : ∀ (y : Int32) (ρ9 : List Int) (R9 : List (Int × Int)), sy_ok ρ9 (R9, []) → sy_ok (y.toInt :: ρ9) ((-2147483648, 2147483647) :: R9, []) := fun y ρ9 R9 h9 => sy_ok_app h9 y.toInt (Int32.le_toInt y) (by have := Int32.toInt_lt y; omega) (fs := []) (fun p hp => by cases hp)
      have a9 := wd y5 _ _ (wd y4 _ _ (wd y3 _ _ (wd y2 _ _ (wd y1 _ _ (wd y0 _ _ a3)))))
      refine ⟨a9.1, a9.2.1, fun p hp => ?_⟩
      simp only [List.mem_cons, List.not_mem_nil, or_false] at hp
      rcases hp with rfl | rfl
      · refine ⟨rfl, ?_⟩
        show 0 ≤ 1 * (t.toInt * 1) + (-1 * (t.toInt * 1) + 0)
        omega
      · refine ⟨rfl, ?_⟩
        show 0 ≤ -1 * (t.toInt * 1) + (1 * (t.toInt * 1) + 0)
        omega
    have s0 : sy_at [y5.toInt, y4.toInt, y3.toInt, y2.toInt, y1.toInt, y0.toInt, t.toInt, t.toInt, (i : Int)] 0 = some (i : Int) := rfl
    have s1 : sy_at [y5.toInt, y4.toInt, y3.toInt, y2.toInt, y1.toInt, y0.toInt, t.toInt, t.toInt, (i : Int)] 1 = some t.toInt := rfl
    have s2 : sy_at [y5.toInt, y4.toInt, y3.toInt, y2.toInt, y1.toInt, y0.toInt, t.toInt, t.toInt, (i : Int)] 2 = some t.toInt := rfl
    have hy : sy_Hy E T RU C (sl_fin cb (k + 1)) [y5.toInt, y4.toInt, y3.toInt, y2.toInt, y1.toInt, y0.toInt, t.toInt, t.toInt, (i : Int)] w := by
      refine ⟨by rw [hC]; rfl, ?_, fun _ => ⟨(i : Int), s0, by omega, by omega, fun c hc => ?_⟩⟩
      · intro out ho
        obtain ⟨-, -, -, -, o, ho, -⟩ := ho
        rw [hC] at ho
        cases ho
      · match c, hc with
        | 0, _ => exact ⟨y0, hy0, rfl⟩
        | 1, _ => exact ⟨y1, hy1, rfl⟩
        | 2, _ => exact ⟨y2, hy2, rfl⟩
        | 3, _ => exact ⟨y3, hy3, rfl⟩
        | 4, _ => exact ⟨y4, hy4, rfl⟩
        | 5, _ => exact ⟨y5, hy5, rfl⟩
        | _ + 6, h6 => exact absurd h6 (by omega)
    have hcut : sy_CutOk E T RU C [cu] none cb (sl_fin cb (k + 1)) [y5.toInt, y4.toInt, y3.toInt, y2.toInt, y1.toInt, y0.toInt, t.toInt, t.toInt, (i : Int)] [y5.toInt, y4.toInt, y3.toInt, y2.toInt, y1.toInt, y0.toInt, t.toInt, t.toInt, (i : Int)] w M := by
      intro cu2 hcu2 τ lv2 w2 fr2 d3 b3 o2 nxt2 nc ns q1 q2 q3 q4 q5 q6 q7 q8 q9 q10 q11 q12 q13
      have ecu : cu2 = cu := List.mem_singleton.mp hcu2
      subst ecu
      subst hcu
      dsimp only at q4 q5 q6 q8 q9 ⊢
      have eo : o2.1 = 23 := by
        rw [hM] at q4
        rw [← (List.cons.inj q4).1]
      rw [eo]
      obtain ⟨m, rfl⟩ := q1
      -- the numbers behind the round
      have b0 : sy_at (m ++ [y5.toInt, y4.toInt, y3.toInt, y2.toInt, y1.toInt, y0.toInt, t.toInt, t.toInt, (i : Int)]) 0 = some (i : Int) := sy_at_app s0 m
      obtain ⟨v0, c0, ⟨x0, rfl, g10⟩⟩ := q6 (0, 3, .inr 1000000, .inl 0) (by simp)
      obtain ⟨v1, c1, ⟨x1, rfl, g11⟩⟩ := q6 (1, 3, .inr qx, .inl 0) (by simp)
      obtain ⟨v2, c2, ⟨x2, rfl, g12⟩⟩ := q6 (2, 3, .inr qm, .inl 0) (by simp)
      obtain ⟨v3, c3, ⟨x3, rfl, g13⟩⟩ := q6 (3, 3, .inr qo, .inl 0) (by simp)
      obtain ⟨v4, c4, ⟨x4, rfl, g14⟩⟩ := q6 (4, 0, .inr 9, .inl 0) (by simp)
      cases g10; cases g11; cases g12; cases g13
      have z4 : sy_at (m ++ [y5.toInt, y4.toInt, y3.toInt, y2.toInt, y1.toInt, y0.toInt, t.toInt, t.toInt, (i : Int)]) 9 = some x4.toInt := g14
      have f1 := (q5.2.2 [(-1, [9]), (1, [0]), (6, [])] (by simp)).2
      have f2 := (q5.2.2 [(1, [9]), (-1, [0]), (-6, [])] (by simp)).2
      have f3 := (q5.2.2 [(1, [10]), (-1, [11])] (by simp)).2
      have f4 := (q5.2.2 [(-1, [10]), (1, [11])] (by simp)).2
      have u0 : sy_tot (m ++ [y5.toInt, y4.toInt, y3.toInt, y2.toInt, y1.toInt, y0.toInt, t.toInt, t.toInt, (i : Int)]) 0 = (i : Int) := by unfold sy_tot; rw [b0]; rfl
      have u4 : sy_tot (m ++ [y5.toInt, y4.toInt, y3.toInt, y2.toInt, y1.toInt, y0.toInt, t.toInt, t.toInt, (i : Int)]) 9 = x4.toInt := by unfold sy_tot; rw [z4]; rfl
      have f1' : 0 ≤ -1 * (sy_tot (m ++ [y5.toInt, y4.toInt, y3.toInt, y2.toInt, y1.toInt, y0.toInt, t.toInt, t.toInt, (i : Int)]) 9 * 1) + (1 * (sy_tot (m ++ [y5.toInt, y4.toInt, y3.toInt, y2.toInt, y1.toInt, y0.toInt, t.toInt, t.toInt, (i : Int)]) 0 * 1) + (6 * 1 + 0)) := f1
      have f2' : 0 ≤ 1 * (sy_tot (m ++ [y5.toInt, y4.toInt, y3.toInt, y2.toInt, y1.toInt, y0.toInt, t.toInt, t.toInt, (i : Int)]) 9 * 1) + (-1 * (sy_tot (m ++ [y5.toInt, y4.toInt, y3.toInt, y2.toInt, y1.toInt, y0.toInt, t.toInt, t.toInt, (i : Int)]) 0 * 1) + (-6 * 1 + 0)) := f2
      rw [u0, u4] at f1' f2'
      have ex : x4 = Int32.ofNat (i + 6) := sl_of (by omega) (by omega)
      obtain ⟨u, d0, ⟨x5, rfl, g15⟩⟩ := q8 (rx, 0, .inr 10, .inl 0) (by simp)
      obtain ⟨u2, d1, ⟨x6, rfl, g16⟩⟩ := q8 (mx, 0, .inr 11, .inl 0) (by simp)
      have z5 : sy_at (m ++ [y5.toInt, y4.toInt, y3.toInt, y2.toInt, y1.toInt, y0.toInt, t.toInt, t.toInt, (i : Int)]) 10 = some x5.toInt := g15
      have z6 : sy_at (m ++ [y5.toInt, y4.toInt, y3.toInt, y2.toInt, y1.toInt, y0.toInt, t.toInt, t.toInt, (i : Int)]) 11 = some x6.toInt := g16
      have u5 : sy_tot (m ++ [y5.toInt, y4.toInt, y3.toInt, y2.toInt, y1.toInt, y0.toInt, t.toInt, t.toInt, (i : Int)]) 10 = x5.toInt := by unfold sy_tot; rw [z5]; rfl
      have u6 : sy_tot (m ++ [y5.toInt, y4.toInt, y3.toInt, y2.toInt, y1.toInt, y0.toInt, t.toInt, t.toInt, (i : Int)]) 11 = x6.toInt := by unfold sy_tot; rw [z6]; rfl
      have f3' : 0 ≤ 1 * (sy_tot (m ++ [y5.toInt, y4.toInt, y3.toInt, y2.toInt, y1.toInt, y0.toInt, t.toInt, t.toInt, (i : Int)]) 10 * 1) + (-1 * (sy_tot (m ++ [y5.toInt, y4.toInt, y3.toInt, y2.toInt, y1.toInt, y0.toInt, t.toInt, t.toInt, (i : Int)]) 11 * 1) + 0) := f3
      have f4' : 0 ≤ -1 * (sy_tot (m ++ [y5.toInt, y4.toInt, y3.toInt, y2.toInt, y1.toInt, y0.toInt, t.toInt, t.toInt, (i : Int)]) 10 * 1) + (1 * (sy_tot (m ++ [y5.toInt, y4.toInt, y3.toInt, y2.toInt, y1.toInt, y0.toInt, t.toInt, t.toInt, (i : Int)]) 11 * 1) + 0) := f4
      rw [u5, u6] at f3' f4'
      have e56 : x5 = x6 := Int32.toInt_inj.mp (by omega)
      subst e56
      have r3 := q5.2.1 10 (0, 1) rfl x5.toInt z5
      have h8 := ih (i + 6) (by omega) (by omega) lv2 w2 fr2 d3 b3 q2 q3 ⟨c0, c1, c2, c3, by rw [c4, ex], q7.2.1.trans g5, q7.1, q9, x5, r3.1, r3.2, d0, d1⟩
      obtain ⟨nn, out, e1, e2, e3, e4, e5⟩ := h8
      have h7 : sy_Ev E d3 b3 M (M.2.2.2.2.2.drop 13) 23 lv2 [] w2 0 0 fr2 (fun out => sl_fin cb (k + 1) (rs_o nc ns out)) := by
        refine ⟨nn, out, e1, e2, e3, ?_, ?_⟩
        · show nc + out.2.2.1 ≤ (k + 1) * cb.1
          rw [Nat.succ_mul]; omega
        · show ns + out.2.2.2.1 ≤ (k + 1) * cb.2
          rw [Nat.succ_mul]; omega
      exact sy_ev_sh nc ns h7
    have hih := sy_run_ok (ρs := [y5.toInt, y4.toInt, y3.toInt, y2.toInt, y1.toInt, y0.toInt, t.toInt, t.toInt, (i : Int)]) (M0 := M) (w0 := w) (μ0 := none) hCT (by rw [g5]; exact hal) ⟨[], rfl⟩ hy hcut (fun m0 e => by cases e) n
    refine hih _ _ _ _ _ _ _ _ _ _ _ _ _ _ _ _ hrun hr19 [y5.toInt, y4.toInt, y3.toInt, y2.toInt, y1.toInt, y0.toInt, t.toInt, t.toInt, (i : Int)] [] d bud lvc [] w fr ⟨[], rfl⟩ trivial ⟨rfl, h1, h2⟩ h1 h2 hk0 ?_ trivial ⟨g6, rfl, sy_mods_rf w _⟩ ?_ g7
    · rw [hlv]
      intro x hx
      simp only [List.mem_cons, List.not_mem_nil, or_false] at hx
      rcases hx with rfl | rfl | rfl | rfl | rfl
      · exact ⟨_, g0, _, rfl, rfl⟩
      · exact ⟨_, g1, _, rfl, rfl⟩
      · exact ⟨_, g2, _, rfl, rfl⟩
      · exact ⟨_, g3, _, rfl, rfl⟩
      · exact ⟨_, g4, _, rfl, by show some (i : Int) = some (Int32.ofNat i).toInt; rw [ei]⟩
    · rw [hH]
      intro x hx
      simp only [List.mem_cons, List.not_mem_nil, or_false] at hx
      rcases hx with rfl | rfl
      · exact ⟨_, t3, _, rfl, s1⟩
      · exact ⟨_, t4, _, rfl, s2⟩
