/-! ===== the reckoner, part 14: the same over trees: perfect binary trees, arrays, worlds ===== -/
noncomputable def rf_T (α : Type) (n : Nat) : Type := Nat.rec (motive := fun _ => Type) α (fun _ T => T × T) n
section RF1
variable {α : Type}
noncomputable def rf_l {k : Nat} (t : rf_T α (k + 1)) : rf_T α k := Prod.fst (α := rf_T α k) (β := rf_T α k) t
noncomputable def rf_r {k : Nat} (t : rf_T α (k + 1)) : rf_T α k := Prod.snd (α := rf_T α k) (β := rf_T α k) t
noncomputable def rf_n {k : Nat} (a b : rf_T α k) : rf_T α (k + 1) := Prod.mk (α := rf_T α k) (β := rf_T α k) a b
noncomputable def rf_tg (n : Nat) : rf_T α n → Nat → α := Nat.rec (motive := fun n => rf_T α n → Nat → α) (fun t _ => t) (fun k ih t i => @Bool.rec (fun _ => α) (ih (Prod.snd (α := rf_T α k) (β := rf_T α k) t) (Nat.sub i (Nat.pow 2 k))) (ih (Prod.fst (α := rf_T α k) (β := rf_T α k) t) i) (Nat.ble (Nat.succ i) (Nat.pow 2 k))) n
noncomputable def rf_tu (v : α) (n : Nat) : rf_T α n → Nat → rf_T α n := Nat.rec (motive := fun n => rf_T α n → Nat → rf_T α n) (fun _ _ => v) (fun k ih t i => @Bool.rec (fun _ => rf_T α k × rf_T α k) (Prod.fst (α := rf_T α k) (β := rf_T α k) t, ih (Prod.snd (α := rf_T α k) (β := rf_T α k) t) (Nat.sub i (Nat.pow 2 k))) (ih (Prod.fst (α := rf_T α k) (β := rf_T α k) t) i, Prod.snd (α := rf_T α k) (β := rf_T α k) t) (Nat.ble (Nat.succ i) (Nat.pow 2 k))) n
noncomputable def rf_tr (v : α) (n : Nat) : rf_T α n := Nat.rec (motive := fun n => rf_T α n) v (fun k ih => (Prod.mk (α := rf_T α k) (β := rf_T α k) ih ih)) n
theorem rf_tg_s (k : Nat) (t : rf_T α (k + 1)) (i : Nat) : rf_tg (k + 1) t i = bif Nat.blt i (Nat.pow 2 k) then rf_tg k (rf_l t) i else rf_tg k (rf_r t) (Nat.sub i (Nat.pow 2 k)) := by
  show @Bool.rec (fun _ => α) (rf_tg k (rf_r t) (Nat.sub i (Nat.pow 2 k))) (rf_tg k (rf_l t) i) (Nat.blt i (Nat.pow 2 k)) = _
  cases Nat.blt i (Nat.pow 2 k) <;> rfl
theorem rf_tu_s (v : α) (k : Nat) (t : rf_T α (k + 1)) (i : Nat) : rf_tu v (k + 1) t i = bif Nat.blt i (Nat.pow 2 k) then rf_n (rf_tu v k (rf_l t) i) (rf_r t) else rf_n (rf_l t) (rf_tu v k (rf_r t) (Nat.sub i (Nat.pow 2 k))) := by
  show @Bool.rec (fun _ => rf_T α k × rf_T α k) (rf_n (rf_l t) (rf_tu v k (rf_r t) (Nat.sub i (Nat.pow 2 k)))) (rf_n (rf_tu v k (rf_l t) i) (rf_r t)) (Nat.blt i (Nat.pow 2 k)) = _
  cases Nat.blt i (Nat.pow 2 k) <;> rfl
theorem rf_blt_t {x y : Nat} (h : x < y) : Nat.blt x y = true := Nat.ble_eq_true_of_le h
theorem rf_blt_f {x y : Nat} (h : ¬ x < y) : Nat.blt x y = false := by
  cases hb : Nat.blt x y with
  | false => rfl
  | true => exact absurd (Nat.le_of_ble_eq_true hb) h
theorem rf_tg_tr (v : α) : ∀ (n i : Nat), rf_tg n (rf_tr v n) i = v
  | 0, _ => rfl
  | k + 1, i => by
    refine (rf_tg_s k (rf_tr v (k + 1)) i).trans ?_
    show (bif Nat.blt i (Nat.pow 2 k) then rf_tg k (rf_tr v k) i else rf_tg k (rf_tr v k) (Nat.sub i (Nat.pow 2 k))) = v
    rw [rf_tg_tr v k, rf_tg_tr v k]
    cases Nat.blt i (Nat.pow 2 k) <;> rfl
theorem rf_tg_tu (v : α) : ∀ (n : Nat) (t : rf_T α n) (i j : Nat), i < 2 ^ n → j < 2 ^ n → rf_tg n (rf_tu v n t i) j = if j = i then v else rf_tg n t j
  | 0, t, i, j, hi, hj => by
    have e : j = i := by simp at hi hj; omega
    rw [if_pos e]
    rfl
  | k + 1, t, i, j, hi, hj => by
    have hp : 2 ^ (k + 1) = 2 ^ k + 2 ^ k := by rw [Nat.pow_succ]; omega
    rw [hp] at hi hj
    rw [rf_tu_s, rf_tg_s, rf_tg_s]
    have hP : Nat.pow 2 k = 2 ^ k := rfl
    rw [hP]
    by_cases h1 : i < 2 ^ k
    · rw [rf_blt_t h1, cond_true]
      by_cases h2 : j < 2 ^ k
      · rw [rf_blt_t h2, cond_true, cond_true]
        exact rf_tg_tu v k (rf_l t) i j h1 h2
      · rw [rf_blt_f h2, cond_false, cond_false, if_neg (by omega)]
        rfl
    · rw [rf_blt_f h1, cond_false]
      by_cases h2 : j < 2 ^ k
      · rw [rf_blt_t h2, cond_true, cond_true, if_neg (by omega)]
        rfl
      · rw [rf_blt_f h2, cond_false, cond_false]
        have k9 := rf_tg_tu v k (rf_r t) (i - 2 ^ k) (j - 2 ^ k) (by omega) (by omega)
        have e9 : (j - 2 ^ k = i - 2 ^ k) = (j = i) := propext ⟨fun q => by omega, fun q => by omega⟩
        simp only [e9] at k9
        exact k9
noncomputable def rf_tl (n len : Nat) (t : rf_T α n) : List α := (List.range len).map (rf_tg n t)
theorem rf_tl_len {n len : Nat} {t : rf_T α n} : (rf_tl n len t).length = len := by
  unfold rf_tl
  rw [List.length_map, List.length_range]
theorem rf_tl_at {n len i : Nat} {t : rf_T α n} : (rf_tl n len t)[i]? = if i < len then some (rf_tg n t i) else none := by
  unfold rf_tl
  rw [List.getElem?_map]
  by_cases h : i < len
  · rw [List.getElem?_range h, if_pos h]
    rfl
  · rw [List.getElem?_eq_none (by rw [List.length_range]; omega), if_neg h]
    rfl
theorem rf_tl_set {n len i : Nat} {t : rf_T α n} {v : α} (hl : len ≤ 2 ^ n) (hi : i < len) : rf_tl n len (rf_tu v n t i) = (rf_tl n len t).set i v := by
  apply List.ext_getElem?
  intro j
  rw [rf_tl_at, List.getElem?_set, rf_tl_len, rf_tl_at]
  by_cases hj : j < len
  · rw [if_pos hj, rf_tg_tu v n t i j (by omega) (by omega)]
    by_cases e : j = i
    · subst e
      rw [if_pos rfl, if_pos rfl, if_pos hj]
    · rw [if_neg e, if_neg (fun q => e q.symm), if_pos hj]
  · rw [if_neg hj]
    by_cases e : i = j
    · omega
    · rw [if_neg e, if_neg hj]
theorem rf_tl_push {n len : Nat} {t : rf_T α n} {v : α} (hl : len < 2 ^ n) : rf_tl n (len + 1) (rf_tu v n t len) = rf_tl n len t ++ [v] := by
  unfold rf_tl
  rw [List.range_succ, List.map_append]
  congr 1
  · exact List.map_congr_left (fun i hi => by
      have h9 := List.mem_range.mp hi
      rw [rf_tg_tu v n t len i hl (by omega), if_neg (by omega)])
  · show [rf_tg n (rf_tu v n t len) len] = [v]
    rw [rf_tg_tu v n t len len hl hl, if_pos rfl]
theorem rf_tl_rep {n len : Nat} {v : α} : rf_tl n len (rf_tr v n) = List.replicate len v := by
  apply List.ext_getElem?
  intro j
  rw [rf_tl_at, List.getElem?_replicate, rf_tg_tr]
end RF1
/-! what an array holds: a list, or a tree of so many -/
abbrev rf_V : Type := List Value ⊕ ((n : Nat) × (Nat × rf_T Value n))
noncomputable def rf_va (V : rf_V) : List Value := match V with
  | .inl l => l
  | .inr ⟨n, l, t⟩ => rf_tl n l t
noncomputable def rf_vn (V : rf_V) (i : Nat) : Option Value := match V with
  | .inl l => ri_nth l i
  | .inr ⟨n, l, t⟩ => bif Nat.blt i l then some (rf_tg n t i) else none
theorem rf_vn_eq {V : rf_V} {i : Nat} : ri_nth (rf_va V) i = rf_vn V i := by
  match V with
  | .inl l => rfl
  | .inr ⟨n, l, t⟩ =>
    show ri_nth (rf_tl n l t) i = bif Nat.blt i l then some (rf_tg n t i) else none
    rw [ri_nth_eq, rf_tl_at]
    by_cases h : i < l
    · rw [if_pos h, rf_blt_t h, cond_true]
    · rw [if_neg h, rf_blt_f h, cond_false]
noncomputable def rf_vk (V : rf_V) : Bool := match V with
  | .inl _ => true
  | .inr ⟨n, l, _⟩ => Nat.ble l (Nat.pow 2 n)
noncomputable def rf_vu (v : Value) (V : rf_V) (i : Nat) : rf_V := match V with
  | .inl l => .inl (ri_upd v l i)
  | .inr ⟨n, l, t⟩ => .inr ⟨n, l, rf_tu v n t i⟩
theorem rf_vu_eq {v u : Value} {V : rf_V} {i : Nat} (hk : rf_vk V = true) (hi : rf_vn V i = some u) : rf_va (rf_vu v V i) = ri_upd v (rf_va V) i := by
  match V, hk, hi with
  | .inl l, _, _ => rfl
  | .inr ⟨n, l, t⟩, hk, hi =>
    show rf_tl n l (rf_tu v n t i) = ri_upd v (rf_tl n l t) i
    have h9 : i < l := by
      have hi2 : (bif Nat.blt i l then some (rf_tg n t i) else none) = some u := hi
      by_cases h : i < l
      · exact h
      · rw [rf_blt_f h, cond_false] at hi2
        cases hi2
    rw [ri_upd_eq]
    exact rf_tl_set (Nat.le_of_ble_eq_true hk) h9
noncomputable def rf_vl (V : rf_V) : Nat := match V with
  | .inl l => l.length
  | .inr ⟨_, l, _⟩ => l
theorem rf_vl_eq {V : rf_V} : (rf_va V).length = rf_vl V := by
  match V with
  | .inl l => rfl
  | .inr ⟨n, l, t⟩ => exact rf_tl_len
noncomputable def rf_nv (N : Nat) (d : Value) : rf_V := bif Nat.ble N 24 then .inl (List.replicate N d) else .inr ⟨Nat.succ (Nat.log2 N), N, rf_tr d (Nat.succ (Nat.log2 N))⟩
theorem rf_nv_eq {N : Nat} {d : Value} : rf_va (rf_nv N d) = List.replicate N d := by
  unfold rf_nv
  cases Nat.ble N 24 with
  | true => rfl
  | false => exact rf_tl_rep
/-! cells and worlds -/
abbrev rf_E : Type := (Nat × rf_V) ⊕ (Nat × List Value)
noncomputable def rf_ea (x : rf_E) : ri_E := match x with
  | .inl a => .inl (a.1, rf_va a.2)
  | .inr o => .inr o
/-- a world: how many cells, the tree of them, and one cell that is laid over it (the one that was written last) -/
abbrev rf_W : Type := Nat × rf_T rf_E 10 × Nat × rf_E
noncomputable def rf_wr (t : rf_T rf_E 10) (q0 : Nat) (e0 : rf_E) (q : Nat) : rf_E := @Bool.rec (fun _ => rf_E) (rf_tg 10 t q) e0 (Nat.beq q q0)
theorem rf_wr_at {t : rf_T rf_E 10} {q0 : Nat} {e0 : rf_E} : rf_wr t q0 e0 q0 = e0 := by
  unfold rf_wr
  rw [Nat.beq_refl]
theorem rf_wr_ne {t : rf_T rf_E 10} {q0 q : Nat} {e0 : rf_E} (h : q ≠ q0) : rf_wr t q0 e0 q = rf_tg 10 t q := by
  unfold rf_wr
  rw [show Nat.beq q q0 = false from Bool.eq_false_iff.mpr (fun e => h (Nat.eq_of_beq_eq_true e))]
noncomputable def rf_wa (w : rf_W) : List ri_E := (List.range w.1).map (fun q => rf_ea (rf_wr w.2.1 w.2.2.1 w.2.2.2 q))
theorem rf_wa_len {w : rf_W} : (rf_wa w).length = w.1 := by
  unfold rf_wa
  rw [List.length_map, List.length_range]
theorem rf_wa_at {w : rf_W} {q : Nat} : (rf_wa w)[q]? = if q < w.1 then some (rf_ea (rf_wr w.2.1 w.2.2.1 w.2.2.2 q)) else none := by
  unfold rf_wa
  rw [List.getElem?_map]
  by_cases h : q < w.1
  · rw [List.getElem?_range h, if_pos h]
    rfl
  · rw [List.getElem?_eq_none (by rw [List.length_range]; omega), if_neg h]
    rfl
noncomputable def rf_wn (w : rf_W) (q : Nat) : Option rf_E := match w with
  | (n, t, q0, e0) => @Bool.rec (fun _ => Option rf_E) none (some (rf_wr t q0 e0 q)) (Nat.ble (Nat.succ q) n)
theorem rf_wn_t {w : rf_W} {q : Nat} (h : q < w.1) : rf_wn w q = some (rf_wr w.2.1 w.2.2.1 w.2.2.2 q) := by
  obtain ⟨n, t, q0, e0⟩ := w
  show @Bool.rec (fun _ => Option rf_E) none (some (rf_wr t q0 e0 q)) (Nat.ble (Nat.succ q) n) = _
  rw [show Nat.ble (Nat.succ q) n = true from Nat.ble_eq_true_of_le h]
theorem rf_wn_f {w : rf_W} {q : Nat} (h : ¬ q < w.1) : rf_wn w q = none := by
  obtain ⟨n, t, q0, e0⟩ := w
  show @Bool.rec (fun _ => Option rf_E) none (some (rf_wr t q0 e0 q)) (Nat.ble (Nat.succ q) n) = _
  rw [show Nat.ble (Nat.succ q) n = false from Bool.eq_false_iff.mpr (fun e => h (Nat.le_of_ble_eq_true e))]
theorem rf_wn_eq {w : rf_W} {q : Nat} : ri_nth (rf_wa w) q = (rf_wn w q).map rf_ea := by
  rw [ri_nth_eq, rf_wa_at]
  by_cases h : q < w.1
  · rw [if_pos h, rf_wn_t h]
    rfl
  · rw [if_neg h, rf_wn_f h]
    rfl
noncomputable def rf_wu (x : rf_E) (w : rf_W) (q : Nat) : rf_W := match w with
  | (n, t, q0, e0) => @Bool.rec (fun _ => rf_W) (n, rf_tu e0 10 t q0, q, x) (n, t, q0, x) (Nat.beq q q0)
noncomputable def rf_wk (w : rf_W) : Bool := match w with
  | (n, _, q0, _) => Nat.ble n 1024 && Nat.ble (Nat.succ q0) 1024
theorem rf_wk_n {w : rf_W} (h : rf_wk w = true) : w.1 ≤ 1024 ∧ w.2.2.1 < 1024 := by
  obtain ⟨n, t, q0, e0⟩ := w
  obtain ⟨a, b⟩ := (Bool.and_eq_true _ _ ▸ (show (Nat.ble n 1024 && Nat.ble (Nat.succ q0) 1024) = true from h) : Nat.ble n 1024 = true ∧ Nat.ble (Nat.succ q0) 1024 = true)
  exact ⟨Nat.le_of_ble_eq_true a, Nat.le_of_ble_eq_true b⟩
theorem rf_wu_eq {x y : rf_E} {w : rf_W} {q : Nat} (hk : rf_wk w = true) (hq : rf_wn w q = some y) : rf_wa (rf_wu x w q) = ri_upd (rf_ea x) (rf_wa w) q := by
  have h9 : q < w.1 := by
    by_cases h : q < w.1
    · exact h
    · rw [rf_wn_f h] at hq
      cases hq
  obtain ⟨hn, h0⟩ := rf_wk_n hk
  obtain ⟨n, t, q0, e0⟩ := w
  have hn : n ≤ 1024 := hn
  have h0 : q0 < 1024 := h0
  have h9 : q < n := h9
  rw [ri_upd_eq]
  apply List.ext_getElem?
  intro j
  rw [List.getElem?_set, rf_wa_len, rf_wa_at (w := (n, t, q0, e0))]
  show (rf_wa (@Bool.rec (fun _ => rf_W) (n, rf_tu e0 10 t q0, q, x) (n, t, q0, x) (Nat.beq q q0)))[j]? = if q = j then if q < n then some (rf_ea x) else none else if j < n then some (rf_ea (rf_wr t q0 e0 j)) else none
  rw [if_pos h9]
  by_cases e : q = q0
  · subst e
    rw [Nat.beq_refl]
    show (rf_wa (n, t, q, x))[j]? = _
    rw [rf_wa_at]
    show (if j < n then some (rf_ea (rf_wr t q x j)) else none) = _
    by_cases ej : q = j
    · subst ej
      rw [if_pos h9, if_pos rfl, rf_wr_at]
    · rw [if_neg ej, rf_wr_ne (fun z => ej z.symm), rf_wr_ne (fun z => ej z.symm)]
  · rw [show Nat.beq q q0 = false from Bool.eq_false_iff.mpr (fun z => e (Nat.eq_of_beq_eq_true z))]
    show (rf_wa (n, rf_tu e0 10 t q0, q, x))[j]? = _
    rw [rf_wa_at]
    show (if j < n then some (rf_ea (rf_wr (rf_tu e0 10 t q0) q x j)) else none) = _
    by_cases ej : q = j
    · subst ej
      rw [if_pos h9, if_pos rfl, rf_wr_at]
    · rw [if_neg ej]
      by_cases hj : j < n
      · rw [if_pos hj, if_pos hj, rf_wr_ne (fun z => ej z.symm), rf_tg_tu e0 10 t q0 j h0 (show j < 1024 from Nat.lt_of_lt_of_le hj hn)]
        by_cases e0j : j = q0
        · subst e0j
          rw [if_pos rfl, rf_wr_at]
        · rw [if_neg e0j, rf_wr_ne e0j]
      · rw [if_neg hj, if_neg hj]
noncomputable def rf_wp (w : rf_W) (x : rf_E) : rf_W := match w with
  | (n, t, q0, e0) => @Bool.rec (fun _ => rf_W) (Nat.succ n, rf_tu x 10 t n, q0, e0) (Nat.succ n, rf_tu e0 10 t q0, n, x) (Nat.ble (Nat.succ q0) 1024)
theorem rf_wp_n {x : rf_E} {w : rf_W} : (rf_wp w x).1 = w.1 + 1 := by
  obtain ⟨n, t, q0, e0⟩ := w
  show (@Bool.rec (fun _ => rf_W) (Nat.succ n, rf_tu x 10 t n, q0, e0) (Nat.succ n, rf_tu e0 10 t q0, n, x) (Nat.ble (Nat.succ q0) 1024)).1 = n + 1
  cases Nat.ble (Nat.succ q0) 1024 <;> rfl
theorem rf_wp_eq {x : rf_E} {w : rf_W} (h : Nat.blt w.1 1024 = true) : rf_wa (rf_wp w x) = rf_wa w ++ [rf_ea x] := by
  have hl := rf_wp_n (x := x) (w := w)
  obtain ⟨n, t, q0, e0⟩ := w
  have hn : n < 1024 := Nat.le_of_ble_eq_true h
  have hl : (rf_wp (n, t, q0, e0) x).1 = n + 1 := hl
  apply List.ext_getElem?
  intro j
  rw [List.getElem?_append, rf_wa_len, rf_wa_at, rf_wa_at, hl]
  show (if j < n + 1 then some (rf_ea (rf_wr (rf_wp (n, t, q0, e0) x).2.1 (rf_wp (n, t, q0, e0) x).2.2.1 (rf_wp (n, t, q0, e0) x).2.2.2 j)) else none) = if j < n then if j < n then some (rf_ea (rf_wr t q0 e0 j)) else none else [rf_ea x][j - n]?
  have key : j < n + 1 → rf_wr (rf_wp (n, t, q0, e0) x).2.1 (rf_wp (n, t, q0, e0) x).2.2.1 (rf_wp (n, t, q0, e0) x).2.2.2 j = if j = n then x else rf_wr t q0 e0 j := by
    intro hj
    by_cases h0 : q0 < 1024
    · have e9 : rf_wp (n, t, q0, e0) x = (Nat.succ n, rf_tu e0 10 t q0, n, x) := by
        show @Bool.rec (fun _ => rf_W) (Nat.succ n, rf_tu x 10 t n, q0, e0) (Nat.succ n, rf_tu e0 10 t q0, n, x) (Nat.ble (Nat.succ q0) 1024) = _
        rw [show Nat.ble (Nat.succ q0) 1024 = true from Nat.ble_eq_true_of_le h0]
      rw [e9]
      show rf_wr (rf_tu e0 10 t q0) n x j = _
      by_cases ej : j = n
      · subst ej
        rw [rf_wr_at, if_pos rfl]
      · rw [rf_wr_ne ej, if_neg ej, rf_tg_tu e0 10 t q0 j h0 (show j < 1024 by omega)]
        by_cases e0j : j = q0
        · subst e0j
          rw [if_pos rfl, rf_wr_at]
        · rw [if_neg e0j, rf_wr_ne e0j]
    · have e9 : rf_wp (n, t, q0, e0) x = (Nat.succ n, rf_tu x 10 t n, q0, e0) := by
        show @Bool.rec (fun _ => rf_W) (Nat.succ n, rf_tu x 10 t n, q0, e0) (Nat.succ n, rf_tu e0 10 t q0, n, x) (Nat.ble (Nat.succ q0) 1024) = _
        rw [show Nat.ble (Nat.succ q0) 1024 = false from Bool.eq_false_iff.mpr (fun z => h0 (Nat.le_of_ble_eq_true z))]
      rw [e9]
      show rf_wr (rf_tu x 10 t n) q0 e0 j = _
      rw [rf_wr_ne (by omega), rf_wr_ne (by omega), rf_tg_tu x 10 t n j hn (show j < 1024 by omega)]
  by_cases hj : j < n
  · rw [if_pos (by omega), if_pos hj, if_pos hj, key (by omega), if_neg (by omega)]
  · rw [if_neg hj]
    by_cases hj2 : j = n
    · subst hj2
      rw [if_pos (by omega), key (by omega), if_pos rfl, Nat.sub_self]
      rfl
    · rw [if_neg (by omega), List.getElem?_eq_none (by simp; omega)]
noncomputable def rf_wps (xs : List rf_E) : rf_W → rf_W := List.rec (fun w => w) (fun x _ ih w => ih (rf_wp w x)) xs
theorem rf_wps_eq : ∀ (xs : List rf_E) (w : rf_W), w.1 + xs.length ≤ 1024 → rf_wa (rf_wps xs w) = rf_wa w ++ xs.map rf_ea
  | [], w, _ => by
    show rf_wa w = rf_wa w ++ []
    rw [List.append_nil]
  | x :: xs, w, h => by
    rw [List.length_cons] at h
    show rf_wa (rf_wps xs (rf_wp w x)) = rf_wa w ++ (rf_ea x :: xs.map rf_ea)
    rw [rf_wps_eq xs (rf_wp w x) (by rw [rf_wp_n]; omega), rf_wp_eq (rf_blt_t (by omega)), List.append_assoc]
    rfl
