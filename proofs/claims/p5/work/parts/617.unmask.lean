/-! ===== a contract of one side's cells is one of the whole world ===== -/
theorem pv_unmask {E : sy_env} {own : Nat → Bool} {T : Nat → Option sy_C} {RU : sy_RT} {c : sy_Ct} (hT : ∀ n, 1000000 ≤ n → ri_nth E.2.2.2.1 n = none) (h : sy_Cok E (pv_T own T) RU c) : sy_Cok E T RU c := by
  intro M ρ vals w fr d bud hM hk hv ht hh hd hal h1 h2
  have k := h M ρ vals (pv_mk own w) fr d bud hM hk hv (pv_tw ht (fun q hq => pv_mk_own hq)) (pv_hok hh (pv_mk_wv _ _)) (pv_ru hd (pv_mk_wv _ _)) (by rw [pv_mk_len]; exact hal) h1 h2
  obtain ⟨n, out, e1, p⟩ := k
  obtain ⟨w3, e2, s⟩ := pv_rr (own := own) hT e1 (by rw [pv_mk_len]; exact hal) (pv_le_mk (own := own) (w := w) (v := w) ⟨rfl, fun _ _ => rfl⟩)
  refine ⟨n, (out.1, w3, out.2.2), e2, ?_⟩
  obtain ⟨q1, q2, q3, q4, o, ho, m, r1, r2, r3, r4, r5, r6⟩ := p
  have val : ∀ q j : Nat, sy_wv w3 q j = sy_wv out.2.1 q j := by
    intro q j
    cases hq : own q with
    | true => exact pv_wv_of (s.1.2.2 q hq).symm j
    | false => rw [pv_wv_of (s.2.2 q hq).2 j, ← pv_mk_wv own w q j, pv_wv_of (s.2.2 q hq).1 j]
  refine ⟨q1, ?_, fun q c9 hq => ?_, fun q j hn => (val q j).trans ((q4 q j hn).trans (pv_mk_wv own w q j)), o, ho, m, r1, pv_hok r2 val, pv_ru r3 val, r4, r5, r6⟩
  · rw [← s.1.1, q2, pv_mk_len]
  · cases ho : own q with
    | true =>
      rw [← s.1.2.2 q ho]
      exact q3 q c9 (by unfold pv_T; rw [ho]; exact hq)
    | false =>
      rw [(s.2.2 q ho).2]
      exact ht q c9 hq
