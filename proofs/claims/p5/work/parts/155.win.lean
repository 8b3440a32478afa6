/-! ===== a program that is right, by reckoning: each instruction decoded in a window of its own, words looked up by list and place ===== -/
abbrev wd_D (α : Type) : Type := Jvm.ClassFile.Decoder α
section WDA
variable {α β : Type}
theorem wd_bind {r : wd_D α} {f : α → wd_D β} {B : ByteArray} {p q : Nat} {a : α} (h : Jvm.ClassFile.Reader.runAt r B p = .ok (a, q)) : Jvm.ClassFile.Reader.runAt (r >>= f) B p = Jvm.ClassFile.Reader.runAt (f a) B q := by
  show Except.bind (r B p) (fun z => f z.1 B z.2) = f a B q
  rw [show r B p = .ok (a, q) from h]
  rfl
theorem wd_inv {r : wd_D α} {f : α → wd_D β} {B : ByteArray} {p q2 : Nat} {b : β} (h : Jvm.ClassFile.Reader.runAt (r >>= f) B p = .ok (b, q2)) : ∃ (a : α) (q : Nat), Jvm.ClassFile.Reader.runAt r B p = .ok (a, q) ∧ Jvm.ClassFile.Reader.runAt (f a) B q = .ok (b, q2) := by
  have h2 : Except.bind (r B p) (fun z => f z.1 B z.2) = .ok (b, q2) := h
  cases hr : r B p with
  | error e =>
    rw [hr] at h2
    cases h2
  | ok z =>
    rw [hr] at h2
    exact ⟨z.1, z.2, hr, h2⟩
/-- what is read in the window W is read in B, s further on -/
def wd_Sim (B W : ByteArray) (s : Nat) (r r' : wd_D α) : Prop := ∀ (q : Nat) (a : α) (q2 : Nat), Jvm.ClassFile.Reader.runAt r' W q = .ok (a, q2) → Jvm.ClassFile.Reader.runAt r B (s + q) = .ok (a, s + q2)
variable {B W : ByteArray} {s : Nat}
theorem wd_s0 (a : α) : wd_Sim B W s (pure a) (pure a) := fun q b q2 h => by
  cases h
  rfl
theorem wd_sb {r r' : wd_D α} {f f' : α → wd_D β} (h1 : wd_Sim B W s r r') (h2 : ∀ a, wd_Sim B W s (f a) (f' a)) : wd_Sim B W s (r >>= f) (r' >>= f') := fun q b q2 h => by
  obtain ⟨a, q1, e1, e2⟩ := wd_inv h
  rw [wd_bind (h1 q a q1 e1)]
  exact h2 a q1 b q2 e2
theorem wd_map (g : α → β) (r : wd_D α) : (g <$> r) = (r >>= fun a => pure (g a)) := by
  funext B p
  show Except.bind (r B p) (fun z => Except.ok (g z.1, z.2)) = Except.bind (r B p) (fun z => Except.ok (g z.1, z.2))
  rfl
theorem wd_sm {r r' : wd_D α} (g : α → β) (h : wd_Sim B W s r r') : wd_Sim B W s (g <$> r) (g <$> r') := by
  rw [wd_map, wd_map]
  exact wd_sb h (fun a => wd_s0 _)
end WDA
def wd_win (B W : ByteArray) (s : Nat) : Prop := ∀ q : Nat, (h : q < W.size) → ∃ h2 : s + q < B.size, B[s + q] = W[q]
theorem wd_u1_ok {B : ByteArray} {p : Nat} (h : p < B.size) : Jvm.ClassFile.Reader.runAt (Jvm.ClassFile.Reader.u1 : wd_D Nat) B p = .ok (B[p].toNat, p + 1) := by
  show (dite (p < B.size) _ _ : wd_D Nat) B p = _
  rw [dif_pos h]
  rfl
theorem wd_u1_no {B : ByteArray} {p : Nat} {z : Nat × Nat} (h : ¬ p < B.size) : Jvm.ClassFile.Reader.runAt (Jvm.ClassFile.Reader.u1 : wd_D Nat) B p ≠ .ok z := by
  show (dite (p < B.size) _ _ : wd_D Nat) B p ≠ _
  rw [dif_neg h]
  intro e
  cases e
section WDB
variable {B W : ByteArray} {s : Nat}
theorem wd_s1 (hw : wd_win B W s) : wd_Sim B W s Jvm.ClassFile.Reader.u1 Jvm.ClassFile.Reader.u1 := fun q a q2 h => by
  by_cases hq : q < W.size
  · rw [wd_u1_ok hq] at h
    cases h
    obtain ⟨h2, e⟩ := hw q hq
    rw [wd_u1_ok h2, e]
    rfl
  · exact absurd h (wd_u1_no hq)
theorem wd_s2 (hw : wd_win B W s) : wd_Sim B W s Jvm.ClassFile.Reader.u2 Jvm.ClassFile.Reader.u2 := wd_sb (wd_s1 hw) (fun _ => wd_sb (wd_s1 hw) (fun _ => wd_s0 _))
theorem wd_t1 (hw : wd_win B W s) : wd_Sim B W s Jvm.ClassFile.Reader.s1 Jvm.ClassFile.Reader.s1 := wd_sm _ (wd_s1 hw)
theorem wd_t2 (hw : wd_win B W s) : wd_Sim B W s Jvm.ClassFile.Reader.s2 Jvm.ClassFile.Reader.s2 := wd_sm _ (wd_s2 hw)
end WDB

def wd_ops : List Nat := [1, 2, 3, 4, 5, 6, 7, 8, 9, 10, 14, 15, 16, 17, 18, 19, 20, 21, 22, 24, 25, 26, 27, 28, 29, 30, 31, 32, 33, 38, 39, 40, 41, 42, 43, 44, 45, 46, 47, 49, 50, 51, 54, 55, 57, 58, 59, 60, 61, 62, 63, 64, 65, 66, 71, 72, 73, 74, 75, 76, 77, 78, 79, 80, 82, 83, 84, 87, 89, 90, 92, 96, 97, 99, 100, 101, 103, 104, 105, 107, 108, 109, 111, 112, 113, 116, 117, 119, 120, 121, 122, 123, 124, 125, 126, 127, 128, 129, 130, 131, 132, 133, 135, 136, 138, 142, 143, 145, 148, 151, 152, 153, 154, 155, 156, 157, 158, 159, 160, 161, 162, 163, 164, 167, 172, 173, 175, 176, 177, 180, 181, 182, 183, 184, 187, 189, 190, 198, 199]
theorem wd_body : ∃ body : Nat → Nat → wd_D Instr, (∀ pc, Jvm.ClassFile.Decoder.instr pc = (Jvm.ClassFile.Reader.u1 >>= body pc)) ∧ ∀ n ∈ wd_ops, ∀ (B W : ByteArray) (s pc : Nat), wd_win B W s → wd_Sim B W s (body pc n) (body 0 n) := by
  refine ⟨_, fun pc => rfl, ?_⟩
  unfold wd_ops
  refine List.forall_mem_cons.mpr ⟨fun B W s pc hw => by first | exact wd_s0 _ | exact wd_sb (wd_s2 hw) (fun _ => wd_s0 _) | exact wd_sb (wd_s1 hw) (fun _ => wd_s0 _) | exact wd_sb (wd_t2 hw) (fun _ => wd_s0 _) | exact wd_sb (wd_t1 hw) (fun _ => wd_s0 _) | exact wd_sb (wd_s1 hw) (fun _ => wd_sb (wd_t1 hw) (fun _ => wd_s0 _)), ?_⟩
  refine List.forall_mem_cons.mpr ⟨fun B W s pc hw => by first | exact wd_s0 _ | exact wd_sb (wd_s2 hw) (fun _ => wd_s0 _) | exact wd_sb (wd_s1 hw) (fun _ => wd_s0 _) | exact wd_sb (wd_t2 hw) (fun _ => wd_s0 _) | exact wd_sb (wd_t1 hw) (fun _ => wd_s0 _) | exact wd_sb (wd_s1 hw) (fun _ => wd_sb (wd_t1 hw) (fun _ => wd_s0 _)), ?_⟩
  refine List.forall_mem_cons.mpr ⟨fun B W s pc hw => by first | exact wd_s0 _ | exact wd_sb (wd_s2 hw) (fun _ => wd_s0 _) | exact wd_sb (wd_s1 hw) (fun _ => wd_s0 _) | exact wd_sb (wd_t2 hw) (fun _ => wd_s0 _) | exact wd_sb (wd_t1 hw) (fun _ => wd_s0 _) | exact wd_sb (wd_s1 hw) (fun _ => wd_sb (wd_t1 hw) (fun _ => wd_s0 _)), ?_⟩
  refine List.forall_mem_cons.mpr ⟨fun B W s pc hw => by first | exact wd_s0 _ | exact wd_sb (wd_s2 hw) (fun _ => wd_s0 _) | exact wd_sb (wd_s1 hw) (fun _ => wd_s0 _) | exact wd_sb (wd_t2 hw) (fun _ => wd_s0 _) | exact wd_sb (wd_t1 hw) (fun _ => wd_s0 _) | exact wd_sb (wd_s1 hw) (fun _ => wd_sb (wd_t1 hw) (fun _ => wd_s0 _)), ?_⟩
  refine List.forall_mem_cons.mpr ⟨fun B W s pc hw => by first | exact wd_s0 _ | exact wd_sb (wd_s2 hw) (fun _ => wd_s0 _) | exact wd_sb (wd_s1 hw) (fun _ => wd_s0 _) | exact wd_sb (wd_t2 hw) (fun _ => wd_s0 _) | exact wd_sb (wd_t1 hw) (fun _ => wd_s0 _) | exact wd_sb (wd_s1 hw) (fun _ => wd_sb (wd_t1 hw) (fun _ => wd_s0 _)), ?_⟩
  refine List.forall_mem_cons.mpr ⟨fun B W s pc hw => by first | exact wd_s0 _ | exact wd_sb (wd_s2 hw) (fun _ => wd_s0 _) | exact wd_sb (wd_s1 hw) (fun _ => wd_s0 _) | exact wd_sb (wd_t2 hw) (fun _ => wd_s0 _) | exact wd_sb (wd_t1 hw) (fun _ => wd_s0 _) | exact wd_sb (wd_s1 hw) (fun _ => wd_sb (wd_t1 hw) (fun _ => wd_s0 _)), ?_⟩
  refine List.forall_mem_cons.mpr ⟨fun B W s pc hw => by first | exact wd_s0 _ | exact wd_sb (wd_s2 hw) (fun _ => wd_s0 _) | exact wd_sb (wd_s1 hw) (fun _ => wd_s0 _) | exact wd_sb (wd_t2 hw) (fun _ => wd_s0 _) | exact wd_sb (wd_t1 hw) (fun _ => wd_s0 _) | exact wd_sb (wd_s1 hw) (fun _ => wd_sb (wd_t1 hw) (fun _ => wd_s0 _)), ?_⟩
  refine List.forall_mem_cons.mpr ⟨fun B W s pc hw => by first | exact wd_s0 _ | exact wd_sb (wd_s2 hw) (fun _ => wd_s0 _) | exact wd_sb (wd_s1 hw) (fun _ => wd_s0 _) | exact wd_sb (wd_t2 hw) (fun _ => wd_s0 _) | exact wd_sb (wd_t1 hw) (fun _ => wd_s0 _) | exact wd_sb (wd_s1 hw) (fun _ => wd_sb (wd_t1 hw) (fun _ => wd_s0 _)), ?_⟩
  refine List.forall_mem_cons.mpr ⟨fun B W s pc hw => by first | exact wd_s0 _ | exact wd_sb (wd_s2 hw) (fun _ => wd_s0 _) | exact wd_sb (wd_s1 hw) (fun _ => wd_s0 _) | exact wd_sb (wd_t2 hw) (fun _ => wd_s0 _) | exact wd_sb (wd_t1 hw) (fun _ => wd_s0 _) | exact wd_sb (wd_s1 hw) (fun _ => wd_sb (wd_t1 hw) (fun _ => wd_s0 _)), ?_⟩
  refine List.forall_mem_cons.mpr ⟨fun B W s pc hw => by first | exact wd_s0 _ | exact wd_sb (wd_s2 hw) (fun _ => wd_s0 _) | exact wd_sb (wd_s1 hw) (fun _ => wd_s0 _) | exact wd_sb (wd_t2 hw) (fun _ => wd_s0 _) | exact wd_sb (wd_t1 hw) (fun _ => wd_s0 _) | exact wd_sb (wd_s1 hw) (fun _ => wd_sb (wd_t1 hw) (fun _ => wd_s0 _)), ?_⟩
  refine List.forall_mem_cons.mpr ⟨fun B W s pc hw => by first | exact wd_s0 _ | exact wd_sb (wd_s2 hw) (fun _ => wd_s0 _) | exact wd_sb (wd_s1 hw) (fun _ => wd_s0 _) | exact wd_sb (wd_t2 hw) (fun _ => wd_s0 _) | exact wd_sb (wd_t1 hw) (fun _ => wd_s0 _) | exact wd_sb (wd_s1 hw) (fun _ => wd_sb (wd_t1 hw) (fun _ => wd_s0 _)), ?_⟩
  refine List.forall_mem_cons.mpr ⟨fun B W s pc hw => by first | exact wd_s0 _ | exact wd_sb (wd_s2 hw) (fun _ => wd_s0 _) | exact wd_sb (wd_s1 hw) (fun _ => wd_s0 _) | exact wd_sb (wd_t2 hw) (fun _ => wd_s0 _) | exact wd_sb (wd_t1 hw) (fun _ => wd_s0 _) | exact wd_sb (wd_s1 hw) (fun _ => wd_sb (wd_t1 hw) (fun _ => wd_s0 _)), ?_⟩
  refine List.forall_mem_cons.mpr ⟨fun B W s pc hw => by first | exact wd_s0 _ | exact wd_sb (wd_s2 hw) (fun _ => wd_s0 _) | exact wd_sb (wd_s1 hw) (fun _ => wd_s0 _) | exact wd_sb (wd_t2 hw) (fun _ => wd_s0 _) | exact wd_sb (wd_t1 hw) (fun _ => wd_s0 _) | exact wd_sb (wd_s1 hw) (fun _ => wd_sb (wd_t1 hw) (fun _ => wd_s0 _)), ?_⟩
  refine List.forall_mem_cons.mpr ⟨fun B W s pc hw => by first | exact wd_s0 _ | exact wd_sb (wd_s2 hw) (fun _ => wd_s0 _) | exact wd_sb (wd_s1 hw) (fun _ => wd_s0 _) | exact wd_sb (wd_t2 hw) (fun _ => wd_s0 _) | exact wd_sb (wd_t1 hw) (fun _ => wd_s0 _) | exact wd_sb (wd_s1 hw) (fun _ => wd_sb (wd_t1 hw) (fun _ => wd_s0 _)), ?_⟩
  refine List.forall_mem_cons.mpr ⟨fun B W s pc hw => by first | exact wd_s0 _ | exact wd_sb (wd_s2 hw) (fun _ => wd_s0 _) | exact wd_sb (wd_s1 hw) (fun _ => wd_s0 _) | exact wd_sb (wd_t2 hw) (fun _ => wd_s0 _) | exact wd_sb (wd_t1 hw) (fun _ => wd_s0 _) | exact wd_sb (wd_s1 hw) (fun _ => wd_sb (wd_t1 hw) (fun _ => wd_s0 _)), ?_⟩
  refine List.forall_mem_cons.mpr ⟨fun B W s pc hw => by first | exact wd_s0 _ | exact wd_sb (wd_s2 hw) (fun _ => wd_s0 _) | exact wd_sb (wd_s1 hw) (fun _ => wd_s0 _) | exact wd_sb (wd_t2 hw) (fun _ => wd_s0 _) | exact wd_sb (wd_t1 hw) (fun _ => wd_s0 _) | exact wd_sb (wd_s1 hw) (fun _ => wd_sb (wd_t1 hw) (fun _ => wd_s0 _)), ?_⟩
  refine List.forall_mem_cons.mpr ⟨fun B W s pc hw => by first | exact wd_s0 _ | exact wd_sb (wd_s2 hw) (fun _ => wd_s0 _) | exact wd_sb (wd_s1 hw) (fun _ => wd_s0 _) | exact wd_sb (wd_t2 hw) (fun _ => wd_s0 _) | exact wd_sb (wd_t1 hw) (fun _ => wd_s0 _) | exact wd_sb (wd_s1 hw) (fun _ => wd_sb (wd_t1 hw) (fun _ => wd_s0 _)), ?_⟩
  refine List.forall_mem_cons.mpr ⟨fun B W s pc hw => by first | exact wd_s0 _ | exact wd_sb (wd_s2 hw) (fun _ => wd_s0 _) | exact wd_sb (wd_s1 hw) (fun _ => wd_s0 _) | exact wd_sb (wd_t2 hw) (fun _ => wd_s0 _) | exact wd_sb (wd_t1 hw) (fun _ => wd_s0 _) | exact wd_sb (wd_s1 hw) (fun _ => wd_sb (wd_t1 hw) (fun _ => wd_s0 _)), ?_⟩
  refine List.forall_mem_cons.mpr ⟨fun B W s pc hw => by first | exact wd_s0 _ | exact wd_sb (wd_s2 hw) (fun _ => wd_s0 _) | exact wd_sb (wd_s1 hw) (fun _ => wd_s0 _) | exact wd_sb (wd_t2 hw) (fun _ => wd_s0 _) | exact wd_sb (wd_t1 hw) (fun _ => wd_s0 _) | exact wd_sb (wd_s1 hw) (fun _ => wd_sb (wd_t1 hw) (fun _ => wd_s0 _)), ?_⟩
  refine List.forall_mem_cons.mpr ⟨fun B W s pc hw => by first | exact wd_s0 _ | exact wd_sb (wd_s2 hw) (fun _ => wd_s0 _) | exact wd_sb (wd_s1 hw) (fun _ => wd_s0 _) | exact wd_sb (wd_t2 hw) (fun _ => wd_s0 _) | exact wd_sb (wd_t1 hw) (fun _ => wd_s0 _) | exact wd_sb (wd_s1 hw) (fun _ => wd_sb (wd_t1 hw) (fun _ => wd_s0 _)), ?_⟩
  refine List.forall_mem_cons.mpr ⟨fun B W s pc hw => by first | exact wd_s0 _ | exact wd_sb (wd_s2 hw) (fun _ => wd_s0 _) | exact wd_sb (wd_s1 hw) (fun _ => wd_s0 _) | exact wd_sb (wd_t2 hw) (fun _ => wd_s0 _) | exact wd_sb (wd_t1 hw) (fun _ => wd_s0 _) | exact wd_sb (wd_s1 hw) (fun _ => wd_sb (wd_t1 hw) (fun _ => wd_s0 _)), ?_⟩
  refine List.forall_mem_cons.mpr ⟨fun B W s pc hw => by first | exact wd_s0 _ | exact wd_sb (wd_s2 hw) (fun _ => wd_s0 _) | exact wd_sb (wd_s1 hw) (fun _ => wd_s0 _) | exact wd_sb (wd_t2 hw) (fun _ => wd_s0 _) | exact wd_sb (wd_t1 hw) (fun _ => wd_s0 _) | exact wd_sb (wd_s1 hw) (fun _ => wd_sb (wd_t1 hw) (fun _ => wd_s0 _)), ?_⟩
  refine List.forall_mem_cons.mpr ⟨fun B W s pc hw => by first | exact wd_s0 _ | exact wd_sb (wd_s2 hw) (fun _ => wd_s0 _) | exact wd_sb (wd_s1 hw) (fun _ => wd_s0 _) | exact wd_sb (wd_t2 hw) (fun _ => wd_s0 _) | exact wd_sb (wd_t1 hw) (fun _ => wd_s0 _) | exact wd_sb (wd_s1 hw) (fun _ => wd_sb (wd_t1 hw) (fun _ => wd_s0 _)), ?_⟩
  refine List.forall_mem_cons.mpr ⟨fun B W s pc hw => by first | exact wd_s0 _ | exact wd_sb (wd_s2 hw) (fun _ => wd_s0 _) | exact wd_sb (wd_s1 hw) (fun _ => wd_s0 _) | exact wd_sb (wd_t2 hw) (fun _ => wd_s0 _) | exact wd_sb (wd_t1 hw) (fun _ => wd_s0 _) | exact wd_sb (wd_s1 hw) (fun _ => wd_sb (wd_t1 hw) (fun _ => wd_s0 _)), ?_⟩
  refine List.forall_mem_cons.mpr ⟨fun B W s pc hw => by first | exact wd_s0 _ | exact wd_sb (wd_s2 hw) (fun _ => wd_s0 _) | exact wd_sb (wd_s1 hw) (fun _ => wd_s0 _) | exact wd_sb (wd_t2 hw) (fun _ => wd_s0 _) | exact wd_sb (wd_t1 hw) (fun _ => wd_s0 _) | exact wd_sb (wd_s1 hw) (fun _ => wd_sb (wd_t1 hw) (fun _ => wd_s0 _)), ?_⟩
  refine List.forall_mem_cons.mpr ⟨fun B W s pc hw => by first | exact wd_s0 _ | exact wd_sb (wd_s2 hw) (fun _ => wd_s0 _) | exact wd_sb (wd_s1 hw) (fun _ => wd_s0 _) | exact wd_sb (wd_t2 hw) (fun _ => wd_s0 _) | exact wd_sb (wd_t1 hw) (fun _ => wd_s0 _) | exact wd_sb (wd_s1 hw) (fun _ => wd_sb (wd_t1 hw) (fun _ => wd_s0 _)), ?_⟩
  refine List.forall_mem_cons.mpr ⟨fun B W s pc hw => by first | exact wd_s0 _ | exact wd_sb (wd_s2 hw) (fun _ => wd_s0 _) | exact wd_sb (wd_s1 hw) (fun _ => wd_s0 _) | exact wd_sb (wd_t2 hw) (fun _ => wd_s0 _) | exact wd_sb (wd_t1 hw) (fun _ => wd_s0 _) | exact wd_sb (wd_s1 hw) (fun _ => wd_sb (wd_t1 hw) (fun _ => wd_s0 _)), ?_⟩
  refine List.forall_mem_cons.mpr ⟨fun B W s pc hw => by first | exact wd_s0 _ | exact wd_sb (wd_s2 hw) (fun _ => wd_s0 _) | exact wd_sb (wd_s1 hw) (fun _ => wd_s0 _) | exact wd_sb (wd_t2 hw) (fun _ => wd_s0 _) | exact wd_sb (wd_t1 hw) (fun _ => wd_s0 _) | exact wd_sb (wd_s1 hw) (fun _ => wd_sb (wd_t1 hw) (fun _ => wd_s0 _)), ?_⟩
  refine List.forall_mem_cons.mpr ⟨fun B W s pc hw => by first | exact wd_s0 _ | exact wd_sb (wd_s2 hw) (fun _ => wd_s0 _) | exact wd_sb (wd_s1 hw) (fun _ => wd_s0 _) | exact wd_sb (wd_t2 hw) (fun _ => wd_s0 _) | exact wd_sb (wd_t1 hw) (fun _ => wd_s0 _) | exact wd_sb (wd_s1 hw) (fun _ => wd_sb (wd_t1 hw) (fun _ => wd_s0 _)), ?_⟩
  refine List.forall_mem_cons.mpr ⟨fun B W s pc hw => by first | exact wd_s0 _ | exact wd_sb (wd_s2 hw) (fun _ => wd_s0 _) | exact wd_sb (wd_s1 hw) (fun _ => wd_s0 _) | exact wd_sb (wd_t2 hw) (fun _ => wd_s0 _) | exact wd_sb (wd_t1 hw) (fun _ => wd_s0 _) | exact wd_sb (wd_s1 hw) (fun _ => wd_sb (wd_t1 hw) (fun _ => wd_s0 _)), ?_⟩
  refine List.forall_mem_cons.mpr ⟨fun B W s pc hw => by first | exact wd_s0 _ | exact wd_sb (wd_s2 hw) (fun _ => wd_s0 _) | exact wd_sb (wd_s1 hw) (fun _ => wd_s0 _) | exact wd_sb (wd_t2 hw) (fun _ => wd_s0 _) | exact wd_sb (wd_t1 hw) (fun _ => wd_s0 _) | exact wd_sb (wd_s1 hw) (fun _ => wd_sb (wd_t1 hw) (fun _ => wd_s0 _)), ?_⟩
  refine List.forall_mem_cons.mpr ⟨fun B W s pc hw => by first | exact wd_s0 _ | exact wd_sb (wd_s2 hw) (fun _ => wd_s0 _) | exact wd_sb (wd_s1 hw) (fun _ => wd_s0 _) | exact wd_sb (wd_t2 hw) (fun _ => wd_s0 _) | exact wd_sb (wd_t1 hw) (fun _ => wd_s0 _) | exact wd_sb (wd_s1 hw) (fun _ => wd_sb (wd_t1 hw) (fun _ => wd_s0 _)), ?_⟩
  refine List.forall_mem_cons.mpr ⟨fun B W s pc hw => by first | exact wd_s0 _ | exact wd_sb (wd_s2 hw) (fun _ => wd_s0 _) | exact wd_sb (wd_s1 hw) (fun _ => wd_s0 _) | exact wd_sb (wd_t2 hw) (fun _ => wd_s0 _) | exact wd_sb (wd_t1 hw) (fun _ => wd_s0 _) | exact wd_sb (wd_s1 hw) (fun _ => wd_sb (wd_t1 hw) (fun _ => wd_s0 _)), ?_⟩
  refine List.forall_mem_cons.mpr ⟨fun B W s pc hw => by first | exact wd_s0 _ | exact wd_sb (wd_s2 hw) (fun _ => wd_s0 _) | exact wd_sb (wd_s1 hw) (fun _ => wd_s0 _) | exact wd_sb (wd_t2 hw) (fun _ => wd_s0 _) | exact wd_sb (wd_t1 hw) (fun _ => wd_s0 _) | exact wd_sb (wd_s1 hw) (fun _ => wd_sb (wd_t1 hw) (fun _ => wd_s0 _)), ?_⟩
  refine List.forall_mem_cons.mpr ⟨fun B W s pc hw => by first | exact wd_s0 _ | exact wd_sb (wd_s2 hw) (fun _ => wd_s0 _) | exact wd_sb (wd_s1 hw) (fun _ => wd_s0 _) | exact wd_sb (wd_t2 hw) (fun _ => wd_s0 _) | exact wd_sb (wd_t1 hw) (fun _ => wd_s0 _) | exact wd_sb (wd_s1 hw) (fun _ => wd_sb (wd_t1 hw) (fun _ => wd_s0 _)), ?_⟩
  refine List.forall_mem_cons.mpr ⟨fun B W s pc hw => by first | exact wd_s0 _ | exact wd_sb (wd_s2 hw) (fun _ => wd_s0 _) | exact wd_sb (wd_s1 hw) (fun _ => wd_s0 _) | exact wd_sb (wd_t2 hw) (fun _ => wd_s0 _) | exact wd_sb (wd_t1 hw) (fun _ => wd_s0 _) | exact wd_sb (wd_s1 hw) (fun _ => wd_sb (wd_t1 hw) (fun _ => wd_s0 _)), ?_⟩
  refine List.forall_mem_cons.mpr ⟨fun B W s pc hw => by first | exact wd_s0 _ | exact wd_sb (wd_s2 hw) (fun _ => wd_s0 _) | exact wd_sb (wd_s1 hw) (fun _ => wd_s0 _) | exact wd_sb (wd_t2 hw) (fun _ => wd_s0 _) | exact wd_sb (wd_t1 hw) (fun _ => wd_s0 _) | exact wd_sb (wd_s1 hw) (fun _ => wd_sb (wd_t1 hw) (fun _ => wd_s0 _)), ?_⟩
  refine List.forall_mem_cons.mpr ⟨fun B W s pc hw => by first | exact wd_s0 _ | exact wd_sb (wd_s2 hw) (fun _ => wd_s0 _) | exact wd_sb (wd_s1 hw) (fun _ => wd_s0 _) | exact wd_sb (wd_t2 hw) (fun _ => wd_s0 _) | exact wd_sb (wd_t1 hw) (fun _ => wd_s0 _) | exact wd_sb (wd_s1 hw) (fun _ => wd_sb (wd_t1 hw) (fun _ => wd_s0 _)), ?_⟩
  refine List.forall_mem_cons.mpr ⟨fun B W s pc hw => by first | exact wd_s0 _ | exact wd_sb (wd_s2 hw) (fun _ => wd_s0 _) | exact wd_sb (wd_s1 hw) (fun _ => wd_s0 _) | exact wd_sb (wd_t2 hw) (fun _ => wd_s0 _) | exact wd_sb (wd_t1 hw) (fun _ => wd_s0 _) | exact wd_sb (wd_s1 hw) (fun _ => wd_sb (wd_t1 hw) (fun _ => wd_s0 _)), ?_⟩
  refine List.forall_mem_cons.mpr ⟨fun B W s pc hw => by first | exact wd_s0 _ | exact wd_sb (wd_s2 hw) (fun _ => wd_s0 _) | exact wd_sb (wd_s1 hw) (fun _ => wd_s0 _) | exact wd_sb (wd_t2 hw) (fun _ => wd_s0 _) | exact wd_sb (wd_t1 hw) (fun _ => wd_s0 _) | exact wd_sb (wd_s1 hw) (fun _ => wd_sb (wd_t1 hw) (fun _ => wd_s0 _)), ?_⟩
  refine List.forall_mem_cons.mpr ⟨fun B W s pc hw => by first | exact wd_s0 _ | exact wd_sb (wd_s2 hw) (fun _ => wd_s0 _) | exact wd_sb (wd_s1 hw) (fun _ => wd_s0 _) | exact wd_sb (wd_t2 hw) (fun _ => wd_s0 _) | exact wd_sb (wd_t1 hw) (fun _ => wd_s0 _) | exact wd_sb (wd_s1 hw) (fun _ => wd_sb (wd_t1 hw) (fun _ => wd_s0 _)), ?_⟩
  refine List.forall_mem_cons.mpr ⟨fun B W s pc hw => by first | exact wd_s0 _ | exact wd_sb (wd_s2 hw) (fun _ => wd_s0 _) | exact wd_sb (wd_s1 hw) (fun _ => wd_s0 _) | exact wd_sb (wd_t2 hw) (fun _ => wd_s0 _) | exact wd_sb (wd_t1 hw) (fun _ => wd_s0 _) | exact wd_sb (wd_s1 hw) (fun _ => wd_sb (wd_t1 hw) (fun _ => wd_s0 _)), ?_⟩
  refine List.forall_mem_cons.mpr ⟨fun B W s pc hw => by first | exact wd_s0 _ | exact wd_sb (wd_s2 hw) (fun _ => wd_s0 _) | exact wd_sb (wd_s1 hw) (fun _ => wd_s0 _) | exact wd_sb (wd_t2 hw) (fun _ => wd_s0 _) | exact wd_sb (wd_t1 hw) (fun _ => wd_s0 _) | exact wd_sb (wd_s1 hw) (fun _ => wd_sb (wd_t1 hw) (fun _ => wd_s0 _)), ?_⟩
  refine List.forall_mem_cons.mpr ⟨fun B W s pc hw => by first | exact wd_s0 _ | exact wd_sb (wd_s2 hw) (fun _ => wd_s0 _) | exact wd_sb (wd_s1 hw) (fun _ => wd_s0 _) | exact wd_sb (wd_t2 hw) (fun _ => wd_s0 _) | exact wd_sb (wd_t1 hw) (fun _ => wd_s0 _) | exact wd_sb (wd_s1 hw) (fun _ => wd_sb (wd_t1 hw) (fun _ => wd_s0 _)), ?_⟩
  refine List.forall_mem_cons.mpr ⟨fun B W s pc hw => by first | exact wd_s0 _ | exact wd_sb (wd_s2 hw) (fun _ => wd_s0 _) | exact wd_sb (wd_s1 hw) (fun _ => wd_s0 _) | exact wd_sb (wd_t2 hw) (fun _ => wd_s0 _) | exact wd_sb (wd_t1 hw) (fun _ => wd_s0 _) | exact wd_sb (wd_s1 hw) (fun _ => wd_sb (wd_t1 hw) (fun _ => wd_s0 _)), ?_⟩
  refine List.forall_mem_cons.mpr ⟨fun B W s pc hw => by first | exact wd_s0 _ | exact wd_sb (wd_s2 hw) (fun _ => wd_s0 _) | exact wd_sb (wd_s1 hw) (fun _ => wd_s0 _) | exact wd_sb (wd_t2 hw) (fun _ => wd_s0 _) | exact wd_sb (wd_t1 hw) (fun _ => wd_s0 _) | exact wd_sb (wd_s1 hw) (fun _ => wd_sb (wd_t1 hw) (fun _ => wd_s0 _)), ?_⟩
  refine List.forall_mem_cons.mpr ⟨fun B W s pc hw => by first | exact wd_s0 _ | exact wd_sb (wd_s2 hw) (fun _ => wd_s0 _) | exact wd_sb (wd_s1 hw) (fun _ => wd_s0 _) | exact wd_sb (wd_t2 hw) (fun _ => wd_s0 _) | exact wd_sb (wd_t1 hw) (fun _ => wd_s0 _) | exact wd_sb (wd_s1 hw) (fun _ => wd_sb (wd_t1 hw) (fun _ => wd_s0 _)), ?_⟩
  refine List.forall_mem_cons.mpr ⟨fun B W s pc hw => by first | exact wd_s0 _ | exact wd_sb (wd_s2 hw) (fun _ => wd_s0 _) | exact wd_sb (wd_s1 hw) (fun _ => wd_s0 _) | exact wd_sb (wd_t2 hw) (fun _ => wd_s0 _) | exact wd_sb (wd_t1 hw) (fun _ => wd_s0 _) | exact wd_sb (wd_s1 hw) (fun _ => wd_sb (wd_t1 hw) (fun _ => wd_s0 _)), ?_⟩
  refine List.forall_mem_cons.mpr ⟨fun B W s pc hw => by first | exact wd_s0 _ | exact wd_sb (wd_s2 hw) (fun _ => wd_s0 _) | exact wd_sb (wd_s1 hw) (fun _ => wd_s0 _) | exact wd_sb (wd_t2 hw) (fun _ => wd_s0 _) | exact wd_sb (wd_t1 hw) (fun _ => wd_s0 _) | exact wd_sb (wd_s1 hw) (fun _ => wd_sb (wd_t1 hw) (fun _ => wd_s0 _)), ?_⟩
  refine List.forall_mem_cons.mpr ⟨fun B W s pc hw => by first | exact wd_s0 _ | exact wd_sb (wd_s2 hw) (fun _ => wd_s0 _) | exact wd_sb (wd_s1 hw) (fun _ => wd_s0 _) | exact wd_sb (wd_t2 hw) (fun _ => wd_s0 _) | exact wd_sb (wd_t1 hw) (fun _ => wd_s0 _) | exact wd_sb (wd_s1 hw) (fun _ => wd_sb (wd_t1 hw) (fun _ => wd_s0 _)), ?_⟩
  refine List.forall_mem_cons.mpr ⟨fun B W s pc hw => by first | exact wd_s0 _ | exact wd_sb (wd_s2 hw) (fun _ => wd_s0 _) | exact wd_sb (wd_s1 hw) (fun _ => wd_s0 _) | exact wd_sb (wd_t2 hw) (fun _ => wd_s0 _) | exact wd_sb (wd_t1 hw) (fun _ => wd_s0 _) | exact wd_sb (wd_s1 hw) (fun _ => wd_sb (wd_t1 hw) (fun _ => wd_s0 _)), ?_⟩
  refine List.forall_mem_cons.mpr ⟨fun B W s pc hw => by first | exact wd_s0 _ | exact wd_sb (wd_s2 hw) (fun _ => wd_s0 _) | exact wd_sb (wd_s1 hw) (fun _ => wd_s0 _) | exact wd_sb (wd_t2 hw) (fun _ => wd_s0 _) | exact wd_sb (wd_t1 hw) (fun _ => wd_s0 _) | exact wd_sb (wd_s1 hw) (fun _ => wd_sb (wd_t1 hw) (fun _ => wd_s0 _)), ?_⟩
  refine List.forall_mem_cons.mpr ⟨fun B W s pc hw => by first | exact wd_s0 _ | exact wd_sb (wd_s2 hw) (fun _ => wd_s0 _) | exact wd_sb (wd_s1 hw) (fun _ => wd_s0 _) | exact wd_sb (wd_t2 hw) (fun _ => wd_s0 _) | exact wd_sb (wd_t1 hw) (fun _ => wd_s0 _) | exact wd_sb (wd_s1 hw) (fun _ => wd_sb (wd_t1 hw) (fun _ => wd_s0 _)), ?_⟩
  refine List.forall_mem_cons.mpr ⟨fun B W s pc hw => by first | exact wd_s0 _ | exact wd_sb (wd_s2 hw) (fun _ => wd_s0 _) | exact wd_sb (wd_s1 hw) (fun _ => wd_s0 _) | exact wd_sb (wd_t2 hw) (fun _ => wd_s0 _) | exact wd_sb (wd_t1 hw) (fun _ => wd_s0 _) | exact wd_sb (wd_s1 hw) (fun _ => wd_sb (wd_t1 hw) (fun _ => wd_s0 _)), ?_⟩
  refine List.forall_mem_cons.mpr ⟨fun B W s pc hw => by first | exact wd_s0 _ | exact wd_sb (wd_s2 hw) (fun _ => wd_s0 _) | exact wd_sb (wd_s1 hw) (fun _ => wd_s0 _) | exact wd_sb (wd_t2 hw) (fun _ => wd_s0 _) | exact wd_sb (wd_t1 hw) (fun _ => wd_s0 _) | exact wd_sb (wd_s1 hw) (fun _ => wd_sb (wd_t1 hw) (fun _ => wd_s0 _)), ?_⟩
  refine List.forall_mem_cons.mpr ⟨fun B W s pc hw => by first | exact wd_s0 _ | exact wd_sb (wd_s2 hw) (fun _ => wd_s0 _) | exact wd_sb (wd_s1 hw) (fun _ => wd_s0 _) | exact wd_sb (wd_t2 hw) (fun _ => wd_s0 _) | exact wd_sb (wd_t1 hw) (fun _ => wd_s0 _) | exact wd_sb (wd_s1 hw) (fun _ => wd_sb (wd_t1 hw) (fun _ => wd_s0 _)), ?_⟩
  refine List.forall_mem_cons.mpr ⟨fun B W s pc hw => by first | exact wd_s0 _ | exact wd_sb (wd_s2 hw) (fun _ => wd_s0 _) | exact wd_sb (wd_s1 hw) (fun _ => wd_s0 _) | exact wd_sb (wd_t2 hw) (fun _ => wd_s0 _) | exact wd_sb (wd_t1 hw) (fun _ => wd_s0 _) | exact wd_sb (wd_s1 hw) (fun _ => wd_sb (wd_t1 hw) (fun _ => wd_s0 _)), ?_⟩
  refine List.forall_mem_cons.mpr ⟨fun B W s pc hw => by first | exact wd_s0 _ | exact wd_sb (wd_s2 hw) (fun _ => wd_s0 _) | exact wd_sb (wd_s1 hw) (fun _ => wd_s0 _) | exact wd_sb (wd_t2 hw) (fun _ => wd_s0 _) | exact wd_sb (wd_t1 hw) (fun _ => wd_s0 _) | exact wd_sb (wd_s1 hw) (fun _ => wd_sb (wd_t1 hw) (fun _ => wd_s0 _)), ?_⟩
  refine List.forall_mem_cons.mpr ⟨fun B W s pc hw => by first | exact wd_s0 _ | exact wd_sb (wd_s2 hw) (fun _ => wd_s0 _) | exact wd_sb (wd_s1 hw) (fun _ => wd_s0 _) | exact wd_sb (wd_t2 hw) (fun _ => wd_s0 _) | exact wd_sb (wd_t1 hw) (fun _ => wd_s0 _) | exact wd_sb (wd_s1 hw) (fun _ => wd_sb (wd_t1 hw) (fun _ => wd_s0 _)), ?_⟩
  refine List.forall_mem_cons.mpr ⟨fun B W s pc hw => by first | exact wd_s0 _ | exact wd_sb (wd_s2 hw) (fun _ => wd_s0 _) | exact wd_sb (wd_s1 hw) (fun _ => wd_s0 _) | exact wd_sb (wd_t2 hw) (fun _ => wd_s0 _) | exact wd_sb (wd_t1 hw) (fun _ => wd_s0 _) | exact wd_sb (wd_s1 hw) (fun _ => wd_sb (wd_t1 hw) (fun _ => wd_s0 _)), ?_⟩
  refine List.forall_mem_cons.mpr ⟨fun B W s pc hw => by first | exact wd_s0 _ | exact wd_sb (wd_s2 hw) (fun _ => wd_s0 _) | exact wd_sb (wd_s1 hw) (fun _ => wd_s0 _) | exact wd_sb (wd_t2 hw) (fun _ => wd_s0 _) | exact wd_sb (wd_t1 hw) (fun _ => wd_s0 _) | exact wd_sb (wd_s1 hw) (fun _ => wd_sb (wd_t1 hw) (fun _ => wd_s0 _)), ?_⟩
  refine List.forall_mem_cons.mpr ⟨fun B W s pc hw => by first | exact wd_s0 _ | exact wd_sb (wd_s2 hw) (fun _ => wd_s0 _) | exact wd_sb (wd_s1 hw) (fun _ => wd_s0 _) | exact wd_sb (wd_t2 hw) (fun _ => wd_s0 _) | exact wd_sb (wd_t1 hw) (fun _ => wd_s0 _) | exact wd_sb (wd_s1 hw) (fun _ => wd_sb (wd_t1 hw) (fun _ => wd_s0 _)), ?_⟩
  refine List.forall_mem_cons.mpr ⟨fun B W s pc hw => by first | exact wd_s0 _ | exact wd_sb (wd_s2 hw) (fun _ => wd_s0 _) | exact wd_sb (wd_s1 hw) (fun _ => wd_s0 _) | exact wd_sb (wd_t2 hw) (fun _ => wd_s0 _) | exact wd_sb (wd_t1 hw) (fun _ => wd_s0 _) | exact wd_sb (wd_s1 hw) (fun _ => wd_sb (wd_t1 hw) (fun _ => wd_s0 _)), ?_⟩
  refine List.forall_mem_cons.mpr ⟨fun B W s pc hw => by first | exact wd_s0 _ | exact wd_sb (wd_s2 hw) (fun _ => wd_s0 _) | exact wd_sb (wd_s1 hw) (fun _ => wd_s0 _) | exact wd_sb (wd_t2 hw) (fun _ => wd_s0 _) | exact wd_sb (wd_t1 hw) (fun _ => wd_s0 _) | exact wd_sb (wd_s1 hw) (fun _ => wd_sb (wd_t1 hw) (fun _ => wd_s0 _)), ?_⟩
  refine List.forall_mem_cons.mpr ⟨fun B W s pc hw => by first | exact wd_s0 _ | exact wd_sb (wd_s2 hw) (fun _ => wd_s0 _) | exact wd_sb (wd_s1 hw) (fun _ => wd_s0 _) | exact wd_sb (wd_t2 hw) (fun _ => wd_s0 _) | exact wd_sb (wd_t1 hw) (fun _ => wd_s0 _) | exact wd_sb (wd_s1 hw) (fun _ => wd_sb (wd_t1 hw) (fun _ => wd_s0 _)), ?_⟩
  refine List.forall_mem_cons.mpr ⟨fun B W s pc hw => by first | exact wd_s0 _ | exact wd_sb (wd_s2 hw) (fun _ => wd_s0 _) | exact wd_sb (wd_s1 hw) (fun _ => wd_s0 _) | exact wd_sb (wd_t2 hw) (fun _ => wd_s0 _) | exact wd_sb (wd_t1 hw) (fun _ => wd_s0 _) | exact wd_sb (wd_s1 hw) (fun _ => wd_sb (wd_t1 hw) (fun _ => wd_s0 _)), ?_⟩
  refine List.forall_mem_cons.mpr ⟨fun B W s pc hw => by first | exact wd_s0 _ | exact wd_sb (wd_s2 hw) (fun _ => wd_s0 _) | exact wd_sb (wd_s1 hw) (fun _ => wd_s0 _) | exact wd_sb (wd_t2 hw) (fun _ => wd_s0 _) | exact wd_sb (wd_t1 hw) (fun _ => wd_s0 _) | exact wd_sb (wd_s1 hw) (fun _ => wd_sb (wd_t1 hw) (fun _ => wd_s0 _)), ?_⟩
  refine List.forall_mem_cons.mpr ⟨fun B W s pc hw => by first | exact wd_s0 _ | exact wd_sb (wd_s2 hw) (fun _ => wd_s0 _) | exact wd_sb (wd_s1 hw) (fun _ => wd_s0 _) | exact wd_sb (wd_t2 hw) (fun _ => wd_s0 _) | exact wd_sb (wd_t1 hw) (fun _ => wd_s0 _) | exact wd_sb (wd_s1 hw) (fun _ => wd_sb (wd_t1 hw) (fun _ => wd_s0 _)), ?_⟩
  refine List.forall_mem_cons.mpr ⟨fun B W s pc hw => by first | exact wd_s0 _ | exact wd_sb (wd_s2 hw) (fun _ => wd_s0 _) | exact wd_sb (wd_s1 hw) (fun _ => wd_s0 _) | exact wd_sb (wd_t2 hw) (fun _ => wd_s0 _) | exact wd_sb (wd_t1 hw) (fun _ => wd_s0 _) | exact wd_sb (wd_s1 hw) (fun _ => wd_sb (wd_t1 hw) (fun _ => wd_s0 _)), ?_⟩
  refine List.forall_mem_cons.mpr ⟨fun B W s pc hw => by first | exact wd_s0 _ | exact wd_sb (wd_s2 hw) (fun _ => wd_s0 _) | exact wd_sb (wd_s1 hw) (fun _ => wd_s0 _) | exact wd_sb (wd_t2 hw) (fun _ => wd_s0 _) | exact wd_sb (wd_t1 hw) (fun _ => wd_s0 _) | exact wd_sb (wd_s1 hw) (fun _ => wd_sb (wd_t1 hw) (fun _ => wd_s0 _)), ?_⟩
  refine List.forall_mem_cons.mpr ⟨fun B W s pc hw => by first | exact wd_s0 _ | exact wd_sb (wd_s2 hw) (fun _ => wd_s0 _) | exact wd_sb (wd_s1 hw) (fun _ => wd_s0 _) | exact wd_sb (wd_t2 hw) (fun _ => wd_s0 _) | exact wd_sb (wd_t1 hw) (fun _ => wd_s0 _) | exact wd_sb (wd_s1 hw) (fun _ => wd_sb (wd_t1 hw) (fun _ => wd_s0 _)), ?_⟩
  refine List.forall_mem_cons.mpr ⟨fun B W s pc hw => by first | exact wd_s0 _ | exact wd_sb (wd_s2 hw) (fun _ => wd_s0 _) | exact wd_sb (wd_s1 hw) (fun _ => wd_s0 _) | exact wd_sb (wd_t2 hw) (fun _ => wd_s0 _) | exact wd_sb (wd_t1 hw) (fun _ => wd_s0 _) | exact wd_sb (wd_s1 hw) (fun _ => wd_sb (wd_t1 hw) (fun _ => wd_s0 _)), ?_⟩
  refine List.forall_mem_cons.mpr ⟨fun B W s pc hw => by first | exact wd_s0 _ | exact wd_sb (wd_s2 hw) (fun _ => wd_s0 _) | exact wd_sb (wd_s1 hw) (fun _ => wd_s0 _) | exact wd_sb (wd_t2 hw) (fun _ => wd_s0 _) | exact wd_sb (wd_t1 hw) (fun _ => wd_s0 _) | exact wd_sb (wd_s1 hw) (fun _ => wd_sb (wd_t1 hw) (fun _ => wd_s0 _)), ?_⟩
  refine List.forall_mem_cons.mpr ⟨fun B W s pc hw => by first | exact wd_s0 _ | exact wd_sb (wd_s2 hw) (fun _ => wd_s0 _) | exact wd_sb (wd_s1 hw) (fun _ => wd_s0 _) | exact wd_sb (wd_t2 hw) (fun _ => wd_s0 _) | exact wd_sb (wd_t1 hw) (fun _ => wd_s0 _) | exact wd_sb (wd_s1 hw) (fun _ => wd_sb (wd_t1 hw) (fun _ => wd_s0 _)), ?_⟩
  refine List.forall_mem_cons.mpr ⟨fun B W s pc hw => by first | exact wd_s0 _ | exact wd_sb (wd_s2 hw) (fun _ => wd_s0 _) | exact wd_sb (wd_s1 hw) (fun _ => wd_s0 _) | exact wd_sb (wd_t2 hw) (fun _ => wd_s0 _) | exact wd_sb (wd_t1 hw) (fun _ => wd_s0 _) | exact wd_sb (wd_s1 hw) (fun _ => wd_sb (wd_t1 hw) (fun _ => wd_s0 _)), ?_⟩
  refine List.forall_mem_cons.mpr ⟨fun B W s pc hw => by first | exact wd_s0 _ | exact wd_sb (wd_s2 hw) (fun _ => wd_s0 _) | exact wd_sb (wd_s1 hw) (fun _ => wd_s0 _) | exact wd_sb (wd_t2 hw) (fun _ => wd_s0 _) | exact wd_sb (wd_t1 hw) (fun _ => wd_s0 _) | exact wd_sb (wd_s1 hw) (fun _ => wd_sb (wd_t1 hw) (fun _ => wd_s0 _)), ?_⟩
  refine List.forall_mem_cons.mpr ⟨fun B W s pc hw => by first | exact wd_s0 _ | exact wd_sb (wd_s2 hw) (fun _ => wd_s0 _) | exact wd_sb (wd_s1 hw) (fun _ => wd_s0 _) | exact wd_sb (wd_t2 hw) (fun _ => wd_s0 _) | exact wd_sb (wd_t1 hw) (fun _ => wd_s0 _) | exact wd_sb (wd_s1 hw) (fun _ => wd_sb (wd_t1 hw) (fun _ => wd_s0 _)), ?_⟩
  refine List.forall_mem_cons.mpr ⟨fun B W s pc hw => by first | exact wd_s0 _ | exact wd_sb (wd_s2 hw) (fun _ => wd_s0 _) | exact wd_sb (wd_s1 hw) (fun _ => wd_s0 _) | exact wd_sb (wd_t2 hw) (fun _ => wd_s0 _) | exact wd_sb (wd_t1 hw) (fun _ => wd_s0 _) | exact wd_sb (wd_s1 hw) (fun _ => wd_sb (wd_t1 hw) (fun _ => wd_s0 _)), ?_⟩
  refine List.forall_mem_cons.mpr ⟨fun B W s pc hw => by first | exact wd_s0 _ | exact wd_sb (wd_s2 hw) (fun _ => wd_s0 _) | exact wd_sb (wd_s1 hw) (fun _ => wd_s0 _) | exact wd_sb (wd_t2 hw) (fun _ => wd_s0 _) | exact wd_sb (wd_t1 hw) (fun _ => wd_s0 _) | exact wd_sb (wd_s1 hw) (fun _ => wd_sb (wd_t1 hw) (fun _ => wd_s0 _)), ?_⟩
  refine List.forall_mem_cons.mpr ⟨fun B W s pc hw => by first | exact wd_s0 _ | exact wd_sb (wd_s2 hw) (fun _ => wd_s0 _) | exact wd_sb (wd_s1 hw) (fun _ => wd_s0 _) | exact wd_sb (wd_t2 hw) (fun _ => wd_s0 _) | exact wd_sb (wd_t1 hw) (fun _ => wd_s0 _) | exact wd_sb (wd_s1 hw) (fun _ => wd_sb (wd_t1 hw) (fun _ => wd_s0 _)), ?_⟩
  refine List.forall_mem_cons.mpr ⟨fun B W s pc hw => by first | exact wd_s0 _ | exact wd_sb (wd_s2 hw) (fun _ => wd_s0 _) | exact wd_sb (wd_s1 hw) (fun _ => wd_s0 _) | exact wd_sb (wd_t2 hw) (fun _ => wd_s0 _) | exact wd_sb (wd_t1 hw) (fun _ => wd_s0 _) | exact wd_sb (wd_s1 hw) (fun _ => wd_sb (wd_t1 hw) (fun _ => wd_s0 _)), ?_⟩
  refine List.forall_mem_cons.mpr ⟨fun B W s pc hw => by first | exact wd_s0 _ | exact wd_sb (wd_s2 hw) (fun _ => wd_s0 _) | exact wd_sb (wd_s1 hw) (fun _ => wd_s0 _) | exact wd_sb (wd_t2 hw) (fun _ => wd_s0 _) | exact wd_sb (wd_t1 hw) (fun _ => wd_s0 _) | exact wd_sb (wd_s1 hw) (fun _ => wd_sb (wd_t1 hw) (fun _ => wd_s0 _)), ?_⟩
  refine List.forall_mem_cons.mpr ⟨fun B W s pc hw => by first | exact wd_s0 _ | exact wd_sb (wd_s2 hw) (fun _ => wd_s0 _) | exact wd_sb (wd_s1 hw) (fun _ => wd_s0 _) | exact wd_sb (wd_t2 hw) (fun _ => wd_s0 _) | exact wd_sb (wd_t1 hw) (fun _ => wd_s0 _) | exact wd_sb (wd_s1 hw) (fun _ => wd_sb (wd_t1 hw) (fun _ => wd_s0 _)), ?_⟩
  refine List.forall_mem_cons.mpr ⟨fun B W s pc hw => by first | exact wd_s0 _ | exact wd_sb (wd_s2 hw) (fun _ => wd_s0 _) | exact wd_sb (wd_s1 hw) (fun _ => wd_s0 _) | exact wd_sb (wd_t2 hw) (fun _ => wd_s0 _) | exact wd_sb (wd_t1 hw) (fun _ => wd_s0 _) | exact wd_sb (wd_s1 hw) (fun _ => wd_sb (wd_t1 hw) (fun _ => wd_s0 _)), ?_⟩
  refine List.forall_mem_cons.mpr ⟨fun B W s pc hw => by first | exact wd_s0 _ | exact wd_sb (wd_s2 hw) (fun _ => wd_s0 _) | exact wd_sb (wd_s1 hw) (fun _ => wd_s0 _) | exact wd_sb (wd_t2 hw) (fun _ => wd_s0 _) | exact wd_sb (wd_t1 hw) (fun _ => wd_s0 _) | exact wd_sb (wd_s1 hw) (fun _ => wd_sb (wd_t1 hw) (fun _ => wd_s0 _)), ?_⟩
  refine List.forall_mem_cons.mpr ⟨fun B W s pc hw => by first | exact wd_s0 _ | exact wd_sb (wd_s2 hw) (fun _ => wd_s0 _) | exact wd_sb (wd_s1 hw) (fun _ => wd_s0 _) | exact wd_sb (wd_t2 hw) (fun _ => wd_s0 _) | exact wd_sb (wd_t1 hw) (fun _ => wd_s0 _) | exact wd_sb (wd_s1 hw) (fun _ => wd_sb (wd_t1 hw) (fun _ => wd_s0 _)), ?_⟩
  refine List.forall_mem_cons.mpr ⟨fun B W s pc hw => by first | exact wd_s0 _ | exact wd_sb (wd_s2 hw) (fun _ => wd_s0 _) | exact wd_sb (wd_s1 hw) (fun _ => wd_s0 _) | exact wd_sb (wd_t2 hw) (fun _ => wd_s0 _) | exact wd_sb (wd_t1 hw) (fun _ => wd_s0 _) | exact wd_sb (wd_s1 hw) (fun _ => wd_sb (wd_t1 hw) (fun _ => wd_s0 _)), ?_⟩
  refine List.forall_mem_cons.mpr ⟨fun B W s pc hw => by first | exact wd_s0 _ | exact wd_sb (wd_s2 hw) (fun _ => wd_s0 _) | exact wd_sb (wd_s1 hw) (fun _ => wd_s0 _) | exact wd_sb (wd_t2 hw) (fun _ => wd_s0 _) | exact wd_sb (wd_t1 hw) (fun _ => wd_s0 _) | exact wd_sb (wd_s1 hw) (fun _ => wd_sb (wd_t1 hw) (fun _ => wd_s0 _)), ?_⟩
  refine List.forall_mem_cons.mpr ⟨fun B W s pc hw => by first | exact wd_s0 _ | exact wd_sb (wd_s2 hw) (fun _ => wd_s0 _) | exact wd_sb (wd_s1 hw) (fun _ => wd_s0 _) | exact wd_sb (wd_t2 hw) (fun _ => wd_s0 _) | exact wd_sb (wd_t1 hw) (fun _ => wd_s0 _) | exact wd_sb (wd_s1 hw) (fun _ => wd_sb (wd_t1 hw) (fun _ => wd_s0 _)), ?_⟩
  refine List.forall_mem_cons.mpr ⟨fun B W s pc hw => by first | exact wd_s0 _ | exact wd_sb (wd_s2 hw) (fun _ => wd_s0 _) | exact wd_sb (wd_s1 hw) (fun _ => wd_s0 _) | exact wd_sb (wd_t2 hw) (fun _ => wd_s0 _) | exact wd_sb (wd_t1 hw) (fun _ => wd_s0 _) | exact wd_sb (wd_s1 hw) (fun _ => wd_sb (wd_t1 hw) (fun _ => wd_s0 _)), ?_⟩
  refine List.forall_mem_cons.mpr ⟨fun B W s pc hw => by first | exact wd_s0 _ | exact wd_sb (wd_s2 hw) (fun _ => wd_s0 _) | exact wd_sb (wd_s1 hw) (fun _ => wd_s0 _) | exact wd_sb (wd_t2 hw) (fun _ => wd_s0 _) | exact wd_sb (wd_t1 hw) (fun _ => wd_s0 _) | exact wd_sb (wd_s1 hw) (fun _ => wd_sb (wd_t1 hw) (fun _ => wd_s0 _)), ?_⟩
  refine List.forall_mem_cons.mpr ⟨fun B W s pc hw => by first | exact wd_s0 _ | exact wd_sb (wd_s2 hw) (fun _ => wd_s0 _) | exact wd_sb (wd_s1 hw) (fun _ => wd_s0 _) | exact wd_sb (wd_t2 hw) (fun _ => wd_s0 _) | exact wd_sb (wd_t1 hw) (fun _ => wd_s0 _) | exact wd_sb (wd_s1 hw) (fun _ => wd_sb (wd_t1 hw) (fun _ => wd_s0 _)), ?_⟩
  refine List.forall_mem_cons.mpr ⟨fun B W s pc hw => by first | exact wd_s0 _ | exact wd_sb (wd_s2 hw) (fun _ => wd_s0 _) | exact wd_sb (wd_s1 hw) (fun _ => wd_s0 _) | exact wd_sb (wd_t2 hw) (fun _ => wd_s0 _) | exact wd_sb (wd_t1 hw) (fun _ => wd_s0 _) | exact wd_sb (wd_s1 hw) (fun _ => wd_sb (wd_t1 hw) (fun _ => wd_s0 _)), ?_⟩
  refine List.forall_mem_cons.mpr ⟨fun B W s pc hw => by first | exact wd_s0 _ | exact wd_sb (wd_s2 hw) (fun _ => wd_s0 _) | exact wd_sb (wd_s1 hw) (fun _ => wd_s0 _) | exact wd_sb (wd_t2 hw) (fun _ => wd_s0 _) | exact wd_sb (wd_t1 hw) (fun _ => wd_s0 _) | exact wd_sb (wd_s1 hw) (fun _ => wd_sb (wd_t1 hw) (fun _ => wd_s0 _)), ?_⟩
  refine List.forall_mem_cons.mpr ⟨fun B W s pc hw => by first | exact wd_s0 _ | exact wd_sb (wd_s2 hw) (fun _ => wd_s0 _) | exact wd_sb (wd_s1 hw) (fun _ => wd_s0 _) | exact wd_sb (wd_t2 hw) (fun _ => wd_s0 _) | exact wd_sb (wd_t1 hw) (fun _ => wd_s0 _) | exact wd_sb (wd_s1 hw) (fun _ => wd_sb (wd_t1 hw) (fun _ => wd_s0 _)), ?_⟩
  refine List.forall_mem_cons.mpr ⟨fun B W s pc hw => by first | exact wd_s0 _ | exact wd_sb (wd_s2 hw) (fun _ => wd_s0 _) | exact wd_sb (wd_s1 hw) (fun _ => wd_s0 _) | exact wd_sb (wd_t2 hw) (fun _ => wd_s0 _) | exact wd_sb (wd_t1 hw) (fun _ => wd_s0 _) | exact wd_sb (wd_s1 hw) (fun _ => wd_sb (wd_t1 hw) (fun _ => wd_s0 _)), ?_⟩
  refine List.forall_mem_cons.mpr ⟨fun B W s pc hw => by first | exact wd_s0 _ | exact wd_sb (wd_s2 hw) (fun _ => wd_s0 _) | exact wd_sb (wd_s1 hw) (fun _ => wd_s0 _) | exact wd_sb (wd_t2 hw) (fun _ => wd_s0 _) | exact wd_sb (wd_t1 hw) (fun _ => wd_s0 _) | exact wd_sb (wd_s1 hw) (fun _ => wd_sb (wd_t1 hw) (fun _ => wd_s0 _)), ?_⟩
  refine List.forall_mem_cons.mpr ⟨fun B W s pc hw => by first | exact wd_s0 _ | exact wd_sb (wd_s2 hw) (fun _ => wd_s0 _) | exact wd_sb (wd_s1 hw) (fun _ => wd_s0 _) | exact wd_sb (wd_t2 hw) (fun _ => wd_s0 _) | exact wd_sb (wd_t1 hw) (fun _ => wd_s0 _) | exact wd_sb (wd_s1 hw) (fun _ => wd_sb (wd_t1 hw) (fun _ => wd_s0 _)), ?_⟩
  refine List.forall_mem_cons.mpr ⟨fun B W s pc hw => by first | exact wd_s0 _ | exact wd_sb (wd_s2 hw) (fun _ => wd_s0 _) | exact wd_sb (wd_s1 hw) (fun _ => wd_s0 _) | exact wd_sb (wd_t2 hw) (fun _ => wd_s0 _) | exact wd_sb (wd_t1 hw) (fun _ => wd_s0 _) | exact wd_sb (wd_s1 hw) (fun _ => wd_sb (wd_t1 hw) (fun _ => wd_s0 _)), ?_⟩
  refine List.forall_mem_cons.mpr ⟨fun B W s pc hw => by first | exact wd_s0 _ | exact wd_sb (wd_s2 hw) (fun _ => wd_s0 _) | exact wd_sb (wd_s1 hw) (fun _ => wd_s0 _) | exact wd_sb (wd_t2 hw) (fun _ => wd_s0 _) | exact wd_sb (wd_t1 hw) (fun _ => wd_s0 _) | exact wd_sb (wd_s1 hw) (fun _ => wd_sb (wd_t1 hw) (fun _ => wd_s0 _)), ?_⟩
  refine List.forall_mem_cons.mpr ⟨fun B W s pc hw => by first | exact wd_s0 _ | exact wd_sb (wd_s2 hw) (fun _ => wd_s0 _) | exact wd_sb (wd_s1 hw) (fun _ => wd_s0 _) | exact wd_sb (wd_t2 hw) (fun _ => wd_s0 _) | exact wd_sb (wd_t1 hw) (fun _ => wd_s0 _) | exact wd_sb (wd_s1 hw) (fun _ => wd_sb (wd_t1 hw) (fun _ => wd_s0 _)), ?_⟩
  refine List.forall_mem_cons.mpr ⟨fun B W s pc hw => by first | exact wd_s0 _ | exact wd_sb (wd_s2 hw) (fun _ => wd_s0 _) | exact wd_sb (wd_s1 hw) (fun _ => wd_s0 _) | exact wd_sb (wd_t2 hw) (fun _ => wd_s0 _) | exact wd_sb (wd_t1 hw) (fun _ => wd_s0 _) | exact wd_sb (wd_s1 hw) (fun _ => wd_sb (wd_t1 hw) (fun _ => wd_s0 _)), ?_⟩
  refine List.forall_mem_cons.mpr ⟨fun B W s pc hw => by first | exact wd_s0 _ | exact wd_sb (wd_s2 hw) (fun _ => wd_s0 _) | exact wd_sb (wd_s1 hw) (fun _ => wd_s0 _) | exact wd_sb (wd_t2 hw) (fun _ => wd_s0 _) | exact wd_sb (wd_t1 hw) (fun _ => wd_s0 _) | exact wd_sb (wd_s1 hw) (fun _ => wd_sb (wd_t1 hw) (fun _ => wd_s0 _)), ?_⟩
  refine List.forall_mem_cons.mpr ⟨fun B W s pc hw => by first | exact wd_s0 _ | exact wd_sb (wd_s2 hw) (fun _ => wd_s0 _) | exact wd_sb (wd_s1 hw) (fun _ => wd_s0 _) | exact wd_sb (wd_t2 hw) (fun _ => wd_s0 _) | exact wd_sb (wd_t1 hw) (fun _ => wd_s0 _) | exact wd_sb (wd_s1 hw) (fun _ => wd_sb (wd_t1 hw) (fun _ => wd_s0 _)), ?_⟩
  refine List.forall_mem_cons.mpr ⟨fun B W s pc hw => by first | exact wd_s0 _ | exact wd_sb (wd_s2 hw) (fun _ => wd_s0 _) | exact wd_sb (wd_s1 hw) (fun _ => wd_s0 _) | exact wd_sb (wd_t2 hw) (fun _ => wd_s0 _) | exact wd_sb (wd_t1 hw) (fun _ => wd_s0 _) | exact wd_sb (wd_s1 hw) (fun _ => wd_sb (wd_t1 hw) (fun _ => wd_s0 _)), ?_⟩
  refine List.forall_mem_cons.mpr ⟨fun B W s pc hw => by first | exact wd_s0 _ | exact wd_sb (wd_s2 hw) (fun _ => wd_s0 _) | exact wd_sb (wd_s1 hw) (fun _ => wd_s0 _) | exact wd_sb (wd_t2 hw) (fun _ => wd_s0 _) | exact wd_sb (wd_t1 hw) (fun _ => wd_s0 _) | exact wd_sb (wd_s1 hw) (fun _ => wd_sb (wd_t1 hw) (fun _ => wd_s0 _)), ?_⟩
  refine List.forall_mem_cons.mpr ⟨fun B W s pc hw => by first | exact wd_s0 _ | exact wd_sb (wd_s2 hw) (fun _ => wd_s0 _) | exact wd_sb (wd_s1 hw) (fun _ => wd_s0 _) | exact wd_sb (wd_t2 hw) (fun _ => wd_s0 _) | exact wd_sb (wd_t1 hw) (fun _ => wd_s0 _) | exact wd_sb (wd_s1 hw) (fun _ => wd_sb (wd_t1 hw) (fun _ => wd_s0 _)), ?_⟩
  refine List.forall_mem_cons.mpr ⟨fun B W s pc hw => by first | exact wd_s0 _ | exact wd_sb (wd_s2 hw) (fun _ => wd_s0 _) | exact wd_sb (wd_s1 hw) (fun _ => wd_s0 _) | exact wd_sb (wd_t2 hw) (fun _ => wd_s0 _) | exact wd_sb (wd_t1 hw) (fun _ => wd_s0 _) | exact wd_sb (wd_s1 hw) (fun _ => wd_sb (wd_t1 hw) (fun _ => wd_s0 _)), ?_⟩
  refine List.forall_mem_cons.mpr ⟨fun B W s pc hw => by first | exact wd_s0 _ | exact wd_sb (wd_s2 hw) (fun _ => wd_s0 _) | exact wd_sb (wd_s1 hw) (fun _ => wd_s0 _) | exact wd_sb (wd_t2 hw) (fun _ => wd_s0 _) | exact wd_sb (wd_t1 hw) (fun _ => wd_s0 _) | exact wd_sb (wd_s1 hw) (fun _ => wd_sb (wd_t1 hw) (fun _ => wd_s0 _)), ?_⟩
  refine List.forall_mem_cons.mpr ⟨fun B W s pc hw => by first | exact wd_s0 _ | exact wd_sb (wd_s2 hw) (fun _ => wd_s0 _) | exact wd_sb (wd_s1 hw) (fun _ => wd_s0 _) | exact wd_sb (wd_t2 hw) (fun _ => wd_s0 _) | exact wd_sb (wd_t1 hw) (fun _ => wd_s0 _) | exact wd_sb (wd_s1 hw) (fun _ => wd_sb (wd_t1 hw) (fun _ => wd_s0 _)), ?_⟩
  refine List.forall_mem_cons.mpr ⟨fun B W s pc hw => by first | exact wd_s0 _ | exact wd_sb (wd_s2 hw) (fun _ => wd_s0 _) | exact wd_sb (wd_s1 hw) (fun _ => wd_s0 _) | exact wd_sb (wd_t2 hw) (fun _ => wd_s0 _) | exact wd_sb (wd_t1 hw) (fun _ => wd_s0 _) | exact wd_sb (wd_s1 hw) (fun _ => wd_sb (wd_t1 hw) (fun _ => wd_s0 _)), ?_⟩
  refine List.forall_mem_cons.mpr ⟨fun B W s pc hw => by first | exact wd_s0 _ | exact wd_sb (wd_s2 hw) (fun _ => wd_s0 _) | exact wd_sb (wd_s1 hw) (fun _ => wd_s0 _) | exact wd_sb (wd_t2 hw) (fun _ => wd_s0 _) | exact wd_sb (wd_t1 hw) (fun _ => wd_s0 _) | exact wd_sb (wd_s1 hw) (fun _ => wd_sb (wd_t1 hw) (fun _ => wd_s0 _)), ?_⟩
  refine List.forall_mem_cons.mpr ⟨fun B W s pc hw => by first | exact wd_s0 _ | exact wd_sb (wd_s2 hw) (fun _ => wd_s0 _) | exact wd_sb (wd_s1 hw) (fun _ => wd_s0 _) | exact wd_sb (wd_t2 hw) (fun _ => wd_s0 _) | exact wd_sb (wd_t1 hw) (fun _ => wd_s0 _) | exact wd_sb (wd_s1 hw) (fun _ => wd_sb (wd_t1 hw) (fun _ => wd_s0 _)), ?_⟩
  refine List.forall_mem_cons.mpr ⟨fun B W s pc hw => by first | exact wd_s0 _ | exact wd_sb (wd_s2 hw) (fun _ => wd_s0 _) | exact wd_sb (wd_s1 hw) (fun _ => wd_s0 _) | exact wd_sb (wd_t2 hw) (fun _ => wd_s0 _) | exact wd_sb (wd_t1 hw) (fun _ => wd_s0 _) | exact wd_sb (wd_s1 hw) (fun _ => wd_sb (wd_t1 hw) (fun _ => wd_s0 _)), ?_⟩
  refine List.forall_mem_cons.mpr ⟨fun B W s pc hw => by first | exact wd_s0 _ | exact wd_sb (wd_s2 hw) (fun _ => wd_s0 _) | exact wd_sb (wd_s1 hw) (fun _ => wd_s0 _) | exact wd_sb (wd_t2 hw) (fun _ => wd_s0 _) | exact wd_sb (wd_t1 hw) (fun _ => wd_s0 _) | exact wd_sb (wd_s1 hw) (fun _ => wd_sb (wd_t1 hw) (fun _ => wd_s0 _)), ?_⟩
  refine List.forall_mem_cons.mpr ⟨fun B W s pc hw => by first | exact wd_s0 _ | exact wd_sb (wd_s2 hw) (fun _ => wd_s0 _) | exact wd_sb (wd_s1 hw) (fun _ => wd_s0 _) | exact wd_sb (wd_t2 hw) (fun _ => wd_s0 _) | exact wd_sb (wd_t1 hw) (fun _ => wd_s0 _) | exact wd_sb (wd_s1 hw) (fun _ => wd_sb (wd_t1 hw) (fun _ => wd_s0 _)), ?_⟩
  refine List.forall_mem_cons.mpr ⟨fun B W s pc hw => by first | exact wd_s0 _ | exact wd_sb (wd_s2 hw) (fun _ => wd_s0 _) | exact wd_sb (wd_s1 hw) (fun _ => wd_s0 _) | exact wd_sb (wd_t2 hw) (fun _ => wd_s0 _) | exact wd_sb (wd_t1 hw) (fun _ => wd_s0 _) | exact wd_sb (wd_s1 hw) (fun _ => wd_sb (wd_t1 hw) (fun _ => wd_s0 _)), ?_⟩
  refine List.forall_mem_cons.mpr ⟨fun B W s pc hw => by first | exact wd_s0 _ | exact wd_sb (wd_s2 hw) (fun _ => wd_s0 _) | exact wd_sb (wd_s1 hw) (fun _ => wd_s0 _) | exact wd_sb (wd_t2 hw) (fun _ => wd_s0 _) | exact wd_sb (wd_t1 hw) (fun _ => wd_s0 _) | exact wd_sb (wd_s1 hw) (fun _ => wd_sb (wd_t1 hw) (fun _ => wd_s0 _)), ?_⟩
  refine List.forall_mem_cons.mpr ⟨fun B W s pc hw => by first | exact wd_s0 _ | exact wd_sb (wd_s2 hw) (fun _ => wd_s0 _) | exact wd_sb (wd_s1 hw) (fun _ => wd_s0 _) | exact wd_sb (wd_t2 hw) (fun _ => wd_s0 _) | exact wd_sb (wd_t1 hw) (fun _ => wd_s0 _) | exact wd_sb (wd_s1 hw) (fun _ => wd_sb (wd_t1 hw) (fun _ => wd_s0 _)), ?_⟩
  refine List.forall_mem_cons.mpr ⟨fun B W s pc hw => by first | exact wd_s0 _ | exact wd_sb (wd_s2 hw) (fun _ => wd_s0 _) | exact wd_sb (wd_s1 hw) (fun _ => wd_s0 _) | exact wd_sb (wd_t2 hw) (fun _ => wd_s0 _) | exact wd_sb (wd_t1 hw) (fun _ => wd_s0 _) | exact wd_sb (wd_s1 hw) (fun _ => wd_sb (wd_t1 hw) (fun _ => wd_s0 _)), ?_⟩
  refine List.forall_mem_cons.mpr ⟨fun B W s pc hw => by first | exact wd_s0 _ | exact wd_sb (wd_s2 hw) (fun _ => wd_s0 _) | exact wd_sb (wd_s1 hw) (fun _ => wd_s0 _) | exact wd_sb (wd_t2 hw) (fun _ => wd_s0 _) | exact wd_sb (wd_t1 hw) (fun _ => wd_s0 _) | exact wd_sb (wd_s1 hw) (fun _ => wd_sb (wd_t1 hw) (fun _ => wd_s0 _)), ?_⟩
  refine List.forall_mem_cons.mpr ⟨fun B W s pc hw => by first | exact wd_s0 _ | exact wd_sb (wd_s2 hw) (fun _ => wd_s0 _) | exact wd_sb (wd_s1 hw) (fun _ => wd_s0 _) | exact wd_sb (wd_t2 hw) (fun _ => wd_s0 _) | exact wd_sb (wd_t1 hw) (fun _ => wd_s0 _) | exact wd_sb (wd_s1 hw) (fun _ => wd_sb (wd_t1 hw) (fun _ => wd_s0 _)), ?_⟩
  refine List.forall_mem_cons.mpr ⟨fun B W s pc hw => by first | exact wd_s0 _ | exact wd_sb (wd_s2 hw) (fun _ => wd_s0 _) | exact wd_sb (wd_s1 hw) (fun _ => wd_s0 _) | exact wd_sb (wd_t2 hw) (fun _ => wd_s0 _) | exact wd_sb (wd_t1 hw) (fun _ => wd_s0 _) | exact wd_sb (wd_s1 hw) (fun _ => wd_sb (wd_t1 hw) (fun _ => wd_s0 _)), ?_⟩
  refine List.forall_mem_cons.mpr ⟨fun B W s pc hw => by first | exact wd_s0 _ | exact wd_sb (wd_s2 hw) (fun _ => wd_s0 _) | exact wd_sb (wd_s1 hw) (fun _ => wd_s0 _) | exact wd_sb (wd_t2 hw) (fun _ => wd_s0 _) | exact wd_sb (wd_t1 hw) (fun _ => wd_s0 _) | exact wd_sb (wd_s1 hw) (fun _ => wd_sb (wd_t1 hw) (fun _ => wd_s0 _)), ?_⟩
  refine List.forall_mem_cons.mpr ⟨fun B W s pc hw => by first | exact wd_s0 _ | exact wd_sb (wd_s2 hw) (fun _ => wd_s0 _) | exact wd_sb (wd_s1 hw) (fun _ => wd_s0 _) | exact wd_sb (wd_t2 hw) (fun _ => wd_s0 _) | exact wd_sb (wd_t1 hw) (fun _ => wd_s0 _) | exact wd_sb (wd_s1 hw) (fun _ => wd_sb (wd_t1 hw) (fun _ => wd_s0 _)), ?_⟩
  refine List.forall_mem_cons.mpr ⟨fun B W s pc hw => by first | exact wd_s0 _ | exact wd_sb (wd_s2 hw) (fun _ => wd_s0 _) | exact wd_sb (wd_s1 hw) (fun _ => wd_s0 _) | exact wd_sb (wd_t2 hw) (fun _ => wd_s0 _) | exact wd_sb (wd_t1 hw) (fun _ => wd_s0 _) | exact wd_sb (wd_s1 hw) (fun _ => wd_sb (wd_t1 hw) (fun _ => wd_s0 _)), ?_⟩
  refine List.forall_mem_cons.mpr ⟨fun B W s pc hw => by first | exact wd_s0 _ | exact wd_sb (wd_s2 hw) (fun _ => wd_s0 _) | exact wd_sb (wd_s1 hw) (fun _ => wd_s0 _) | exact wd_sb (wd_t2 hw) (fun _ => wd_s0 _) | exact wd_sb (wd_t1 hw) (fun _ => wd_s0 _) | exact wd_sb (wd_s1 hw) (fun _ => wd_sb (wd_t1 hw) (fun _ => wd_s0 _)), ?_⟩
  refine List.forall_mem_cons.mpr ⟨fun B W s pc hw => by first | exact wd_s0 _ | exact wd_sb (wd_s2 hw) (fun _ => wd_s0 _) | exact wd_sb (wd_s1 hw) (fun _ => wd_s0 _) | exact wd_sb (wd_t2 hw) (fun _ => wd_s0 _) | exact wd_sb (wd_t1 hw) (fun _ => wd_s0 _) | exact wd_sb (wd_s1 hw) (fun _ => wd_sb (wd_t1 hw) (fun _ => wd_s0 _)), ?_⟩
  refine List.forall_mem_cons.mpr ⟨fun B W s pc hw => by first | exact wd_s0 _ | exact wd_sb (wd_s2 hw) (fun _ => wd_s0 _) | exact wd_sb (wd_s1 hw) (fun _ => wd_s0 _) | exact wd_sb (wd_t2 hw) (fun _ => wd_s0 _) | exact wd_sb (wd_t1 hw) (fun _ => wd_s0 _) | exact wd_sb (wd_s1 hw) (fun _ => wd_sb (wd_t1 hw) (fun _ => wd_s0 _)), ?_⟩
  refine List.forall_mem_cons.mpr ⟨fun B W s pc hw => by first | exact wd_s0 _ | exact wd_sb (wd_s2 hw) (fun _ => wd_s0 _) | exact wd_sb (wd_s1 hw) (fun _ => wd_s0 _) | exact wd_sb (wd_t2 hw) (fun _ => wd_s0 _) | exact wd_sb (wd_t1 hw) (fun _ => wd_s0 _) | exact wd_sb (wd_s1 hw) (fun _ => wd_sb (wd_t1 hw) (fun _ => wd_s0 _)), ?_⟩
  refine List.forall_mem_cons.mpr ⟨fun B W s pc hw => by first | exact wd_s0 _ | exact wd_sb (wd_s2 hw) (fun _ => wd_s0 _) | exact wd_sb (wd_s1 hw) (fun _ => wd_s0 _) | exact wd_sb (wd_t2 hw) (fun _ => wd_s0 _) | exact wd_sb (wd_t1 hw) (fun _ => wd_s0 _) | exact wd_sb (wd_s1 hw) (fun _ => wd_sb (wd_t1 hw) (fun _ => wd_s0 _)), ?_⟩
  refine List.forall_mem_cons.mpr ⟨fun B W s pc hw => by first | exact wd_s0 _ | exact wd_sb (wd_s2 hw) (fun _ => wd_s0 _) | exact wd_sb (wd_s1 hw) (fun _ => wd_s0 _) | exact wd_sb (wd_t2 hw) (fun _ => wd_s0 _) | exact wd_sb (wd_t1 hw) (fun _ => wd_s0 _) | exact wd_sb (wd_s1 hw) (fun _ => wd_sb (wd_t1 hw) (fun _ => wd_s0 _)), ?_⟩
  refine List.forall_mem_cons.mpr ⟨fun B W s pc hw => by first | exact wd_s0 _ | exact wd_sb (wd_s2 hw) (fun _ => wd_s0 _) | exact wd_sb (wd_s1 hw) (fun _ => wd_s0 _) | exact wd_sb (wd_t2 hw) (fun _ => wd_s0 _) | exact wd_sb (wd_t1 hw) (fun _ => wd_s0 _) | exact wd_sb (wd_s1 hw) (fun _ => wd_sb (wd_t1 hw) (fun _ => wd_s0 _)), ?_⟩
  refine List.forall_mem_cons.mpr ⟨fun B W s pc hw => by first | exact wd_s0 _ | exact wd_sb (wd_s2 hw) (fun _ => wd_s0 _) | exact wd_sb (wd_s1 hw) (fun _ => wd_s0 _) | exact wd_sb (wd_t2 hw) (fun _ => wd_s0 _) | exact wd_sb (wd_t1 hw) (fun _ => wd_s0 _) | exact wd_sb (wd_s1 hw) (fun _ => wd_sb (wd_t1 hw) (fun _ => wd_s0 _)), ?_⟩
  refine List.forall_mem_cons.mpr ⟨fun B W s pc hw => by first | exact wd_s0 _ | exact wd_sb (wd_s2 hw) (fun _ => wd_s0 _) | exact wd_sb (wd_s1 hw) (fun _ => wd_s0 _) | exact wd_sb (wd_t2 hw) (fun _ => wd_s0 _) | exact wd_sb (wd_t1 hw) (fun _ => wd_s0 _) | exact wd_sb (wd_s1 hw) (fun _ => wd_sb (wd_t1 hw) (fun _ => wd_s0 _)), ?_⟩
  refine List.forall_mem_cons.mpr ⟨fun B W s pc hw => by first | exact wd_s0 _ | exact wd_sb (wd_s2 hw) (fun _ => wd_s0 _) | exact wd_sb (wd_s1 hw) (fun _ => wd_s0 _) | exact wd_sb (wd_t2 hw) (fun _ => wd_s0 _) | exact wd_sb (wd_t1 hw) (fun _ => wd_s0 _) | exact wd_sb (wd_s1 hw) (fun _ => wd_sb (wd_t1 hw) (fun _ => wd_s0 _)), ?_⟩
  refine List.forall_mem_cons.mpr ⟨fun B W s pc hw => by first | exact wd_s0 _ | exact wd_sb (wd_s2 hw) (fun _ => wd_s0 _) | exact wd_sb (wd_s1 hw) (fun _ => wd_s0 _) | exact wd_sb (wd_t2 hw) (fun _ => wd_s0 _) | exact wd_sb (wd_t1 hw) (fun _ => wd_s0 _) | exact wd_sb (wd_s1 hw) (fun _ => wd_sb (wd_t1 hw) (fun _ => wd_s0 _)), ?_⟩
  refine List.forall_mem_cons.mpr ⟨fun B W s pc hw => by first | exact wd_s0 _ | exact wd_sb (wd_s2 hw) (fun _ => wd_s0 _) | exact wd_sb (wd_s1 hw) (fun _ => wd_s0 _) | exact wd_sb (wd_t2 hw) (fun _ => wd_s0 _) | exact wd_sb (wd_t1 hw) (fun _ => wd_s0 _) | exact wd_sb (wd_s1 hw) (fun _ => wd_sb (wd_t1 hw) (fun _ => wd_s0 _)), ?_⟩
  refine List.forall_mem_cons.mpr ⟨fun B W s pc hw => by first | exact wd_s0 _ | exact wd_sb (wd_s2 hw) (fun _ => wd_s0 _) | exact wd_sb (wd_s1 hw) (fun _ => wd_s0 _) | exact wd_sb (wd_t2 hw) (fun _ => wd_s0 _) | exact wd_sb (wd_t1 hw) (fun _ => wd_s0 _) | exact wd_sb (wd_s1 hw) (fun _ => wd_sb (wd_t1 hw) (fun _ => wd_s0 _)), ?_⟩
  exact fun _ h => absurd h List.not_mem_nil
theorem wd_dec {B W : ByteArray} {s len : Nat} {i : Instr} (hw : wd_win B W s) (h0 : 0 < W.size) (hn : W[0].toNat ∈ wd_ops) (h : decode W 0 = .ok (i, len)) : decode B s = .ok (i, len) := by
  obtain ⟨body, hb, hs⟩ := wd_body
  have hd : ∀ (C : ByteArray) (p : Nat), decode C p = Except.bind (Jvm.ClassFile.Reader.runAt (Jvm.ClassFile.Decoder.instr p) C p) (fun z => Except.ok (z.1, z.2 - p)) := fun C p => rfl
  rw [hd] at h ⊢
  cases hr : Jvm.ClassFile.Reader.runAt (Jvm.ClassFile.Decoder.instr 0) W 0 with
  | error e =>
    rw [hr] at h
    cases h
  | ok z =>
    rw [hr] at h
    obtain ⟨j, q2⟩ := z
    cases h
    rw [hb 0] at hr
    obtain ⟨a, q, e1, e2⟩ := wd_inv hr
    rw [wd_u1_ok h0] at e1
    cases e1
    obtain ⟨h2, e9⟩ := hw 0 h0
    have e3 : Jvm.ClassFile.Reader.runAt (Jvm.ClassFile.Reader.u1 : wd_D Nat) B s = .ok (W[0].toNat, s + 1) := by
      rw [wd_u1_ok (show s < B.size from h2)]
      exact congrArg (fun x : UInt8 => Except.ok (x.toNat, s + 1)) e9
    rw [hb s, wd_bind e3, hs _ hn B W s s hw 1 _ _ e2]
    show Except.ok (j, s + q2 - s) = _
    rw [Nat.add_sub_cancel_left]
    rfl
noncomputable def wd_dk (l : List UInt8) (o : ri_Op) : Bool := match l with
  | b :: _ => wd_ops.any (Nat.beq b.toNat) && (match decode ⟨(l.take 5).toArray⟩ 0 with
    | .ok z => decide (z.1 = o.2.2.1) && Nat.beq (ri_len z.1) z.2
    | .error _ => false)
  | [] => false
theorem wd_dk_ok {cc : ByteArray} {o : ri_Op} {l : List UInt8} (hl : l = cc.data.toList.drop o.1) (h : wd_dk l o = true) : ∃ len : Nat, decode cc o.1 = .ok (o.2.2.1, len) ∧ (ri_len o.2.2.1 = 0 ∨ ri_len o.2.2.1 = len) := by
  cases l with
  | nil => cases h
  | cons b r =>
    have h2 : (wd_ops.any (Nat.beq b.toNat) && (match decode ⟨((b :: r).take 5).toArray⟩ 0 with
      | .ok z => decide (z.1 = o.2.2.1) && Nat.beq (ri_len z.1) z.2
      | .error _ => false)) = true := h
    rw [Bool.and_eq_true] at h2
    obtain ⟨h3, h4⟩ := h2
    split at h4
    · rename_i z hz
      obtain ⟨z1, z2⟩ := z
      rw [Bool.and_eq_true] at h4
      have e1 : z1 = o.2.2.1 := of_decide_eq_true h4.1
      subst e1
      have hw : wd_win cc ⟨((b :: r).take 5).toArray⟩ o.1 := by
        intro q hq
        have hq2 : q < ((b :: r).take 5).length := hq
        have hq3 : q < (b :: r).length := by rw [List.length_take] at hq2; omega
        have hg : (cc.data.toList.drop o.1)[q]? = some ((b :: r)[q]) := by rw [← hl]; exact List.getElem?_eq_getElem hq3
        rw [List.getElem?_drop] at hg
        have hlt : o.1 + q < cc.data.toList.length := (List.getElem?_eq_some_iff.mp hg).1
        have hv : cc.data.toList[o.1 + q] = (b :: r)[q] := (List.getElem?_eq_some_iff.mp hg).2
        refine ⟨hlt, ?_⟩
        show cc.data.toList[o.1 + q] = ((b :: r).take 5)[q]
        rw [hv, List.getElem_take]
      obtain ⟨n, hn1, hn2⟩ := List.any_eq_true.mp h3
      have hn3 : b.toNat = n := Nat.eq_of_beq_eq_true hn2
      refine ⟨z2, wd_dec hw (show 0 < ((b :: r).take 5).length by simp) (by show b.toNat ∈ wd_ops; rw [hn3]; exact hn1) hz, Or.inr (Nat.eq_of_beq_eq_true h4.2)⟩
    · cases h4
noncomputable def wd_tb (c : Nat) : List Jvm.Cond := match c with
  | 0 => k2_sels lw_privs
  | 1 => tables_1_1
  | 2 => tables_1_2
  | 3 => tables_1_3
  | 4 => tables_1_4
  | 5 => tables_1_5
  | 6 => tables_1_6
  | 7 => tables_1_7
  | 8 => tables_1_8
  | 9 => tables_1_9
  | 10 => tables_1_10
  | _ => []
theorem wd_tb_in (c : Nat) (w : Jvm.Cond) (h : w ∈ wd_tb c) : w ∈ lw_tbl := by
  match c, h with
  | 0, h => exact List.mem_append_left _ h
  | 1, h => exact List.mem_append_right _ (List.mem_append_left _ h)
  | 2, h => exact List.mem_append_right _ (List.mem_append_right _ (List.mem_append_left _ h))
  | 3, h => exact List.mem_append_right _ (List.mem_append_right _ (List.mem_append_right _ (List.mem_append_left _ h)))
  | 4, h => exact List.mem_append_right _ (List.mem_append_right _ (List.mem_append_right _ (List.mem_append_right _ (List.mem_append_left _ h))))
  | 5, h => exact List.mem_append_right _ (List.mem_append_right _ (List.mem_append_right _ (List.mem_append_right _ (List.mem_append_right _ (List.mem_append_left _ h)))))
  | 6, h => exact List.mem_append_right _ (List.mem_append_right _ (List.mem_append_right _ (List.mem_append_right _ (List.mem_append_right _ (List.mem_append_right _ (List.mem_append_left _ h))))))
  | 7, h => exact List.mem_append_right _ (List.mem_append_right _ (List.mem_append_right _ (List.mem_append_right _ (List.mem_append_right _ (List.mem_append_right _ (List.mem_append_right _ (List.mem_append_left _ h)))))))
  | 8, h => exact List.mem_append_right _ (List.mem_append_right _ (List.mem_append_right _ (List.mem_append_right _ (List.mem_append_right _ (List.mem_append_right _ (List.mem_append_right _ (List.mem_append_right _ (List.mem_append_left _ h))))))))
  | 9, h => exact List.mem_append_right _ (List.mem_append_right _ (List.mem_append_right _ (List.mem_append_right _ (List.mem_append_right _ (List.mem_append_right _ (List.mem_append_right _ (List.mem_append_right _ (List.mem_append_right _ (List.mem_append_left _ h)))))))))
  | 10, h => exact List.mem_append_right _ (List.mem_append_right _ (List.mem_append_right _ (List.mem_append_right _ (List.mem_append_right _ (List.mem_append_right _ (List.mem_append_right _ (List.mem_append_right _ (List.mem_append_right _ (List.mem_append_right _ (h))))))))))
  | _ + 11, h => exact absurd h List.not_mem_nil
noncomputable def wd_has (ps : List (Nat × Nat)) (ws : List Jvm.Cond) : Bool := decide (ps.map (fun q => ri_nth (wd_tb q.1) q.2) = ws.map some) && ws.all goodWord
theorem wd_has_ok {ps : List (Nat × Nat)} {ws : List Jvm.Cond} (h : wd_has ps ws = true) : ∀ w ∈ ws, w ∈ ri_WG := by
  intro w hw
  obtain ⟨h1, h2⟩ := (Bool.and_eq_true _ _ ▸ h : decide (ps.map (fun q => ri_nth (wd_tb q.1) q.2) = ws.map some) = true ∧ ws.all goodWord = true)
  refine List.mem_filter.mpr ⟨?_, List.all_eq_true.mp h2 w hw⟩
  have h3 : some w ∈ ws.map some := List.mem_map.mpr ⟨w, hw, rfl⟩
  rw [← of_decide_eq_true h1] at h3
  obtain ⟨q, -, hq⟩ := List.mem_map.mp h3
  rw [ri_nth_eq] at hq
  exact wd_tb_in q.1 w (List.mem_of_getElem? hq)
section WDC
variable {hh : MethodName → List (Nat × Nat × Nat × Nat)} {NW : List ri_N} {CW : List ri_C9} {NC : List (String × String)} {CN : List (String × Nat × String)} {AO : List FieldType} {cl : List vw_C} {Ms : List ri_M} {tyL : List FieldType} {exl : Nat → Nat} {exn : Nat → String}
noncomputable def wd_nx (o : ri_Op) (os : List ri_Op) : Nat := match os with
  | o2 :: _ => o2.1
  | [] => o.1
noncomputable def wd_chk (hh : MethodName → List (Nat × Nat × Nat × Nat)) (NW : List ri_N) (CW : List ri_C9) (NC : List (String × String)) (CN : List (String × Nat × String)) (AO : List FieldType) (cl : List vw_C) (Ms : List ri_M) (tyL : List FieldType) (exn : Nat → String) (XT : List ri_X) (M : ri_M) : List ri_Op → List UInt8 → List (List (Nat × Nat)) → Bool
  | [], _, _ => true
  | o :: os, l, ps => (wd_dk l o || ri_dk M.2.1 o) && ((bif Nat.beq o.2.1 23 then ri_x3 hh XT M o else (match ri_wd hh NW CW NC CN AO cl Ms tyL exn M o.1 o.2.1 o.2.2.1 o.2.2.2.1 o.2.2.2.2.1 o.2.2.2.2.2.1 o.2.2.2.2.2.2 with
    | some ws => wd_has (ps.headD []) ws
    | none => false)) && (Nat.ble o.1 (wd_nx o os) && wd_chk hh NW CW NC CN AO cl Ms tyL exn XT M os (l.drop (wd_nx o os - o.1)) ps.tail))
theorem wd_chk_ok (hCN : ∀ c ∈ CN, Jvm.Cond.classLink c.1 c.2.1 c.2.2 ∈ ri_WG) {XT : List ri_X} (hX : ∀ x ∈ XT, ri_xfact CW exl exn x) {M : ri_M} : ∀ {os : List ri_Op} {l : List UInt8} {ps : List (List (Nat × Nat))}, (∀ (o : ri_Op) (r : List ri_Op), os = o :: r → l = M.2.1.data.toList.drop o.1) → wd_chk hh NW CW NC CN AO cl Ms tyL exn XT M os l ps = true → ∀ o ∈ os, ri_opok ri_WG hh NW CW NC AO cl Ms tyL exl exn M o
  | [], _, _, _, _ => fun o ho => by cases ho
  | o :: os, l, ps, hl, h => by
    have h0 : ((wd_dk l o || ri_dk M.2.1 o) && ((bif Nat.beq o.2.1 23 then ri_x3 hh XT M o else (match ri_wd hh NW CW NC CN AO cl Ms tyL exn M o.1 o.2.1 o.2.2.1 o.2.2.2.1 o.2.2.2.2.1 o.2.2.2.2.2.1 o.2.2.2.2.2.2 with
      | some ws => wd_has (ps.headD []) ws
      | none => false)) && (Nat.ble o.1 (wd_nx o os) && wd_chk hh NW CW NC CN AO cl Ms tyL exn XT M os (l.drop (wd_nx o os - o.1)) ps.tail))) = true := h
    rw [Bool.and_eq_true, Bool.and_eq_true, Bool.and_eq_true] at h0
    obtain ⟨h1, h2, h5, h3⟩ := h0
    have hd : ∃ len : Nat, decode M.2.1 o.1 = .ok (o.2.2.1, len) ∧ (ri_len o.2.2.1 = 0 ∨ ri_len o.2.2.1 = len) := by
      rw [Bool.or_eq_true] at h1
      rcases h1 with h1 | h1
      · exact wd_dk_ok (hl o os rfl) h1
      · exact ri_dk_ok h1
    intro o9 ho9
    rcases List.mem_cons.mp ho9 with e | e
    · subst e
      cases hk : Nat.beq o9.2.1 23 with
      | true =>
        rw [hk, cond_true] at h2
        have e3 : o9.2.1 = 23 := Nat.eq_of_beq_eq_true hk
        refine ⟨hd, ?_⟩
        rw [e3]
        exact ri_x3_ok hX h2
      | false =>
        rw [hk, cond_false] at h2
        split at h2
        · rename_i ws hws
          exact ⟨hd, ri_wd_ok hCN hws (wd_has_ok h2)⟩
        · cases h2
    · refine wd_chk_ok hCN hX (fun o2 r e2 => ?_) h3 o9 e
      subst e2
      rw [hl o _ rfl, List.drop_drop]
      have h6 : o.1 ≤ o2.1 := Nat.le_of_ble_eq_true h5
      show M.2.1.data.toList.drop (o.1 + (o2.1 - o.1)) = _
      rw [show o.1 + (o2.1 - o.1) = o2.1 by omega]
noncomputable def wd_hd (os : List ri_Op) : Nat := match os with
  | o :: _ => o.1
  | [] => 0
noncomputable def wd_chk2 (hh : MethodName → List (Nat × Nat × Nat × Nat)) (NW : List ri_N) (CW : List ri_C9) (NC : List (String × String)) (CN : List (String × Nat × String)) (AO : List FieldType) (cl : List vw_C) (Ms : List ri_M) (tyL : List FieldType) (exn : Nat → String) (XT : List ri_X) (M : ri_M) (os : List ri_Op) (ps : List (List (Nat × Nat))) : Bool := wd_chk hh NW CW NC CN AO cl Ms tyL exn XT M os (M.2.1.data.toList.drop (wd_hd os)) ps
theorem wd_chk2_ok (hCN : ∀ c ∈ CN, Jvm.Cond.classLink c.1 c.2.1 c.2.2 ∈ ri_WG) {XT : List ri_X} (hX : ∀ x ∈ XT, ri_xfact CW exl exn x) {M : ri_M} {os : List ri_Op} {ps : List (List (Nat × Nat))} (h : wd_chk2 hh NW CW NC CN AO cl Ms tyL exn XT M os ps = true) : ∀ o ∈ os, ri_opok ri_WG hh NW CW NC AO cl Ms tyL exl exn M o := wd_chk_ok hCN hX (fun o r e => by subst e; rfl) h
end WDC
