/-! RAW AND RESOLVED -/
theorem sm_all {b : ByteArray} {l : List (Nat × Nat × Instr × Instr)} (h : (l.all fun q => decide (decode b q.1 = .ok (q.2.2.1, q.2.1))) = true) : ∀ q ∈ l, decode b q.1 = .ok (q.2.2.1, q.2.1) := fun q hq => of_decide_eq_true (List.all_eq_true.mp h q hq)
def sm_si (i : Instr) : Bool := match i with
  | .aconst_null => true
  | .iadd => true
  | .isub => true
  | .imul => true
  | .iand => true
  | .ior => true
  | .ixor => true
  | .ishl => true
  | .ishr => true
  | .iushr => true
  | .idiv => true
  | .irem => true
  | .ineg => true
  | .ladd => true
  | .lsub => true
  | .lmul => true
  | .land => true
  | .lor => true
  | .lxor => true
  | .lcmp => true
  | .ldiv => true
  | .lrem => true
  | .lneg => true
  | .lshl => true
  | .lshr => true
  | .lushr => true
  | .i2l => true
  | .l2i => true
  | .i2b => true
  | .i2s => true
  | .i2c => true
  | .i2f => true
  | .f2l => true
  | .dup => true
  | .pop => true
  | .dup_x1 => true
  | .dup_x2 => true
  | .dup2 => true
  | .iaload => true
  | .baload => true
  | .caload => true
  | .laload => true
  | .aaload => true
  | .arraylength => true
  | .iastore => true
  | .bastore => true
  | .castore => true
  | .lastore => true
  | .aastore => true
  | .ireturn => true
  | .lreturn => true
  | .areturn => true
  | .return_ => true
  | _ => false
def sm_rs (pc len : Nat) (raw : Instr) : Option Instr := match raw with
  | .iconst n => if len = 1 then some (.iconst n) else none
  | .bipush n => if len = 2 ∧ (Int8.ofInt n).toInt32 = Int32.ofInt n then some (.iconst n) else none
  | .sipush n => if len = 3 ∧ (Int16.ofInt n).toInt32 = Int32.ofInt n then some (.iconst n) else none
  | .lconst k => if len = 1 then some (.ldc2_w k) else none
  | .iload j => if len = 2 then some (.iload j) else none
  | .lload j => if len = 2 then some (.lload j) else none
  | .aload j => if len = 2 then some (.aload j) else none
  | .istore j => if len = 2 then some (.istore j) else none
  | .lstore j => if len = 2 then some (.lstore j) else none
  | .astore j => if len = 2 then some (.astore j) else none
  | .iload_n j => if len = 1 then some (.iload j) else none
  | .lload_n j => if len = 1 then some (.lload j) else none
  | .aload_n j => if len = 1 then some (.aload j) else none
  | .istore_n j => if len = 1 then some (.istore j) else none
  | .lstore_n j => if len = 1 then some (.lstore j) else none
  | .astore_n j => if len = 1 then some (.astore j) else none
  | .iinc j n => if len = 3 then some (.iinc j n) else none
  | .goto o => if len = 3 ∧ 0 ≤ (pc : Int) + o then some (.goto ((pc : Int) + o)) else none
  | .ifCond c o => if len = 3 ∧ 0 ≤ (pc : Int) + o then some (.ifCond c ((pc : Int) + o)) else none
  | .if_icmp c o => if len = 3 ∧ 0 ≤ (pc : Int) + o then some (.if_icmp c ((pc : Int) + o)) else none
  | .ifnull o => if len = 3 ∧ 0 ≤ (pc : Int) + o then some (.ifnull ((pc : Int) + o)) else none
  | .ifnonnull o => if len = 3 ∧ 0 ≤ (pc : Int) + o then some (.ifnonnull ((pc : Int) + o)) else none
  | .lookupswitch d p0 => if (p0.toList.zip (p0.toList.drop 1)).all (fun (a, next) => a.1 < next.1) = true ∧ 0 ≤ (pc : Int) + d ∧ ∀ q ∈ p0.toList.map (fun q => (q.1, (pc : Int) + q.2)), 0 ≤ q.2 then some (.lookupswitch ((pc : Int) + d) (p0.toList.map fun q => (q.1, (pc : Int) + q.2)).toArray) else none
  | .tableswitch d lo hi offs => if hi = lo + (offs.size : Int) - 1 ∧ 0 ≤ (pc : Int) + d ∧ ∀ q ∈ sm_tab pc lo offs.toList, 0 ≤ q.2 then some (.lookupswitch ((pc : Int) + d) (sm_tab pc lo offs.toList).toArray) else none
  | i => if sm_si i = true ∧ len = 1 then some i else none
theorem sm_rs_ok {mid pc len : Nat} {raw i : Instr} (h : sm_rs pc len raw = some i) (hd : decode (mB mid) pc = .ok (raw, len)) : sm_F mid pc i len := by
  unfold sm_rs at h
  split at h
  · split at h
    · rename_i hc; cases h; subst hc; exact Or.inl ⟨hd, rfl⟩
    · cases h
  · split at h
    · rename_i hc; cases h; obtain ⟨rfl, hc⟩ := hc; exact Or.inr (Or.inl ⟨hd, rfl, hc⟩)
    · cases h
  · split at h
    · rename_i hc; cases h; obtain ⟨rfl, hc⟩ := hc; exact Or.inr (Or.inr (Or.inl ⟨hd, rfl, hc⟩))
    · cases h
  · split at h
    · rename_i hc; cases h; subst hc; exact Or.inl ⟨_, hd, rfl, rfl⟩
    · cases h
  iterate 6
    (split at h
     · rename_i hc; cases h; subst hc; exact Or.inl ⟨hd, rfl⟩
     · cases h)
  iterate 6
    (split at h
     · rename_i hc; cases h; subst hc; exact Or.inr ⟨_, hd, rfl, rfl⟩
     · cases h)
  · split at h
    · rename_i hc; cases h; subst hc; exact ⟨hd, rfl⟩
    · cases h
  iterate 5
    (split at h
     · rename_i hc; cases h; obtain ⟨rfl, hc⟩ := hc; exact ⟨_, hd, rfl, (Int.toNat_of_nonneg hc).symm⟩
     · cases h)
  · split at h
    · rename_i hc; cases h; obtain ⟨h1, h2, h3⟩ := hc; exact Or.inl ⟨_, _, hd, h1, by simp, rfl, h2, by simpa using h3⟩
    · cases h
  · split at h
    · rename_i hc; cases h; obtain ⟨h1, h2, h3⟩ := hc; exact Or.inr ⟨_, _, _, _, hd, h1, by simp, rfl, h2, by simpa using h3⟩
    · cases h
  · split at h
    · rename_i hc
      cases h
      obtain ⟨h1, rfl⟩ := hc
      cases raw <;> first | exact ⟨hd, rfl⟩ | exact absurd h1 Bool.false_ne_true
    · cases h
theorem sm_rsl {mid : Nat} {l : List (Nat × Nat × Instr × Instr)} (hr : ∀ q ∈ l, decode (mB mid) q.1 = .ok (q.2.2.1, q.2.1)) (h : (l.all fun q => decide (sm_rs q.1 q.2.1 q.2.2.1 = some q.2.2.2)) = true) : ∀ q ∈ l, sm_F mid q.1 q.2.2.2 q.2.1 := fun q hq => sm_rs_ok (of_decide_eq_true (List.all_eq_true.mp h q hq)) (hr q hq)
theorem rcl_mem {c : List (Nat × Nat × Instr × Instr)} {pc len : Nat} {i : Instr} (h : rcl c pc = some (i, len)) : ∃ raw, (pc, len, raw, i) ∈ c := by
  induction c with
  | nil => cases h
  | cons a r ih =>
    obtain ⟨p, n, raw, j⟩ := a
    unfold rcl at h
    cases hb : Nat.beq p pc with
    | true =>
      rw [hb] at h
      cases h
      have := Nat.eq_of_beq_eq_true hb
      subst this
      exact ⟨raw, List.mem_cons_self⟩
    | false =>
      rw [hb] at h
      obtain ⟨raw', hm⟩ := ih h
      exact ⟨raw', List.mem_cons_of_mem _ hm⟩
