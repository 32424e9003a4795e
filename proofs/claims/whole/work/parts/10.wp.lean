/-! RUNS AS GOALS -/
def wp (d mid pc : Nat) (ls : AL) (st : List Value) (h : AH) (Q : Option Value → AH → Prop) : Prop := ∃ (n : Nat) (r : Option Value) (h' : AH), am_run d n mid pc ls st h = some (r, h') ∧ Q r h'
theorem am_run_more : ∀ (n d mid pc : Nat) (ls : AL) (st : List Value) (h : AH) (x : Option Value × AH), am_run d n mid pc ls st h = some x → am_run d (n + 1) mid pc ls st h = some x := by
  intro n
  induction n with
  | zero => intro d mid pc ls st h x hr; simp [am_run] at hr
  | succ n ih =>
    intro d mid pc ls st h x hr
    rw [am_run] at hr ⊢
    cases hrc : rc mid pc with
    | none => rw [hrc] at hr; cases hr
    | some il =>
      obtain ⟨i, len⟩ := il
      rw [hrc] at hr
      dsimp only at hr ⊢
      cases hret : am_ret i st with
      | some r => rw [hret] at hr; exact hr
      | none =>
        rw [hret] at hr
        dsimp only at hr ⊢
        cases hcall : am_call i st with
        | some q =>
          obtain ⟨cm, vs, rest⟩ := q
          rw [hcall] at hr
          dsimp only at hr ⊢
          cases d with
          | zero => cases hr
          | succ d' =>
            dsimp only at hr ⊢
            by_cases hok : am_ok i cm vs rest h = true
            · rw [if_pos hok] at hr ⊢
              cases h1 : am_run d' n cm 0 (am_entry (mL cm) vs) [] h with
              | none => rw [h1] at hr; cases hr
              | some y =>
                obtain ⟨r1, g1⟩ := y
                rw [h1] at hr
                rw [ih _ _ _ _ _ _ _ h1]
                exact ih _ _ _ _ _ _ _ hr
            · rw [if_neg hok] at hr; cases hr
        | none =>
          rw [hcall] at hr
          dsimp only at hr ⊢
          cases hs : am_step d i len pc ls st h with
          | none => rw [hs] at hr; cases hr
          | some y =>
            obtain ⟨pc', ls', st', h'⟩ := y
            rw [hs] at hr
            exact ih _ _ _ _ _ _ _ hr
theorem am_run_le {n n' d mid pc : Nat} {ls : AL} {st : List Value} {h : AH} {x : Option Value × AH} (hn : n ≤ n') (hr : am_run d n mid pc ls st h = some x) : am_run d n' mid pc ls st h = some x := by
  obtain ⟨k, rfl⟩ := Nat.exists_eq_add_of_le hn
  clear hn
  induction k with
  | zero => exact hr
  | succ k ih => exact am_run_more _ _ _ _ _ _ _ _ ih
section WP
variable {d mid pc pc' len : Nat} {i : Instr} {ls ls' : AL} {st st' : List Value} {h h' : AH} {Q : Option Value → AH → Prop}
theorem wp_step (hc : rc mid pc = some (i, len)) (hr : am_ret i st = none) (hcl : am_call i st = none) (hs : am_step d i len pc ls st h = some (pc', ls', st', h')) : wp d mid pc ls st h Q ↔ wp d mid pc' ls' st' h' Q := by
  constructor
  · rintro ⟨n, r, g, hn, hq⟩
    cases n with
    | zero => simp [am_run] at hn
    | succ n =>
      rw [am_run, hc] at hn
      dsimp only at hn
      rw [hr] at hn
      dsimp only at hn
      rw [hcl] at hn
      dsimp only at hn
      rw [hs] at hn
      exact ⟨n, r, g, hn, hq⟩
  · rintro ⟨n, r, g, hn, hq⟩
    refine ⟨n + 1, r, g, ?_, hq⟩
    rw [am_run, hc]
    dsimp only
    rw [hr]
    dsimp only
    rw [hcl]
    dsimp only
    rw [hs]
    exact hn
theorem wp_ret {r : Option Value} (hc : rc mid pc = some (i, len)) (hr : am_ret i st = some r) (hok : am_rok (mR mid) r = true) : wp d mid pc ls st h Q ↔ Q r h := by
  constructor
  · rintro ⟨n, r', g, hn, hq⟩
    cases n with
    | zero => simp [am_run] at hn
    | succ n =>
      rw [am_run, hc] at hn
      dsimp only at hn
      rw [hr] at hn
      dsimp only at hn
      rw [if_pos hok] at hn
      cases hn
      exact hq
  · intro hq
    refine ⟨1, r, h, ?_, hq⟩
    rw [am_run, hc]
    dsimp only
    rw [hr]
    dsimp only
    rw [if_pos hok]
theorem wp_call {cm : Nat} {vs rest : List Value} (hc : rc mid pc = some (i, len)) (hr : am_ret i st = none) (hcl : am_call i st = some (cm, vs, rest)) (hok : am_ok i cm vs rest h = true) : wp (d + 1) mid pc ls st h Q ↔ wp d cm 0 (am_entry (mL cm) vs) [] h (fun r h1 => wp (d + 1) mid (pc + len) ls (r.toList ++ rest) h1 Q) := by
  constructor
  · rintro ⟨n, r, g, hn, hq⟩
    cases n with
    | zero => simp [am_run] at hn
    | succ n =>
      rw [am_run, hc] at hn
      dsimp only at hn
      rw [hr] at hn
      dsimp only at hn
      rw [hcl] at hn
      dsimp only at hn
      rw [if_pos hok] at hn
      cases h1 : am_run d n cm 0 (am_entry (mL cm) vs) [] h with
      | none => rw [h1] at hn; cases hn
      | some y =>
        obtain ⟨r1, g1⟩ := y
        rw [h1] at hn
        exact ⟨n, r1, g1, h1, n, r, g, hn, hq⟩
  · rintro ⟨n, r1, g1, h1, n2, r, g, hn, hq⟩
    refine ⟨max n n2 + 1, r, g, ?_, hq⟩
    rw [am_run, hc]
    dsimp only
    rw [hr]
    dsimp only
    rw [hcl]
    dsimp only
    rw [if_pos hok, am_run_le (Nat.le_max_left n n2) h1]
    exact am_run_le (Nat.le_max_right n n2) hn
theorem wp_mono {P : Option Value → AH → Prop} (hw : wp d mid pc ls st h P) (hq : ∀ r g, P r g → Q r g) : wp d mid pc ls st h Q := by
  obtain ⟨n, r, g, hn, hp⟩ := hw
  exact ⟨n, r, g, hn, hq r g hp⟩
-- what a heap holds
def fld (h : AH) (a k : Nat) : Value := match h[a]? with
  | some (_, fs) => fs.getD k .null
  | none => .null
def okF (h : AH) (a x : Nat) : Prop := ∃ fs, h[a]? = some (.inr (am_fc x), fs) ∧ am_fk x < fs.length
def hput (h : AH) (a k : Nat) (v : Value) : AH := match h[a]? with
  | some (t, fs) => h.set a (t, fs.set k v)
  | none => h
def okA (ok : FieldType → Bool) (h : AH) (a : Nat) (j : Int32) : Prop := ∃ ty vs, h[a]? = some (.inl ty, vs) ∧ ok ty = true ∧ ¬ j < 0 ∧ j.toNatClampNeg < vs.length
def arr (h : AH) (a : Nat) (j : Int32) : Value := match h[a]? with
  | some (_, vs) => vs.getD j.toNatClampNeg .null
  | none => .null
def alen (h : AH) (a : Nat) : Nat := match h[a]? with
  | some (_, vs) => vs.length
  | none => 0
def isA (h : AH) (a : Nat) : Prop := ∃ ty vs, h[a]? = some (.inl ty, vs)
def hast (h : AH) (a : Nat) (j : Int32) (v : Value) : AH := match h[a]? with
  | some (t, vs) => h.set a (t, vs.set j.toNatClampNeg v)
  | none => h
theorem wp_getf {x a : Nat} (hc : rc mid pc = some (.getfield x, 3)) (ho : okF h a x) : wp d mid pc ls (.ref a :: st) h Q ↔ wp d mid (pc + 3) ls (fld h a (am_fk x) :: st) h Q := by
  obtain ⟨fs, h1, h2⟩ := ho
  refine wp_step hc rfl rfl ?_
  have e : fs[am_fk x]? = some (fs.getD (am_fk x) .null) := by
    rw [List.getD_eq_getElem?_getD, List.getElem?_eq_getElem h2]
    rfl
  have e0 : am_getf x h (.ref a :: st) = some (fs.getD (am_fk x) .null :: st) := by
    simp only [am_getf, h1, e, if_true]
  have e1 : fld h a (am_fk x) = fs.getD (am_fk x) .null := by simp only [fld, h1]
  show am_nx pc 3 ls h (am_getf x h (.ref a :: st)) = _
  rw [e0, e1]
  rfl
theorem wp_putf {x a : Nat} {v : Value} (hc : rc mid pc = some (.putfield x, 3)) (ho : okF h a x) (hs : sN ≤ a) (hn : narrow (cF (am_fc x) (am_fk x)) v = v) (hf : fits (cF (am_fc x) (am_fk x)) v = true) : wp d mid pc ls (v :: .ref a :: st) h Q ↔ wp d mid (pc + 3) ls st (hput h a (am_fk x) v) Q := by
  obtain ⟨fs, h1, h2⟩ := ho
  refine wp_step hc rfl rfl ?_
  have e0 : am_putf x h (v :: .ref a :: st) = some (st, h.set a (.inr (am_fc x), fs.set (am_fk x) v)) := by
    simp only [am_putf, h1]
    rw [if_pos ⟨trivial, h2, hs, hn, hf⟩]
  have e1 : hput h a (am_fk x) v = h.set a (.inr (am_fc x), fs.set (am_fk x) v) := by simp only [hput, h1]
  show am_nh pc 3 ls (am_putf x h (v :: .ref a :: st)) = _
  rw [e0, e1]
  rfl
theorem wp_ald {ok : FieldType → Bool} {a : Nat} {j : Int32} (hc : rc mid pc = some (i, 1)) (hr : ∀ st, am_ret i st = none) (hcl : ∀ st, am_call i st = none) (hi : ∀ st, am_step d i 1 pc ls st h = am_nx pc 1 ls h (am_ald ok h st)) (ho : okA ok h a j) : wp d mid pc ls (.int j :: .ref a :: st) h Q ↔ wp d mid (pc + 1) ls (arr h a j :: st) h Q := by
  obtain ⟨ty, vs, h1, h2, h3, h4⟩ := ho
  refine wp_step hc (hr _) (hcl _) ?_
  rw [hi]
  have e : vs[j.toNatClampNeg]? = some (vs.getD j.toNatClampNeg .null) := by
    rw [List.getD_eq_getElem?_getD, List.getElem?_eq_getElem h4]
    rfl
  have e0 : am_ald ok h (.int j :: .ref a :: st) = some (vs.getD j.toNatClampNeg .null :: st) := by
    simp only [am_ald, h1, e]
    rw [if_pos ⟨h2, h3⟩]
  have e1 : arr h a j = vs.getD j.toNatClampNeg .null := by simp only [arr, h1]
  rw [e0, e1]
  rfl
theorem wp_len {a : Nat} (hc : rc mid pc = some (.arraylength, 1)) (ho : isA h a) : wp d mid pc ls (.ref a :: st) h Q ↔ wp d mid (pc + 1) ls (.int (Int32.ofNat (alen h a)) :: st) h Q := by
  obtain ⟨ty, vs, h1⟩ := ho
  refine wp_step hc rfl rfl ?_
  unfold am_step alen
  dsimp only
  rw [h1]
  rfl
theorem am_ast_eq {ok : FieldType → Bool} {a : Nat} {j : Int32} {v : FieldType → Value} {w : Value} (ho : okA ok h a j) (hs : sN ≤ a) (hv : ∀ ty, ok ty = true → v ty = w) : am_ast ok h a j v = some (hast h a j w) := by
  obtain ⟨ty, vs, h1, h2, h3, h4⟩ := ho
  unfold am_ast hast
  rw [h1]
  dsimp only
  rw [if_pos ⟨h2, h3, h4, hs⟩, hv ty h2]
theorem wp_iast {a : Nat} {j x : Int32} (hc : rc mid pc = some (.iastore, 1)) (ho : okA am_isI h a j) (hs : sN ≤ a) : wp d mid pc ls (.int x :: .int j :: .ref a :: st) h Q ↔ wp d mid (pc + 1) ls st (hast h a j (.int x)) Q := by
  refine wp_step hc rfl rfl ?_
  show am_as pc 1 ls st (am_ast am_isI h a j (fun _ => .int x)) = _
  rw [am_ast_eq ho hs (fun _ _ => rfl)]
  rfl
theorem wp_last {a : Nat} {j : Int32} {x : Int64} (hc : rc mid pc = some (.lastore, 1)) (ho : okA am_isJ h a j) (hs : sN ≤ a) : wp d mid pc ls (.long x :: .int j :: .ref a :: st) h Q ↔ wp d mid (pc + 1) ls st (hast h a j (.long x)) Q := by
  refine wp_step hc rfl rfl ?_
  show am_as pc 1 ls st (am_ast am_isJ h a j (fun _ => .long x)) = _
  rw [am_ast_eq ho hs (fun _ _ => rfl)]
  rfl
theorem wp_cast {a : Nat} {j x : Int32} (hc : rc mid pc = some (.castore, 1)) (ho : okA am_isC h a j) (hs : sN ≤ a) : wp d mid pc ls (.int x :: .int j :: .ref a :: st) h Q ↔ wp d mid (pc + 1) ls st (hast h a j (narrow .char (.int x))) Q := by
  refine wp_step hc rfl rfl ?_
  show am_as pc 1 ls st (am_ast am_isC h a j (fun ty => narrow ty (.int x))) = _
  rw [am_ast_eq (w := narrow .char (.int x)) ho hs (fun ty hty => by cases ty <;> first | rfl | cases hty)]
  rfl
theorem wp_aast {a x ci : Nat} {fs : List Value} {j : Int32} (hc : rc mid pc = some (.aastore, 1)) (hx : h[x]? = some (.inr ci, fs)) (ho : okA (fun ty => decide (ty = .object (cN ci))) h a j) (hs : sN ≤ a) : wp d mid pc ls (.ref x :: .int j :: .ref a :: st) h Q ↔ wp d mid (pc + 1) ls st (hast h a j (.ref x)) Q := by
  refine wp_step hc rfl rfl ?_
  unfold am_step
  dsimp only
  rw [hx]
  dsimp only
  rw [am_ast_eq ho hs (fun _ _ => rfl)]
  rfl
theorem wp_newa {t : ArrayType} {n : Int32} (hc : rc mid pc = some (.newarray t, 2)) (hn : ¬ n < 0) (hb : n.toNatClampNeg * componentBytes (newarray.typeOf t) ≤ 536870912) : wp d mid pc ls (.int n :: st) h Q ↔ wp d mid (pc + 2) ls (.ref h.length :: st) (h ++ [(.inl (newarray.typeOf t), List.replicate n.toNatClampNeg (defaultValue (newarray.typeOf t)))]) Q := by
  refine wp_step hc rfl rfl ?_
  unfold am_step
  dsimp only
  rw [if_pos ⟨hn, hb⟩]
theorem wp_anew {ci : Nat} {n : Int32} (hc : rc mid pc = some (.anewarray ci, 3)) (hn : ¬ n < 0) (hb : n.toNatClampNeg * 4 ≤ 536870912) : wp d mid pc ls (.int n :: st) h Q ↔ wp d mid (pc + 3) ls (.ref h.length :: st) (h ++ [(.inl (.object (cN ci)), List.replicate n.toNatClampNeg .null)]) Q := by
  refine wp_step hc rfl rfl ?_
  unfold am_step
  dsimp only
  rw [if_pos ⟨hn, hb⟩]
theorem wp_div {x y : Int32} (hc : rc mid pc = some (.idiv, 1)) (hy : ¬ y = 0) : wp d mid pc ls (.int y :: .int x :: st) h Q ↔ wp d mid (pc + 1) ls (.int (x / y) :: st) h Q := by
  refine wp_step hc rfl rfl ?_
  show am_nx pc 1 ls h (am_iid _ (.int y :: .int x :: st)) = _
  unfold am_iid
  dsimp only
  rw [if_neg hy]
  rfl
theorem wp_rem {x y : Int32} (hc : rc mid pc = some (.irem, 1)) (hy : ¬ y = 0) : wp d mid pc ls (.int y :: .int x :: st) h Q ↔ wp d mid (pc + 1) ls (.int (x - x / y * y) :: st) h Q := by
  refine wp_step hc rfl rfl ?_
  show am_nx pc 1 ls h (am_iid _ (.int y :: .int x :: st)) = _
  unfold am_iid
  dsimp only
  rw [if_neg hy]
  rfl
theorem wp_ldiv {x y : Int64} (hc : rc mid pc = some (.ldiv, 1)) (hy : ¬ y = 0) : wp d mid pc ls (.long y :: .long x :: st) h Q ↔ wp d mid (pc + 1) ls (.long (x / y) :: st) h Q := by
  refine wp_step hc rfl rfl ?_
  show am_nx pc 1 ls h (am_lld _ (.long y :: .long x :: st)) = _
  unfold am_lld
  dsimp only
  rw [if_neg hy]
  rfl
theorem wp_lrem {x y : Int64} (hc : rc mid pc = some (.lrem, 1)) (hy : ¬ y = 0) : wp d mid pc ls (.long y :: .long x :: st) h Q ↔ wp d mid (pc + 1) ls (.long (x - x / y * y) :: st) h Q := by
  refine wp_step hc rfl rfl ?_
  show am_nx pc 1 ls h (am_lld _ (.long y :: .long x :: st)) = _
  unfold am_lld
  dsimp only
  rw [if_neg hy]
  rfl
theorem wp_if {kc : ClassFile.Cond} {t : Int} {x : Int32} {P : Prop} (inst : Decidable P) (hc : rc mid pc = some (.ifCond kc t, 3)) (hP : am_c1 kc x = decide P) : wp d mid pc ls (.int x :: st) h Q ↔ if P then wp d mid t.toNat ls st h Q else wp d mid (pc + 3) ls st h Q := by
  refine (wp_step hc rfl rfl (pc' := if am_c1 kc x = true then t.toNat else pc + 3) (ls' := ls) (st' := st) (h' := h) rfl).trans ?_
  rw [hP]
  by_cases h : P <;> simp [h]
theorem wp_ic {kc : ClassFile.Cond} {t : Int} {x y : Int32} {P : Prop} (inst : Decidable P) (hc : rc mid pc = some (.if_icmp kc t, 3)) (hP : am_c2 kc x y = decide P) : wp d mid pc ls (.int y :: .int x :: st) h Q ↔ if P then wp d mid t.toNat ls st h Q else wp d mid (pc + 3) ls st h Q := by
  refine (wp_step hc rfl rfl (pc' := if am_c2 kc x y = true then t.toNat else pc + 3) (ls' := ls) (st' := st) (h' := h) rfl).trans ?_
  rw [hP]
  by_cases h : P <;> simp [h]
theorem wp_obj {a : Nat} (hc : rc mid pc = some (.monitorenter, 3)) (hs : am_cat st ≤ 8) : wp (d + 1) mid pc ls (.ref a :: st) h Q ↔ wp (d + 1) mid (pc + 3) ls st h Q := by
  refine wp_step hc rfl rfl ?_
  unfold am_step
  dsimp only
  rw [if_pos ⟨by omega, hs⟩]
theorem wp_cpy {a b : Nat} {n dp sp : Int32} {ty : FieldType} {f g : List Value} (hc : rc mid pc = some (.monitorexit, 3)) (ha : h[a]? = some (.inl ty, f)) (hb : h[b]? = some (.inl ty, g)) (hst : am_cat st ≤ 8) (hp : am_prim ty = true) (h1 : ¬ n < 0) (h2 : ¬ dp < 0) (h3 : ¬ sp < 0) (h4 : sp.toNatClampNeg + n.toNatClampNeg ≤ f.length) (h5 : dp.toNatClampNeg + n.toNatClampNeg ≤ g.length) (hs : sN ≤ b) :
    wp (d + 1) mid pc ls (.int n :: .int dp :: .ref b :: .int sp :: .ref a :: st) h Q ↔ wp (d + 1) mid (pc + 3) ls st (h.set b (.inl ty, am_cp f g sp.toNatClampNeg dp.toNatClampNeg n.toNatClampNeg)) Q := by
  refine wp_step hc rfl rfl ?_
  show am_nh pc 3 ls (am_copy (d + 1) h _) = _
  unfold am_copy
  dsimp only
  rw [ha, hb]
  dsimp only
  rw [if_pos ⟨by omega, hst, rfl, hp, h1, h2, h3, h4, h5, hs⟩]
  rfl
end WP
