/-! SOUNDNESS: what the abstract machine does, the machine does. -/
def sm_v (φ : (Nat → Nat) × Option Nat) : Value → Value
  | .ref r => .ref (φ.1 r)
  | .retAddr _ => va_rf φ.2
  | v => v
def sm_s (φ : (Nat → Nat) × Option Nat) (st : List Value) : List Value := st.map (sm_v φ)
theorem sm_cat (φ : (Nat → Nat) × Option Nat) (v : Value) : (sm_v φ v).category = v.category := by
  cases v with
  | retAddr _ => cases h : φ.2 <;> simp [sm_v, h, va_rf, Value.category]
  | _ => rfl
theorem sm_cats (φ : (Nat → Nat) × Option Nat) (st : List Value) : ((sm_s φ st).map fun v => v.category).sum = am_cat st := by
  unfold am_cat sm_s
  rw [List.map_map]
  congr 1
  apply List.map_congr_left
  intro v _
  exact sm_cat φ v
/-- variables as the kit lists them -/
def sm_al (φ : (Nat → Nat) × Option Nat) (ls : AL) : List (Nat × Value) := (List.range ls.length).filterMap fun i => (am_get ls i).map fun v => (i, sm_v φ v)
theorem am_get_lt {ls : AL} {i : Nat} {v : Value} (h : am_get ls i = some v) : i < ls.length := by
  unfold am_get at h
  cases hl : ls[i]? with
  | none => rw [hl] at h; cases h
  | some o => exact (List.getElem?_eq_some_iff.mp hl).1
theorem sm_al_mem {φ : (Nat → Nat) × Option Nat} {ls : AL} {q : Nat × Value} : q ∈ sm_al φ ls ↔ ∃ v, am_get ls q.1 = some v ∧ q.2 = sm_v φ v := by
  unfold sm_al
  rw [List.mem_filterMap]
  constructor
  · rintro ⟨i, hi, h⟩
    cases hv : am_get ls i with
    | none => rw [hv] at h; cases h
    | some v =>
      rw [hv] at h
      simp only [Option.map_some, Option.some.injEq] at h
      subst h
      exact ⟨v, hv, rfl⟩
  · rintro ⟨v, hv, hq⟩
    refine ⟨q.1, List.mem_range.mpr (am_get_lt hv), ?_⟩
    rw [hv]
    show some (q.1, sm_v φ v) = some q
    rw [← hq]
theorem sm_has {ls : Array Slot} {n : Nat} {l l' : List (Nat × Value)} (h : lv_has ls n l) (hm : ∀ q ∈ l', q ∈ l) : lv_has ls n l' := ⟨h.1, h.2.1, fun q hq => h.2.2 q (hm q hq)⟩
theorem am_kl_len (ls : AL) (j : Nat) : (am_kl ls j).length = ls.length := by
  unfold am_kl
  split <;> simp
theorem am_st1_len (ls : AL) (i : Nat) (v : Value) : (am_st1 ls i v).length = ls.length := by
  cases i <;> simp [am_st1, am_kl_len]
theorem am_st2_len (ls : AL) (i : Nat) (v : Value) : (am_st2 ls i v).length = ls.length := by
  simp [am_st2, am_st1_len]
theorem am_set_get {ls : AL} {i k : Nat} {o : Option Value} {w : Value} (h : am_get (ls.set i o) k = some w) : (k = i ∧ o = some w) ∨ (k ≠ i ∧ am_get ls k = some w) := by
  unfold am_get at h ⊢
  rw [List.getElem?_set] at h
  by_cases hk : i = k
  · rw [if_pos hk] at h
    by_cases hl : i < ls.length
    · rw [if_pos hl] at h
      cases o with
      | none => cases h
      | some v =>
        refine Or.inl ⟨hk.symm, ?_⟩
        exact h
    · rw [if_neg hl] at h
      cases h
  · rw [if_neg hk] at h
    exact Or.inr ⟨fun q => hk q.symm, h⟩
theorem am_kl_get {ls : AL} {j k : Nat} {w : Value} (h : am_get (am_kl ls j) k = some w) : am_get ls k = some w ∧ ¬ (k = j ∧ w.category = 2) := by
  unfold am_kl at h
  cases ho : ls[j]? with
  | none =>
    rw [ho] at h
    refine ⟨h, fun q => ?_⟩
    rw [q.1] at h
    unfold am_get at h
    rw [ho] at h
    cases h
  | some o =>
    rw [ho] at h
    rcases am_set_get h with ⟨h1, h2⟩ | ⟨h1, h2⟩
    · subst h1
      unfold am_get
      rw [ho]
      cases o with
      | none => cases h2
      | some v =>
        cases v with
        | long x => cases h2
        | double x => cases h2
        | _ =>
          cases h2
          exact ⟨rfl, fun q => absurd q.2 (by simp [Value.category])⟩
    · exact ⟨h2, fun q => h1 q.1⟩
theorem am_st1_get {ls : AL} {i k : Nat} {v w : Value} (h : am_get (am_st1 ls i v) k = some w) : (k = i ∧ w = v) ∨ (k ≠ i ∧ am_get ls k = some w ∧ ¬ (k + 1 = i ∧ w.category = 2)) := by
  cases i with
  | zero =>
    rcases am_set_get h with ⟨h1, h2⟩ | ⟨h1, h2⟩
    · exact Or.inl ⟨h1, (Option.some.inj h2).symm⟩
    · exact Or.inr ⟨h1, h2, fun q => by omega⟩
  | succ j =>
    rcases am_set_get h with ⟨h1, h2⟩ | ⟨h1, h2⟩
    · exact Or.inl ⟨h1, (Option.some.inj h2).symm⟩
    · obtain ⟨h3, h4⟩ := am_kl_get h2
      exact Or.inr ⟨h1, h3, fun q => h4 ⟨by omega, q.2⟩⟩
def sm_L (φ : (Nat → Nat) × Option Nat) (nL : Nat) (cls : Array Slot) (ls : AL) : Prop := ls.length = nL ∧ lv_has cls nL (sm_al φ ls)
theorem sm_L.get {φ : (Nat → Nat) × Option Nat} {nL i : Nat} {cls : Array Slot} {ls : AL} {v : Value} (h : sm_L φ nL cls ls) (hv : am_get ls i = some v) : cls[i]? = some (.val (sm_v φ v)) :=
  h.2.2.2 (i, sm_v φ v) (sm_al_mem.mpr ⟨v, hv, rfl⟩)
theorem sm_L.at {φ : (Nat → Nat) × Option Nat} {nL i : Nat} {cls : Array Slot} {ls : AL} {v : Value} (_ : sm_L φ nL cls ls) (hv : am_get ls i = some v) : ∃ k : Nat, (sm_al φ ls)[k]? = some (i, sm_v φ v) :=
  List.getElem?_of_mem (sm_al_mem.mpr ⟨v, hv, rfl⟩)
theorem sm_L.st1 {φ : (Nat → Nat) × Option Nat} {nL i : Nat} {cls cls' : Array Slot} {ls : AL} {v : Value} (h : sm_L φ nL cls ls) (h' : lv_has cls' nL ((i, sm_v φ v) :: (sm_al φ ls).filter (fun q => !(q.1 == i) && !(q.1 + 1 == i && q.2.category == 2)))) : sm_L φ nL cls' (am_st1 ls i v) := by
  refine ⟨(am_st1_len ls i v).trans h.1, sm_has h' fun q hq => ?_⟩
  obtain ⟨w, hw, e⟩ := sm_al_mem.mp hq
  rcases am_st1_get hw with ⟨h1, h2⟩ | ⟨h1, h2, h3⟩
  · subst h2
    rw [show q = (i, sm_v φ w) from Prod.ext h1 e]
    exact List.mem_cons_self
  · refine List.mem_cons_of_mem _ (List.mem_filter.mpr ⟨sm_al_mem.mpr ⟨w, h2, e⟩, ?_⟩)
    rw [e, sm_cat]
    simp only [Bool.and_eq_true, Bool.not_eq_true', beq_eq_false_iff_ne, Bool.and_eq_false_imp, beq_iff_eq, ne_eq]
    exact ⟨h1, fun q1 q2 => h3 ⟨q1, q2⟩⟩
theorem sm_L.st2 {φ : (Nat → Nat) × Option Nat} {nL i : Nat} {cls cls' : Array Slot} {ls : AL} {v : Value} (h : sm_L φ nL cls ls) (h' : lv_has cls' nL ((i, sm_v φ v) :: (sm_al φ ls).filter (fun q => !(q.1 == i) && (!(q.1 == i + 1) && !(q.1 + 1 == i && q.2.category == 2))))) : sm_L φ nL cls' (am_st2 ls i v) := by
  refine ⟨(am_st2_len ls i v).trans h.1, sm_has h' fun q hq => ?_⟩
  obtain ⟨w, hw, e⟩ := sm_al_mem.mp hq
  rcases am_set_get hw with ⟨-, h0⟩ | ⟨h0, hw⟩
  · cases h0
  rcases am_st1_get hw with ⟨h1, h2⟩ | ⟨h1, h2, h3⟩
  · subst h2
    rw [show q = (i, sm_v φ w) from Prod.ext h1 e]
    exact List.mem_cons_self
  · refine List.mem_cons_of_mem _ (List.mem_filter.mpr ⟨sm_al_mem.mpr ⟨w, h2, e⟩, ?_⟩)
    rw [e, sm_cat]
    simp only [Bool.and_eq_true, Bool.not_eq_true', beq_eq_false_iff_ne, Bool.and_eq_false_imp, beq_iff_eq, ne_eq]
    exact ⟨h1, h0, fun q1 q2 => h3 ⟨q1, q2⟩⟩
theorem am_en_len (φ : (Nat → Nat) × Option Nat) (vs : List Value) : (lg_sl (sm_s φ vs)).length = (am_en vs).length := by
  induction vs with
  | nil => rfl
  | cons v vs ih =>
    have e1 : lg_sl (sm_s φ (v :: vs)) = (if (sm_v φ v).category = 2 then [.val (sm_v φ v), .second] else [.val (sm_v φ v)]) ++ lg_sl (sm_s φ vs) := rfl
    have e2 : am_en (v :: vs) = (if v.category = 2 then [some v, none] else [some v]) ++ am_en vs := rfl
    rw [e1, e2, List.length_append, List.length_append, ih, sm_cat]
    by_cases h : v.category = 2 <;> simp [h]
theorem am_en_mem (φ : (Nat → Nat) × Option Nat) : ∀ (vs : List Value) (k i : Nat) (v : Value), (am_en vs)[i]? = some (some v) → (k + i, sm_v φ v) ∈ lv_args k (sm_s φ vs) := by
  intro vs
  induction vs with
  | nil => intro k i v h; simp [am_en] at h
  | cons a vs ih =>
    intro k i v h
    have e2 : am_en (a :: vs) = (if a.category = 2 then [some a, none] else [some a]) ++ am_en vs := rfl
    have e3 : lv_args k (sm_s φ (a :: vs)) = (k, sm_v φ a) :: lv_args (if (sm_v φ a).category = 2 then k + 2 else k + 1) (sm_s φ vs) := rfl
    rw [e2] at h
    rw [e3, sm_cat]
    by_cases hc : a.category = 2
    · rw [if_pos hc] at h ⊢
      match i, h with
      | 0, h =>
        simp at h
        subst h
        exact List.mem_cons_self
      | 1, h => simp at h
      | j + 2, h =>
        have h' : (am_en vs)[j]? = some (some v) := by simpa using h
        have := ih (k + 2) j v h'
        rw [show k + 2 + j = k + (j + 2) by omega] at this
        exact List.mem_cons_of_mem _ this
    · rw [if_neg hc] at h ⊢
      match i, h with
      | 0, h =>
        simp at h
        subst h
        exact List.mem_cons_self
      | j + 1, h =>
        have h' : (am_en vs)[j]? = some (some v) := by simpa using h
        have := ih (k + 1) j v h'
        rw [show k + 1 + j = k + (j + 1) by omega] at this
        exact List.mem_cons_of_mem _ this
theorem sm_entry (φ : (Nat → Nat) × Option Nat) {n : Nat} (vs : List Value) (hn : (am_en vs).length ≤ n) : sm_L φ n ((lg_sl (sm_s φ vs) ++ List.replicate (n - (lg_sl (sm_s φ vs)).length) Slot.unset).toArray) (am_entry n vs) := by
  refine ⟨by unfold am_entry; simp; omega, sm_has (lv_entry (sm_s φ vs) (n := n) (by rw [am_en_len]; exact hn)) fun q hq => ?_⟩
  obtain ⟨v, hv, e⟩ := sm_al_mem.mp hq
  unfold am_get am_entry at hv
  have h1 : (am_en vs)[q.1]? = some (some v) := by
    rw [List.getElem?_append] at hv
    by_cases hl : q.1 < (am_en vs).length
    · rw [if_pos hl] at hv
      cases ho : (am_en vs)[q.1]? with
      | none => rw [ho] at hv; cases hv
      | some o =>
        rw [ho] at hv
        cases o with
        | none => cases hv
        | some w => cases hv; rfl
    · rw [if_neg hl, List.getElem?_replicate] at hv
      split at hv
      · rename_i heq
        split at heq <;> cases heq
      · cases hv
  have h2 := am_en_mem φ vs 0 q.1 v h1
  rw [Nat.zero_add] at h2
  rw [show q = (q.1, sm_v φ v) from Prod.ext rfl e]
  exact h2
/-! words -/
def sm_wk (w : Cond) : Bool := (w.onTables && w.keeps) || (match w with
  | .arrayClass _ => true
  | .arrayOver (.object _) => true
  | .fieldLinkNest _ _ _ _ _ _ => true
  | .methodLinkNest _ _ _ _ => true
  | _ => false)
theorem sm_at {s0 s : State} {a0 args : Array Value} {w : Cond} (hW : s0.WarmedH s.vm) (hk : sm_wk w = true) (h : w.before a0 s0 = true) : w.before args s = true := by
  unfold sm_wk at hk
  rw [Bool.or_eq_true] at hk
  rcases hk with hk | hk
  · exact word_at hW (Or.inl hk) h
  · split at hk
    · exact word_at hW (Or.inr ⟨_, rfl⟩) h
    · exact (va_AO.moved hW.alike (va_AO.of h)).use
    · exact va_Nw.use rfl (va_Nw.warmF hW (va_Nw.of rfl h))
    · exact va_Nw.use rfl (va_Nw.warmM hW (va_Nw.of rfl h))
    · cases hk
/-- a word of the tables -/
def tw (w : Cond) : Prop := w ∈ lw_tbl ∧ sm_wk w = true
/-- array kinds -/
def sm_ak (s0 : State) (cA : ClassId) (ty : FieldType) : Prop := ∃ (kA : Class) (comp : ClassId), s0.vm.classes[cA]? = some kA ∧ kA.kind = .array comp ty ∧ ∀ C, ty = .object C → s0.vm.findClass C = some comp
theorem sm_ak.moved {s0 s : State} {cA : ClassId} {ty : FieldType} (hal : s0.vm.Alike s.vm) (h : sm_ak s0 cA ty) : sm_ak s cA ty := by
  obtain ⟨kA, comp, h1, h2, h3⟩ := h
  obtain ⟨k', hk', he⟩ := hal.2.2 _ _ h1
  exact ⟨k', comp, hk', by rw [he]; exact h2, fun C e => by rw [hal.findClass]; exact h3 C e⟩
theorem sm_ak.of {s : State} {cA : ClassId} {ty : FieldType} {cell : Cell} (h : sm_ak s cA ty) (hc : cell.cls = cA) (hv : ∀ k, cell.vm ≠ .statics k) : s.isArrayOf cell ty := by
  obtain ⟨kA, comp, h1, h2, -⟩ := h
  exact ⟨hv, kA, by rw [hc]; exact h1, comp, h2⟩
/-- a cell -/
def sm_C (s0 : State) (φ : (Nat → Nat) × Option Nat) (dC : Nat → ClassId) (dI : Nat → Nat → Nat) (r : Nat) (x : AC) (H : Heap) : Prop :=
  ∃ cell : Cell, H[φ.1 r]? = some cell ∧ cell.vm ≠ .unknown ∧ (∀ k, cell.vm ≠ .statics k) ∧ (sN ≤ r → cell.vm = .none) ∧ match x.1 with
    | .inl ty => sm_ak s0 cell.cls ty ∧ x.2.length ≤ cell.slots.size ∧ cell.slots.size.toInt32 = Int32.ofNat x.2.length ∧ (am_prim ty = true → ∀ v ∈ x.2, fits ty v = true) ∧ ∀ (j : Nat) (v : Value), x.2[j]? = some v → cell.slots[j]? = some (sm_v φ v)
    | .inr ci => ci < cAll ∧ cell.cls = dC ci ∧ x.2.length = cS ci ∧ ∀ (k : Nat) (v : Value), x.2[k]? = some v → cell.slots[dI ci k]? = some (sm_v φ v)
def sm_Z (s0 : State) (o : Option Nat) (B : Nat) (H : Heap) : Prop := (∀ k, k < zNn → va_Z (zC k) (zN k) (zD k) (.int (zV k)) (fun q => B ≤ q) s0 H) ∧ va_Z oC oN oD (va_rf o) (fun q => B ≤ q) s0 H
/-- a heap -/
def sm_H (s0 : State) (φ : (Nat → Nat) × Option Nat) (dC : Nat → ClassId) (dI : Nat → Nat → Nat) (B : Nat) (H : Heap) (h : AH) : Prop :=
  H.size + sN = B + h.length ∧ sN ≤ h.length ∧ (∀ (r : Nat) (x : AC), h[r]? = some x → sm_C s0 φ dC dI r x H) ∧ sm_Z s0 φ.2 B H
def sm_φ (φ : (Nat → Nat) × Option Nat) (B : Nat) : Prop := (∀ r, r < sN → φ.1 r < B) ∧ ∀ r, sN ≤ r → φ.1 r + sN = B + r
theorem sm_C.kept {s0 : State} {φ : (Nat → Nat) × Option Nat} {dC : Nat → ClassId} {dI : Nat → Nat → Nat} {r : Nat} {x : AC} {H H' : Heap} (h : sm_C s0 φ dC dI r x H) (hq : H'[φ.1 r]? = H[φ.1 r]?) : sm_C s0 φ dC dI r x H' := by
  obtain ⟨cell, h1, h2⟩ := h
  exact ⟨cell, hq.trans h1, h2⟩
theorem sm_C.lt {s0 : State} {φ : (Nat → Nat) × Option Nat} {dC : Nat → ClassId} {dI : Nat → Nat → Nat} {r : Nat} {x : AC} {H : Heap} (h : sm_C s0 φ dC dI r x H) : φ.1 r < H.size := by
  obtain ⟨cell, h1, -⟩ := h
  exact (Array.getElem?_eq_some_iff.mp h1).1
theorem sm_H.set {s0 : State} {φ : (Nat → Nat) × Option Nat} {dC : Nat → ClassId} {dI : Nat → Nat → Nat} {B r : Nat} {x : AC} {H H' : Heap} {h : AH} (hφ : sm_φ φ B) (hH : sm_H s0 φ dC dI B H h) (hr : sN ≤ r) (hz : H'.size = H.size) (ho : ∀ q, q ≠ φ.1 r → H'[q]? = H[q]?) (hx : sm_C s0 φ dC dI r x H') : sm_H s0 φ dC dI B H' (h.set r x) := by
  obtain ⟨h1, h2, h3, h4⟩ := hH
  have e := hφ.2 r hr
  refine ⟨by rw [hz, List.length_set]; exact h1, by rw [List.length_set]; exact h2, fun r' x' hx' => ?_, ⟨fun k hk => (h4.1 k hk).kept (fun a ha hA => ho a (fun q => hA (by omega))), h4.2.kept (fun a ha hA => ho a (fun q => hA (by omega)))⟩⟩
  rw [List.getElem?_set] at hx'
  by_cases hrr : r = r'
  · rw [if_pos hrr] at hx'
    split at hx'
    · cases hx'
      subst hrr
      exact hx
    · cases hx'
  · rw [if_neg hrr] at hx'
    refine (h3 r' x' hx').kept (ho _ fun q => ?_)
    by_cases hs : sN ≤ r'
    · have e' := hφ.2 r' hs
      omega
    · have e' := hφ.1 r' (by omega)
      omega
theorem sm_H.push {s0 : State} {φ : (Nat → Nat) × Option Nat} {dC : Nat → ClassId} {dI : Nat → Nat → Nat} {B : Nat} {x : AC} {H H' : Heap} {h : AH} (hφ : sm_φ φ B) (hH : sm_H s0 φ dC dI B H h) (hz : H'.size = H.size + 1) (ho : ∀ q, q < H.size → H'[q]? = H[q]?) (hx : sm_C s0 φ dC dI h.length x H') : sm_H s0 φ dC dI B H' (h ++ [x]) := by
  obtain ⟨h1, h2, h3, h4⟩ := hH
  refine ⟨by rw [hz, List.length_append, List.length_singleton]; omega, by rw [List.length_append]; omega, fun r' x' hx' => ?_, ⟨fun k hk => (h4.1 k hk).kept (fun a ha _ => ho a ha), h4.2.kept (fun a ha _ => ho a ha)⟩⟩
  rw [List.getElem?_append] at hx'
  by_cases hl : r' < h.length
  · rw [if_pos hl] at hx'
    have := h3 r' x' hx'
    exact this.kept (ho _ this.lt)
  · rw [if_neg hl] at hx'
    have hlt : r' - h.length < 1 := (List.getElem?_eq_some_iff.mp hx').1
    have e : r' = h.length := by omega
    subst e
    rw [Nat.sub_self] at hx'
    cases hx'
    exact hx
theorem sm_H.top {s0 : State} {φ : (Nat → Nat) × Option Nat} {dC : Nat → ClassId} {dI : Nat → Nat → Nat} {B : Nat} {H : Heap} {h : AH} (hφ : sm_φ φ B) (hH : sm_H s0 φ dC dI B H h) : φ.1 h.length = H.size := by
  have e := hφ.2 h.length hH.2.1
  have := hH.1
  omega
theorem sm_ff {s0 s : State} {C n d : String} {cf fi : Nat} {kf : Class} {f : Field} (hal : s0.vm.Alike s.vm) (h : s0.fieldFound? C n d = some (cf, kf, fi, f)) : ∃ kf', s.fieldFound? C n d = some (cf, kf', fi, f) := by
  obtain ⟨kf', hi', -⟩ := State.fieldFound?_setVm (s := s0) hal h
  exact ⟨kf', by simpa only [State.fieldFound?, State.vm_setVm] using hi'⟩
/-- what the tables say of the fields -/
def sm_K (s0 : State) (dC : Nat → ClassId) (dI : Nat → Nat → Nat) : Prop :=
  (∀ ci k, ci < cAll → k < cS ci → ∃ (cf : Nat) (kf : Class) (fi : Nat) (f : Field), s0.fieldFound? (cT ci k).1 (cT ci k).2.1 (cT ci k).2.2.1 = some (cf, kf, fi, f) ∧ f.slot = dI ci k ∧ f.isStatic = false) ∧
  (∀ ci, ci < cO → u_Kn s0 (cN ci) (cT ci) (cS ci) (dC ci) (dI ci)) ∧ (∀ ci, ci < cAll → s0.vm.findClass (cN ci) = some (dC ci))
theorem sm_fit {ty : FieldType} {v : Value} (φ : (Nat → Nat) × Option Nat) (h1 : narrow ty v = v) (h2 : fits ty v = true) : narrow ty (sm_v φ v) = sm_v φ v ∧ fits ty (sm_v φ v) = true := by
  cases v with
  | ref r => cases ty <;> simp_all [narrow, fits, sm_v]
  | retAddr r => cases ty <;> simp [fits] at h2
  | _ => exact ⟨h1, h2⟩
theorem sm_def (φ : (Nat → Nat) × Option Nat) (ty : FieldType) : sm_v φ (defaultValue ty) = defaultValue ty := by cases ty <;> rfl
theorem sm_prim_v {ty : FieldType} {v : Value} (φ : (Nat → Nat) × Option Nat) (hp : am_prim ty = true) (hf : fits ty v = true) : sm_v φ v = v := by
  cases v with
  | ref r => cases ty <;> simp_all [am_prim, fits]
  | retAddr r => cases ty <;> simp [fits] at hf
  | _ => rfl
theorem sm_clamp {z : Int32} (hz : ¬ z < 0) : z.toInt = (z.toNatClampNeg : Int) := by
  have hz0 : (0 : Int) ≤ z.toInt := by
    have := Int32.not_lt.mp hz
    simpa using Int32.le_iff_toInt_le.mp this
  show z.toInt = ((z.toInt.toNat : Nat) : Int)
  omega
theorem sm_locs {φ : (Nat → Nat) × Option Nat} {B r k : Nat} {locs : List Loc} (hφ : sm_φ φ B) (hr : sN ≤ r) (hq : ∀ q ∈ locs, B ≤ q.base) : ∀ q ∈ locs ++ [⟨φ.1 r, k⟩], B ≤ q.base := by
  intro q h
  rcases List.mem_append.mp h with h | h
  · exact hq q h
  · rw [List.mem_singleton.mp h]
    have := hφ.2 r hr
    show B ≤ φ.1 r
    omega
/-- a method that may be called -/
def sm_M (cm : Nat) : Prop := tw (.code (mN cm) (mB cm) (mL cm) (mR cm)) ∧ plainName (mN cm).cls = true ∧ ((mN cm).cls ≠ "java/lang/invoke/MethodHandle" ∧ (mN cm).cls ≠ "java/lang/invoke/VarHandle") ∧ (parseMethodDescriptor (mN cm).desc).map (fun d => d.parameters.length) = some (mA cm) ∧ tw (.initialized (mN cm).cls) ∧ mL cm + 19 ≤ kL
def sm_tab (pc : Nat) (lo : Int) (offs : List Int) : List (Int × Int) := offs.zipIdx.map fun q => (lo + (q.2 : Int), (pc : Int) + q.1)
