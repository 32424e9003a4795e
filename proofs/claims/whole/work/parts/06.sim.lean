
/-! THE SIMULATION -/
theorem am_nx_inv {o : Option (List Value)} {pc len : Nat} {ls : AL} {h : AH} {pc' : Nat} {ls' : AL} {st' : List Value} {h' : AH} (hs : am_nx pc len ls h o = some (pc', ls', st', h')) : o = some st' ∧ pc' = pc + len ∧ ls' = ls ∧ h' = h := by
  cases o with
  | none => cases hs
  | some x => cases hs; exact ⟨rfl, rfl, rfl, rfl⟩
theorem am_nh_inv {o : Option (List Value × AH)} {pc len : Nat} {ls : AL} {pc' : Nat} {ls' : AL} {st' : List Value} {h' : AH} (hs : am_nh pc len ls o = some (pc', ls', st', h')) : o = some (st', h') ∧ pc' = pc + len ∧ ls' = ls := by
  cases o with
  | none => cases hs
  | some x => cases hs; exact ⟨rfl, rfl, rfl⟩
theorem am_as_inv {o : Option AH} {pc len : Nat} {ls : AL} {rest : List Value} {pc' : Nat} {ls' : AL} {st' : List Value} {h' : AH} (hs : am_as pc len ls rest o = some (pc', ls', st', h')) : o = some h' ∧ pc' = pc + len ∧ ls' = ls ∧ st' = rest := by
  cases o with
  | none => cases hs
  | some x => cases hs; exact ⟨rfl, rfl, rfl, rfl⟩
theorem am_i_inv {f : Int32 → Value} {st st' : List Value} (h : am_i f st = some st') : ∃ (x : Int32) (r : List Value), st = .int x :: r ∧ st' = f x :: r := by
  unfold am_i at h
  split at h
  · cases h; exact ⟨_, _, rfl, rfl⟩
  · cases h
theorem am_l_inv {f : Int64 → Value} {st st' : List Value} (h : am_l f st = some st') : ∃ (x : Int64) (r : List Value), st = .long x :: r ∧ st' = f x :: r := by
  unfold am_l at h
  split at h
  · cases h; exact ⟨_, _, rfl, rfl⟩
  · cases h
theorem am_f_inv {f : UInt32 → Value} {st st' : List Value} (h : am_f f st = some st') : ∃ (x : UInt32) (r : List Value), st = .float x :: r ∧ st' = f x :: r := by
  unfold am_f at h
  split at h
  · cases h; exact ⟨_, _, rfl, rfl⟩
  · cases h
theorem am_ii_inv {f : Int32 → Int32 → Value} {st st' : List Value} (h : am_ii f st = some st') : ∃ (x y : Int32) (r : List Value), st = .int y :: .int x :: r ∧ st' = f x y :: r := by
  unfold am_ii at h
  split at h
  · cases h; exact ⟨_, _, _, rfl, rfl⟩
  · cases h
theorem am_ll_inv {f : Int64 → Int64 → Value} {st st' : List Value} (h : am_ll f st = some st') : ∃ (x y : Int64) (r : List Value), st = .long y :: .long x :: r ∧ st' = f x y :: r := by
  unfold am_ll at h
  split at h
  · cases h; exact ⟨_, _, _, rfl, rfl⟩
  · cases h
theorem am_li_inv {f : Int64 → Int32 → Value} {st st' : List Value} (h : am_li f st = some st') : ∃ (x : Int64) (y : Int32) (r : List Value), st = .int y :: .long x :: r ∧ st' = f x y :: r := by
  unfold am_li at h
  split at h
  · cases h; exact ⟨_, _, _, rfl, rfl⟩
  · cases h
theorem am_iid_inv {f : Int32 → Int32 → Value} {st st' : List Value} (h : am_iid f st = some st') : ∃ (x y : Int32) (r : List Value), st = .int y :: .int x :: r ∧ ¬ y = 0 ∧ st' = f x y :: r := by
  unfold am_iid at h
  split at h
  · split at h
    · cases h
    · rename_i hy
      cases h; exact ⟨_, _, _, rfl, hy, rfl⟩
  · cases h
theorem am_lld_inv {f : Int64 → Int64 → Value} {st st' : List Value} (h : am_lld f st = some st') : ∃ (x y : Int64) (r : List Value), st = .long y :: .long x :: r ∧ ¬ y = 0 ∧ st' = f x y :: r := by
  unfold am_lld at h
  split at h
  · split at h
    · cases h
    · rename_i hy
      cases h; exact ⟨_, _, _, rfl, hy, rfl⟩
  · cases h

theorem sm_off (pc : Nat) (x d : Int) (ps : List (Int × Int)) : Op.lookupswitch.offset (ps.map fun q => (q.1, (pc : Int) + q.2)) ((pc : Int) + d) x = (pc : Int) + Op.lookupswitch.offset ps d x := by
  induction ps with
  | nil => rfl
  | cons a r ih =>
    obtain ⟨a, o⟩ := a
    rw [List.map_cons, Op.lookupswitch.offset_cons, Op.lookupswitch.offset_cons, ih]
    by_cases h : a = x <;> simp [h]
theorem sm_off0 {x d : Int} {ps : List (Int × Int)} (hd : 0 ≤ d) (hp : ∀ q ∈ ps, 0 ≤ q.2) : 0 ≤ Op.lookupswitch.offset ps d x := by
  induction ps with
  | nil => exact hd
  | cons a r ih =>
    obtain ⟨a, o⟩ := a
    rw [Op.lookupswitch.offset_cons]
    split
    · exact hp (a, o) List.mem_cons_self
    · exact ih fun q hq => hp q (List.mem_cons_of_mem _ hq)
theorem sm_offT (pc : Nat) (x d lo : Int) : ∀ (offs : List Int) (n : Nat), (¬ (lo + n ≤ x ∧ x < lo + n + offs.length) → Op.lookupswitch.offset ((offs.zipIdx n).map fun q => (lo + (q.2 : Int), (pc : Int) + q.1)) d x = d) ∧
    ∀ o, lo + n ≤ x → offs[(x - lo - n).toNat]? = some o → Op.lookupswitch.offset ((offs.zipIdx n).map fun q => (lo + (q.2 : Int), (pc : Int) + q.1)) d x = (pc : Int) + o := by
  intro offs
  induction offs with
  | nil =>
    intro n
    exact ⟨fun _ => rfl, fun o _ h => by simp at h⟩
  | cons a r ih =>
    intro n
    rw [List.zipIdx_cons, List.map_cons, Op.lookupswitch.offset_cons]
    obtain ⟨i1, i2⟩ := ih (n + 1)
    refine ⟨fun h => ?_, fun o h1 h2 => ?_⟩
    · rw [if_neg (fun q => h ⟨by simp at q ⊢; omega, by simp at q ⊢; omega⟩)]
      exact i1 fun q => h ⟨by simp at q ⊢; omega, by simp at q ⊢; omega⟩
    · by_cases hx : lo + (n : Int) = x
      · rw [if_pos hx]
        rw [show (x - lo - n).toNat = 0 by omega] at h2
        simp at h2
        rw [h2]
      · rw [if_neg hx]
        refine i2 o (by simp; omega) ?_
        rw [show (x - lo - n).toNat = (x - lo - ((n + 1 : Nat) : Int)).toNat + 1 by simp; omega] at h2
        simpa using h2
section SONE
variable {p : Program} {l : Launch} {e : Env} {R : Room} {s : State} {m : MethodId} {args : Array Value} {below : List Frame} {meth : Method} {c : Code} {Q : State → Prop}
variable {s0 : State} {φ : (Nat → Nat) × Option Nat} {dC : Nat → ClassId} {dI : Nat → Nat → Nat} {B nL cells slots cells' slots' mid pc pc' d len : Nat} {a0 : Array Value} {ls ls' : AL} {st st' : List Value} {h h' : AH} {i : Instr}
theorem am_sz_app (h : AH) (x : AC) : am_sz (h ++ [x]) = am_sz h + x.2.length := by simp [am_sz]
theorem am_sz_set {h : AH} {r : Nat} {t : FieldType ⊕ Nat} {vs vs' : List Value} (hr : h[r]? = some (t, vs)) (hl : vs'.length = vs.length) : am_sz (h.set r (t, vs')) = am_sz h := by
  induction h generalizing r with
  | nil => simp at hr
  | cons a h ih =>
    cases r with
    | zero =>
      simp at hr
      subst hr
      simp [am_sz, hl]
    | succ r =>
      simp at hr
      show a.2.length + am_sz (h.set r (t, vs')) = a.2.length + am_sz h
      rw [ih hr]

theorem am_if_inv {kc : ClassFile.Cond} {t : Int} (hs : am_step d (.ifCond kc t) 3 pc ls st h = some (pc', ls', st', h')) : ∃ (x : Int32) (r : List Value), st = .int x :: r ∧ pc' = (if am_c1 kc x = true then t.toNat else pc + 3) ∧ ls' = ls ∧ st' = r ∧ h' = h := by
  match st, hs with
  | .int x :: r, hs =>
    replace hs : some ((if am_c1 kc x = true then t.toNat else pc + 3), ls, r, h) = some (pc', ls', st', h') := hs
    cases hs
    exact ⟨x, _, rfl, rfl, rfl, rfl, rfl⟩
  | [], hs => cases hs
  | .long _ :: _, hs => cases hs
  | .float _ :: _, hs => cases hs
  | .double _ :: _, hs => cases hs
  | .null :: _, hs => cases hs
  | .ref _ :: _, hs => cases hs
  | .retAddr _ :: _, hs => cases hs
theorem am_ic_inv {kc : ClassFile.Cond} {t : Int} (hs : am_step d (.if_icmp kc t) 3 pc ls st h = some (pc', ls', st', h')) : ∃ (x y : Int32) (r : List Value), st = .int y :: .int x :: r ∧ pc' = (if am_c2 kc x y = true then t.toNat else pc + 3) ∧ ls' = ls ∧ st' = r ∧ h' = h := by
  replace hs : (match (generalizing := false) (match (generalizing := false) st with | .int y :: .int x :: r => some (if am_c2 kc x y = true then t.toNat else pc + 3, r) | _ => none) with | some (pc', st') => some (pc', ls, st', h) | none => none) = some (pc', ls', st', h') := hs
  split at hs
  · rename_i q1 q2 hbr
    split at hbr
    · cases hbr
      cases hs
      exact ⟨_, _, _, rfl, rfl, rfl, rfl, rfl⟩
    · cases hbr
  · cases hs
theorem am_sw_inv {dd : Int} {ps : Array (Int × Int)} (hs : am_step d (.lookupswitch dd ps) len pc ls st h = some (pc', ls', st', h')) : ∃ (x : Int32) (r : List Value), st = .int x :: r ∧ pc' = (Op.lookupswitch.offset ps.toList dd x.toInt).toNat ∧ ls' = ls ∧ st' = r ∧ h' = h := by
  replace hs : (match (generalizing := false) (match (generalizing := false) st with | .int x :: r => some ((Op.lookupswitch.offset ps.toList dd x.toInt).toNat, r) | _ => none) with | some (pc', st') => some (pc', ls, st', h) | none => none) = some (pc', ls', st', h') := hs
  split at hs
  · rename_i q1 q2 hbr
    split at hbr
    · cases hbr
      cases hs
      exact ⟨_, _, rfl, rfl, rfl, rfl, rfl⟩
    · cases hbr
  · cases hs
theorem am_putf_sz {x : Nat} (ho : am_putf x h st = some (st', h')) : h'.length = h.length ∧ am_sz h' = am_sz h := by
  unfold am_putf at ho
  split at ho
  · split at ho
    · rename_i hr
      split at ho
      · cases ho
        exact ⟨List.length_set .., am_sz_set hr (List.length_set ..)⟩
      · cases ho
    · cases ho
  · cases ho
theorem am_cp_len {f g : List Value} {sp dp n : Nat} (h1 : sp + n ≤ f.length) (h2 : dp + n ≤ g.length) : (am_cp f g sp dp n).length = g.length := by
  unfold am_cp
  simp
  omega
theorem am_copy_inv (ho : am_copy d h st = some (st', h')) : ∃ (n dp sp : Int32) (a b : Nat) (ty : FieldType) (f g : List Value), st = .int n :: .int dp :: .ref b :: .int sp :: .ref a :: st' ∧ h[a]? = some (.inl ty, f) ∧ h[b]? = some (.inl ty, g) ∧ 1 ≤ d ∧ am_cat st' ≤ 8 ∧ am_prim ty = true ∧ ¬ n < 0 ∧ ¬ dp < 0 ∧ ¬ sp < 0 ∧ sp.toNatClampNeg + n.toNatClampNeg ≤ f.length ∧ dp.toNatClampNeg + n.toNatClampNeg ≤ g.length ∧ sN ≤ b ∧ h' = h.set b (.inl ty, am_cp f g sp.toNatClampNeg dp.toNatClampNeg n.toNatClampNeg) := by
  unfold am_copy at ho
  split at ho
  · rename_i n dp b sp a rest
    split at ho
    · rename_i t0 f t1 g ha hb
      split at ho
      · rename_i hc
        obtain ⟨c1, c2, c3, c4, c5, c6, c7, c8, c9, c10⟩ := hc
        subst c3
        cases ho
        exact ⟨n, dp, sp, a, b, t0, f, g, rfl, ha, hb, c1, c2, c4, c5, c6, c7, c8, c9, c10, rfl⟩
      · cases ho
    · cases ho
  · cases ho
theorem am_copy_sz (ho : am_copy d h st = some (st', h')) : h'.length = h.length ∧ am_sz h' = am_sz h := by
  obtain ⟨n, dp, sp, a, b, ty, f, g, -, ha, hb, -, -, -, -, -, -, h1, h2, -, rfl⟩ := am_copy_inv ho
  exact ⟨List.length_set .., am_sz_set hb (am_cp_len h1 h2)⟩
theorem am_cp_get {f g : List Value} {sp dp n j : Nat} (h1 : sp + n ≤ f.length) (h2 : dp + n ≤ g.length) : (am_cp f g sp dp n)[j]? = if dp ≤ j ∧ j < dp + n then f[sp + (j - dp)]? else g[j]? := by
  unfold am_cp
  rw [List.append_assoc, List.getElem?_append, List.length_take, Nat.min_eq_left (by omega)]
  by_cases hj : j < dp
  · rw [if_pos hj, if_neg (by omega), List.getElem?_take, if_pos hj]
  · rw [if_neg hj, List.getElem?_append, List.length_take, List.length_drop, Nat.min_eq_left (by omega)]
    by_cases hj2 : j < dp + n
    · rw [if_pos (by omega), if_pos ⟨by omega, hj2⟩, List.getElem?_take, if_pos (by omega), List.getElem?_drop]
    · rw [if_neg (by omega), if_neg (fun q => hj2 q.2), List.getElem?_drop]
      congr 1
      omega
theorem sm_pr {ty : FieldType} {r : Nat} (h : am_prim ty = true) : fits ty (.ref r) = false := by cases ty <;> first | rfl | cases h
/-- System.arraycopy -/
theorem sm_copy (X : sm_X p R s m meth c s0 a0 φ dC dI B mid d) (hF : sm_F mid pc .monitorexit 3) (ho : am_copy d h st = some (st', h')) (k : sm_G p l e R s m args below meth c Q s0 φ dC dI B nL cells slots (pc + 3) ls st' h') (hnL : nL = mL mid) : sm_G p l e R s m args below meth c Q s0 φ dC dI B nL cells slots pc ls st h := by
  obtain ⟨hx, hb, hml, hown, hW, hT, hK, hφ, hSt, hRf, hRl, -⟩ := id X
  obtain ⟨-, x, hd, w1, w2, w3, w4⟩ := hF
  have hal := hW.alike
  obtain ⟨n, dp, sp, a, b, ty, f, g, rfl, ha, hbb, hd1, hcat, hprim, hn, hdp, hsp, hf, hg, hsb, rfl⟩ := am_copy_inv ho
  intro H locs cls hH hL hq T hT' Xs
  obtain ⟨cs, s1, s2, s3, s4, s5, s6, s7, s8, s9⟩ := hH.2.2.1 a _ ha
  obtain ⟨cd, d1, d2, d3, d4, d5, d6, d7, d8, d9⟩ := hH.2.2.1 b _ hbb
  have s6 : f.length ≤ cs.slots.size := s6
  have d6 : g.length ≤ cd.slots.size := d6
  obtain ⟨ks, c0, k1, k2, -⟩ := s5.moved hal
  obtain ⟨kd, c1, k3, k4, -⟩ := d5.moved hal
  have hrk : refKind ty = false := by cases ty <;> first | rfl | cases hprim
  obtain ⟨vm', X', step⟩ := Xs.arraycopy hx hown (X.w w1) (X.w w2) (X.w w3) (X.w w4) (src := φ.1 a) (dst := φ.1 b) (cs := cs) (cd := cd) (srcPos := sp) (destPos := dp) (n := n) (by rw [hT']; exact s1) (by rw [hT']; exact d1)
    s3 d3 s2 d2 k1 k3 k2 k4 (by simp [hrk]) hsp hdp hn (by rw [sm_clamp hsp, sm_clamp hn]; omega) (by rw [sm_clamp hdp, sm_clamp hn]; omega)
    (fun vm₁ _ i hi => by
      obtain ⟨v, hv⟩ : ∃ v, f[sp.toNatClampNeg + i]? = some v := ⟨_, List.getElem?_eq_getElem (by omega)⟩
      have hfit := s8 hprim v (List.mem_of_getElem? hv)
      have e : cs.slots.getD (sp.toNatClampNeg + i) .null = v := by
        rw [Array.getD_eq_getD_getElem?, s9 _ v hv, sm_prim_v φ hprim hfit]
        rfl
      rw [e]
      refine ⟨hfit, ?_⟩
      cases v with
      | ref r => exact absurd hfit (by rw [sm_pr hprim]; decide)
      | _ => trivial)
    (g := F0 m pc cls (sm_s φ (.int n :: .int dp :: .ref b :: .int sp :: .ref a :: st'))) rfl (by rw [hml]; exact hL.2.1.trans hnL) (rest := sm_s φ st') rfl (by rw [hb]; exact hd) (Nat.le_trans hd1 hRf)
    (by
      show 2 * 0 + ((sm_s φ st').map fun v => v.category).sum + _ ≤ R.locals
      rw [sm_cats]
      have := Nat.mul_le_mul_right kL hd1
      have := kL_ok
      omega)
  have hl : φ.1 b < H.size := (Array.getElem?_eq_some_iff.mp d1).1
  obtain ⟨z1, z2, z3, -⟩ := Cell.storeRun_facts cd dp.toNatClampNeg (cs.stretch sp.toNatClampNeg n.toNatClampNeg)
  have hsl : (cs.stretch sp.toNatClampNeg n.toNatClampNeg).length = n.toNatClampNeg := by simp [Cell.stretch]
  have hN : sm_H s0 φ dC dI B (H.setIfInBounds (φ.1 b) (copied cs cd sp dp n)) (h.set b (.inl ty, am_cp f g sp.toNatClampNeg dp.toNatClampNeg n.toNatClampNeg)) := by
    refine hH.set hφ hsb (by simp) (fun q hq => by simp [Array.getElem?_setIfInBounds, Ne.symm hq]) ⟨copied cs cd sp dp n, by simp [Array.getElem?_setIfInBounds, hl], by rw [z2]; exact d2, fun q => by rw [z2]; exact d3 q, fun q => by rw [z2]; exact d4 q, by rw [z1]; exact d5, ?_, ?_, fun _ v hv => ?_, fun j v hv => ?_⟩
    · rw [z3, am_cp_len hf hg]; exact d6
    · rw [z3, am_cp_len hf hg]; exact d7
    · unfold am_cp at hv
      rcases List.mem_append.mp hv with hv | hv
      · rcases List.mem_append.mp hv with hv | hv
        · exact d8 hprim v (List.mem_of_mem_take hv)
        · exact s8 hprim v (List.mem_of_mem_drop (List.mem_of_mem_take hv))
      · exact d8 hprim v (List.mem_of_mem_drop hv)
    · rw [am_cp_get hf hg] at hv
      rw [Cell.storeRun_get _ _ _ _ (by rw [hsl]; omega), hsl]
      by_cases hj : dp.toNatClampNeg ≤ j ∧ j < dp.toNatClampNeg + n.toNatClampNeg
      · rw [if_pos hj] at hv ⊢
        have := s9 _ v hv
        unfold Cell.stretch
        rw [List.getElem?_map, List.getElem?_range (by omega)]
        show some (cs.slots.getD _ _) = _
        rw [Array.getD_eq_getD_getElem?, this]
        rfl
      · rw [if_neg hj] at hv ⊢
        exact d9 j v hv
  obtain ⟨t, a1, b1⟩ := k (H.setIfInBounds (φ.1 b) (copied cs cd sp dp n)) _ cls hN hL (fun q hq' => by
      rcases List.mem_append.mp hq' with h | h
      · exact hq q h
      · obtain ⟨z, -, hz⟩ := List.mem_map.mp h
        rw [← hz]
        have := hφ.2 b hsb
        show B ≤ φ.1 b
        omega) _ (by rw [← hT']; rfl) X'
  exact ⟨t, step t a1, b1⟩

set_option maxHeartbeats 4000000 in
theorem sm_one (X : sm_X p R s m meth c s0 a0 φ dC dI B mid d) (hnL : nL = mL mid) (hF : sm_F mid pc i len) (hs : am_step d i len pc ls st h = some (pc', ls', st', h')) (hc : cells' + h.length = cells + h'.length) (hz : slots' + am_sz h = slots + am_sz h') (hcR : cells' ≤ R.cells) (hsR : slots' ≤ R.slots) (k : sm_G p l e R s m args below meth c Q s0 φ dC dI B nL cells' slots' pc' ls' st' h') : sm_G p l e R s m args below meth c Q s0 φ dC dI B nL cells slots pc ls st h := by
  obtain ⟨hx, hb, hml, hown, hW, hT, hK, hφ, hSt, hRf, hRl, hini⟩ := id X
  rw [← hnL] at hml
  have hal := hW.alike
  cases i with
  | iadd =>
    obtain ⟨hd, rfl⟩ := hF
    obtain ⟨ho, rfl, rfl, rfl⟩ := am_nx_inv hs
    obtain ⟨x, y, r, rfl, rfl⟩ := am_ii_inv ho
    obtain rfl : cells' = cells := by omega
    obtain rfl : slots' = slots := by omega
    exact fun H locs cls hH hL hq => lv_iadd hx hb hd (k H locs cls hH hL hq)
  | isub =>
    obtain ⟨hd, rfl⟩ := hF
    obtain ⟨ho, rfl, rfl, rfl⟩ := am_nx_inv hs
    obtain ⟨x, y, r, rfl, rfl⟩ := am_ii_inv ho
    obtain rfl : cells' = cells := by omega
    obtain rfl : slots' = slots := by omega
    exact fun H locs cls hH hL hq => lv_isub hx hb hd (k H locs cls hH hL hq)
  | imul =>
    obtain ⟨hd, rfl⟩ := hF
    obtain ⟨ho, rfl, rfl, rfl⟩ := am_nx_inv hs
    obtain ⟨x, y, r, rfl, rfl⟩ := am_ii_inv ho
    obtain rfl : cells' = cells := by omega
    obtain rfl : slots' = slots := by omega
    exact fun H locs cls hH hL hq => lv_imul hx hb hd (k H locs cls hH hL hq)
  | iand =>
    obtain ⟨hd, rfl⟩ := hF
    obtain ⟨ho, rfl, rfl, rfl⟩ := am_nx_inv hs
    obtain ⟨x, y, r, rfl, rfl⟩ := am_ii_inv ho
    obtain rfl : cells' = cells := by omega
    obtain rfl : slots' = slots := by omega
    exact fun H locs cls hH hL hq => lv_iand hx hb hd (k H locs cls hH hL hq)
  | ior =>
    obtain ⟨hd, rfl⟩ := hF
    obtain ⟨ho, rfl, rfl, rfl⟩ := am_nx_inv hs
    obtain ⟨x, y, r, rfl, rfl⟩ := am_ii_inv ho
    obtain rfl : cells' = cells := by omega
    obtain rfl : slots' = slots := by omega
    exact fun H locs cls hH hL hq => lv_ior hx hb hd (k H locs cls hH hL hq)
  | ixor =>
    obtain ⟨hd, rfl⟩ := hF
    obtain ⟨ho, rfl, rfl, rfl⟩ := am_nx_inv hs
    obtain ⟨x, y, r, rfl, rfl⟩ := am_ii_inv ho
    obtain rfl : cells' = cells := by omega
    obtain rfl : slots' = slots := by omega
    exact fun H locs cls hH hL hq => lv_ixor hx hb hd (k H locs cls hH hL hq)
  | ishl =>
    obtain ⟨hd, rfl⟩ := hF
    obtain ⟨ho, rfl, rfl, rfl⟩ := am_nx_inv hs
    obtain ⟨x, y, r, rfl, rfl⟩ := am_ii_inv ho
    obtain rfl : cells' = cells := by omega
    obtain rfl : slots' = slots := by omega
    exact fun H locs cls hH hL hq => lv_ishl hx hb hd (k H locs cls hH hL hq)
  | ishr =>
    obtain ⟨hd, rfl⟩ := hF
    obtain ⟨ho, rfl, rfl, rfl⟩ := am_nx_inv hs
    obtain ⟨x, y, r, rfl, rfl⟩ := am_ii_inv ho
    obtain rfl : cells' = cells := by omega
    obtain rfl : slots' = slots := by omega
    exact fun H locs cls hH hL hq => lv_ishr hx hb hd (k H locs cls hH hL hq)
  | iushr =>
    obtain ⟨hd, rfl⟩ := hF
    obtain ⟨ho, rfl, rfl, rfl⟩ := am_nx_inv hs
    obtain ⟨x, y, r, rfl, rfl⟩ := am_ii_inv ho
    obtain rfl : cells' = cells := by omega
    obtain rfl : slots' = slots := by omega
    exact fun H locs cls hH hL hq => lv_iushr hx hb hd rfl (k H locs cls hH hL hq)
  | idiv =>
    obtain ⟨hd, rfl⟩ := hF
    obtain ⟨ho, rfl, rfl, rfl⟩ := am_nx_inv hs
    obtain ⟨x, y, r, rfl, hy, rfl⟩ := am_iid_inv ho
    obtain rfl : cells' = cells := by omega
    obtain rfl : slots' = slots := by omega
    exact fun H locs cls hH hL hq => lv_idiv hx hb hd hy (k H locs cls hH hL hq)
  | irem =>
    obtain ⟨hd, rfl⟩ := hF
    obtain ⟨ho, rfl, rfl, rfl⟩ := am_nx_inv hs
    obtain ⟨x, y, r, rfl, hy, rfl⟩ := am_iid_inv ho
    obtain rfl : cells' = cells := by omega
    obtain rfl : slots' = slots := by omega
    exact fun H locs cls hH hL hq => lv_irem hx hb hd hy (k H locs cls hH hL hq)
  | ineg =>
    obtain ⟨hd, rfl⟩ := hF
    obtain ⟨ho, rfl, rfl, rfl⟩ := am_nx_inv hs
    obtain ⟨x, r, rfl, rfl⟩ := am_i_inv ho
    obtain rfl : cells' = cells := by omega
    obtain rfl : slots' = slots := by omega
    exact fun H locs cls hH hL hq => lv_ineg hx hb hd (k H locs cls hH hL hq)
  | ladd =>
    obtain ⟨hd, rfl⟩ := hF
    obtain ⟨ho, rfl, rfl, rfl⟩ := am_nx_inv hs
    obtain ⟨x, y, r, rfl, rfl⟩ := am_ll_inv ho
    obtain rfl : cells' = cells := by omega
    obtain rfl : slots' = slots := by omega
    exact fun H locs cls hH hL hq => lv_ladd hx hb hd (k H locs cls hH hL hq)
  | lsub =>
    obtain ⟨hd, rfl⟩ := hF
    obtain ⟨ho, rfl, rfl, rfl⟩ := am_nx_inv hs
    obtain ⟨x, y, r, rfl, rfl⟩ := am_ll_inv ho
    obtain rfl : cells' = cells := by omega
    obtain rfl : slots' = slots := by omega
    exact fun H locs cls hH hL hq => lv_lsub hx hb hd (k H locs cls hH hL hq)
  | lmul =>
    obtain ⟨hd, rfl⟩ := hF
    obtain ⟨ho, rfl, rfl, rfl⟩ := am_nx_inv hs
    obtain ⟨x, y, r, rfl, rfl⟩ := am_ll_inv ho
    obtain rfl : cells' = cells := by omega
    obtain rfl : slots' = slots := by omega
    exact fun H locs cls hH hL hq => lv_lmul hx hb hd (k H locs cls hH hL hq)
  | land =>
    obtain ⟨hd, rfl⟩ := hF
    obtain ⟨ho, rfl, rfl, rfl⟩ := am_nx_inv hs
    obtain ⟨x, y, r, rfl, rfl⟩ := am_ll_inv ho
    obtain rfl : cells' = cells := by omega
    obtain rfl : slots' = slots := by omega
    exact fun H locs cls hH hL hq => lv_land hx hb hd (k H locs cls hH hL hq)
  | lor =>
    obtain ⟨hd, rfl⟩ := hF
    obtain ⟨ho, rfl, rfl, rfl⟩ := am_nx_inv hs
    obtain ⟨x, y, r, rfl, rfl⟩ := am_ll_inv ho
    obtain rfl : cells' = cells := by omega
    obtain rfl : slots' = slots := by omega
    exact fun H locs cls hH hL hq => lv_lor hx hb hd (k H locs cls hH hL hq)
  | lxor =>
    obtain ⟨hd, rfl⟩ := hF
    obtain ⟨ho, rfl, rfl, rfl⟩ := am_nx_inv hs
    obtain ⟨x, y, r, rfl, rfl⟩ := am_ll_inv ho
    obtain rfl : cells' = cells := by omega
    obtain rfl : slots' = slots := by omega
    exact fun H locs cls hH hL hq => lv_lxor hx hb hd (k H locs cls hH hL hq)
  | lcmp =>
    obtain ⟨hd, rfl⟩ := hF
    obtain ⟨ho, rfl, rfl, rfl⟩ := am_nx_inv hs
    obtain ⟨x, y, r, rfl, rfl⟩ := am_ll_inv ho
    obtain rfl : cells' = cells := by omega
    obtain rfl : slots' = slots := by omega
    exact fun H locs cls hH hL hq => W.lcmp hx hb hd (k H locs cls hH hL hq)
  | ldiv =>
    obtain ⟨hd, rfl⟩ := hF
    obtain ⟨ho, rfl, rfl, rfl⟩ := am_nx_inv hs
    obtain ⟨x, y, r, rfl, hy, rfl⟩ := am_lld_inv ho
    obtain rfl : cells' = cells := by omega
    obtain rfl : slots' = slots := by omega
    exact fun H locs cls hH hL hq => lv_ldiv hx hb hd hy (k H locs cls hH hL hq)
  | lrem =>
    obtain ⟨hd, rfl⟩ := hF
    obtain ⟨ho, rfl, rfl, rfl⟩ := am_nx_inv hs
    obtain ⟨x, y, r, rfl, hy, rfl⟩ := am_lld_inv ho
    obtain rfl : cells' = cells := by omega
    obtain rfl : slots' = slots := by omega
    exact fun H locs cls hH hL hq => lv_lrem hx hb hd hy (k H locs cls hH hL hq)
  | lneg =>
    obtain ⟨hd, rfl⟩ := hF
    obtain ⟨ho, rfl, rfl, rfl⟩ := am_nx_inv hs
    obtain ⟨x, r, rfl, rfl⟩ := am_l_inv ho
    obtain rfl : cells' = cells := by omega
    obtain rfl : slots' = slots := by omega
    exact fun H locs cls hH hL hq => lv_lneg hx hb hd (k H locs cls hH hL hq)
  | lshl =>
    obtain ⟨hd, rfl⟩ := hF
    obtain ⟨ho, rfl, rfl, rfl⟩ := am_nx_inv hs
    obtain ⟨x, y, r, rfl, rfl⟩ := am_li_inv ho
    obtain rfl : cells' = cells := by omega
    obtain rfl : slots' = slots := by omega
    exact fun H locs cls hH hL hq => lv_lshl hx hb hd rfl (k H locs cls hH hL hq)
  | lshr =>
    obtain ⟨hd, rfl⟩ := hF
    obtain ⟨ho, rfl, rfl, rfl⟩ := am_nx_inv hs
    obtain ⟨x, y, r, rfl, rfl⟩ := am_li_inv ho
    obtain rfl : cells' = cells := by omega
    obtain rfl : slots' = slots := by omega
    exact fun H locs cls hH hL hq => lv_lshr hx hb hd rfl (k H locs cls hH hL hq)
  | lushr =>
    obtain ⟨hd, rfl⟩ := hF
    obtain ⟨ho, rfl, rfl, rfl⟩ := am_nx_inv hs
    obtain ⟨x, y, r, rfl, rfl⟩ := am_li_inv ho
    obtain rfl : cells' = cells := by omega
    obtain rfl : slots' = slots := by omega
    exact fun H locs cls hH hL hq => lv_lushr hx hb hd rfl (k H locs cls hH hL hq)
  | i2l =>
    obtain ⟨hd, rfl⟩ := hF
    obtain ⟨ho, rfl, rfl, rfl⟩ := am_nx_inv hs
    obtain ⟨x, r, rfl, rfl⟩ := am_i_inv ho
    obtain rfl : cells' = cells := by omega
    obtain rfl : slots' = slots := by omega
    exact fun H locs cls hH hL hq => lv_i2l hx hb hd rfl (k H locs cls hH hL hq)
  | i2b =>
    obtain ⟨hd, rfl⟩ := hF
    obtain ⟨ho, rfl, rfl, rfl⟩ := am_nx_inv hs
    obtain ⟨x, r, rfl, rfl⟩ := am_i_inv ho
    obtain rfl : cells' = cells := by omega
    obtain rfl : slots' = slots := by omega
    exact fun H locs cls hH hL hq => lv_i2b hx hb hd rfl (k H locs cls hH hL hq)
  | i2s =>
    obtain ⟨hd, rfl⟩ := hF
    obtain ⟨ho, rfl, rfl, rfl⟩ := am_nx_inv hs
    obtain ⟨x, r, rfl, rfl⟩ := am_i_inv ho
    obtain rfl : cells' = cells := by omega
    obtain rfl : slots' = slots := by omega
    exact fun H locs cls hH hL hq => lv_i2s hx hb hd rfl (k H locs cls hH hL hq)
  | i2c =>
    obtain ⟨hd, rfl⟩ := hF
    obtain ⟨ho, rfl, rfl, rfl⟩ := am_nx_inv hs
    obtain ⟨x, r, rfl, rfl⟩ := am_i_inv ho
    obtain rfl : cells' = cells := by omega
    obtain rfl : slots' = slots := by omega
    exact fun H locs cls hH hL hq => lv_i2c hx hb hd rfl (k H locs cls hH hL hq)
  | l2i =>
    obtain ⟨hd, rfl⟩ := hF
    obtain ⟨ho, rfl, rfl, rfl⟩ := am_nx_inv hs
    obtain ⟨x, r, rfl, rfl⟩ := am_l_inv ho
    obtain rfl : cells' = cells := by omega
    obtain rfl : slots' = slots := by omega
    exact fun H locs cls hH hL hq => lv_l2i hx hb hd rfl (k H locs cls hH hL hq)
  | i2f =>
    obtain ⟨hd, rfl⟩ := hF
    obtain ⟨ho, rfl, rfl, rfl⟩ := am_nx_inv hs
    obtain ⟨x, r, rfl, rfl⟩ := am_i_inv ho
    obtain rfl : cells' = cells := by omega
    obtain rfl : slots' = slots := by omega
    exact fun H locs cls hH hL hq => lv_i2f hx hb hd (k H locs cls hH hL hq)
  | f2l =>
    obtain ⟨hd, rfl⟩ := hF
    obtain ⟨ho, rfl, rfl, rfl⟩ := am_nx_inv hs
    obtain ⟨x, r, rfl, rfl⟩ := am_f_inv ho
    obtain rfl : cells' = cells := by omega
    obtain rfl : slots' = slots := by omega
    exact fun H locs cls hH hL hq => lv_f2l hx hb hd (k H locs cls hH hL hq)
  | aconst_null =>
    obtain ⟨hd, rfl⟩ := hF
    replace hs : some (pc + 1, ls, Value.null :: st, h) = some (pc', ls', st', h') := hs
    cases hs
    obtain rfl : cells' = cells := by omega
    obtain rfl : slots' = slots := by omega
    exact fun H locs cls hH hL hq => lv_null hx hb hd (k H locs cls hH hL hq)
  | iconst n =>
    replace hs : some (pc + len, ls, Value.int (Int32.ofInt n) :: st, h) = some (pc', ls', st', h') := hs
    cases hs
    obtain rfl : cells' = cells := by omega
    obtain rfl : slots' = slots := by omega
    rcases hF with ⟨hd, rfl⟩ | ⟨hd, rfl, e1⟩ | ⟨hd, rfl, e1⟩ | ⟨x, hd, rfl, w⟩
    · exact fun H locs cls hH hL hq => lv_iconst hx hb hd rfl (k H locs cls hH hL hq)
    · exact fun H locs cls hH hL hq => lv_bipush hx hb hd e1 (k H locs cls hH hL hq)
    · exact fun H locs cls hH hL hq => lv_sipush hx hb hd e1 (k H locs cls hH hL hq)
    · exact fun H locs cls hH hL hq => lv_ldc hx hb hown (X.w w) hd (k H locs cls hH hL hq)
  | ldc2_w n =>
    replace hs : some (pc + len, ls, Value.long (Int64.ofNat n) :: st, h) = some (pc', ls', st', h') := hs
    cases hs
    obtain rfl : cells' = cells := by omega
    obtain rfl : slots' = slots := by omega
    rcases hF with ⟨kk, hd, rfl, e1⟩ | ⟨x, hd, rfl, w⟩
    · exact fun H locs cls hH hL hq => lv_lconst hx hb hd e1 (k H locs cls hH hL hq)
    · exact fun H locs cls hH hL hq => lv_ldc2 hx hb hown (X.w w) hd (k H locs cls hH hL hq)
  | ldc r =>
    obtain ⟨x, hd, rfl, hm⟩ := hF
    replace hs : some (pc + 2, ls, Value.ref r :: st, h) = some (pc', ls', st', h') := hs
    cases hs
    obtain rfl : cells' = cells := by omega
    obtain rfl : slots' = slots := by omega
    obtain ⟨tx, hz⟩ := hSt _ hm
    exact fun H locs cls hH hL hq => va_ldcS hx hb hown (hz.warm hW) hd (k H locs cls hH hL hq)
  | getstatic z =>
    obtain ⟨x, hd, rfl, hzk, w⟩ := hF
    replace hs : some (pc + 3, ls, Value.int (zV z) :: st, h) = some (pc', ls', st', h') := hs
    cases hs
    obtain rfl : cells' = cells := by omega
    obtain rfl : slots' = slots := by omega
    intro H locs cls hH hL hq
    obtain ⟨cf, kf, fi, f, a, cell, q1, q2, q3, q4, q5, q6, q7, q8⟩ := (hH.2.2.2.1 z hzk).moved hal
    exact W.gets hx hb hown (X.w w) q1 q2 q3 q4 q5 (fun q => by rw [q] at q6; cases q6) q7 rfl hd (k H locs cls hH hL hq)
  | nop =>
    obtain ⟨rfl, x, hd, w⟩ := hF
    replace hs : some (pc + 3, ls, Value.retAddr 0 :: st, h) = some (pc', ls', st', h') := hs
    cases hs
    obtain rfl : cells' = cells := by omega
    obtain rfl : slots' = slots := by omega
    intro H locs cls hH hL hq
    obtain ⟨cf, kf, fi, f, a, cell, q1, q2, q3, q4, q5, q6, q7, q8⟩ := hH.2.2.2.2.moved hal
    exact W.gets hx hb hown (X.w w) q1 q2 q3 q4 q5 (fun q => by rw [q] at q6; cases q6) q7 rfl hd (k H locs cls hH hL hq)
  | iload j =>
    replace hs : (match (generalizing := false) am_get ls j with | some (.int x) => am_nx pc len ls h (some (.int x :: st)) | _ => none) = some (pc', ls', st', h') := hs
    split at hs
    · rename_i x hg
      obtain ⟨ho, rfl, rfl, rfl⟩ := am_nx_inv hs
      cases ho
      obtain rfl : cells' = cells := by omega
      obtain rfl : slots' = slots := by omega
      rcases hF with ⟨hd, rfl⟩ | ⟨kk, hd, hk, rfl⟩
      · exact fun H locs cls hH hL hq => lv_iload hx hb hd (hL.get hg) (k H locs cls hH hL hq)
      · exact fun H locs cls hH hL hq => lv_iload_n hx hb hd hk (hL.get hg) (k H locs cls hH hL hq)
    · cases hs
  | lload j =>
    replace hs : (match (generalizing := false) am_get ls j with | some (.long x) => am_nx pc len ls h (some (.long x :: st)) | _ => none) = some (pc', ls', st', h') := hs
    split at hs
    · rename_i x hg
      obtain ⟨ho, rfl, rfl, rfl⟩ := am_nx_inv hs
      cases ho
      obtain rfl : cells' = cells := by omega
      obtain rfl : slots' = slots := by omega
      rcases hF with ⟨hd, rfl⟩ | ⟨kk, hd, hk, rfl⟩
      · exact fun H locs cls hH hL hq => lv_lload hx hb hd (hL.get hg) (k H locs cls hH hL hq)
      · exact fun H locs cls hH hL hq => lv_lload_n hx hb hd hk (hL.get hg) (k H locs cls hH hL hq)
    · cases hs
  | aload j =>
    replace hs : (match (generalizing := false) am_get ls j with | some (.ref x) => am_nx pc len ls h (some (.ref x :: st)) | some .null => am_nx pc len ls h (some (.null :: st)) | _ => none) = some (pc', ls', st', h') := hs
    split at hs
    · rename_i x hg
      obtain ⟨ho, rfl, rfl, rfl⟩ := am_nx_inv hs
      cases ho
      obtain rfl : cells' = cells := by omega
      obtain rfl : slots' = slots := by omega
      rcases hF with ⟨hd, rfl⟩ | ⟨kk, hd, hk, rfl⟩
      · exact fun H locs cls hH hL hq => lv_aload hx hb hd (hL.get hg) (k H locs cls hH hL hq)
      · exact fun H locs cls hH hL hq => lv_aload_n hx hb hd hk (hL.get hg) (k H locs cls hH hL hq)
    · rename_i hg
      obtain ⟨ho, rfl, rfl, rfl⟩ := am_nx_inv hs
      cases ho
      obtain rfl : cells' = cells := by omega
      obtain rfl : slots' = slots := by omega
      rcases hF with ⟨hd, rfl⟩ | ⟨kk, hd, hk, rfl⟩
      · exact fun H locs cls hH hL hq => lv_aloadN hx hb hd (hL.get hg) (k H locs cls hH hL hq)
      · exact fun H locs cls hH hL hq => lv_aload_nN hx hb hd hk (hL.get hg) (k H locs cls hH hL hq)
    · cases hs
  | istore j =>
    replace hs : (match (generalizing := false) st with | .int x :: r => if j < ls.length then some (pc + len, am_st1 ls j (.int x), r, h) else none | _ => none) = some (pc', ls', st', h') := hs
    split at hs
    · rename_i x r
      split at hs
      · rename_i hj
        cases hs
        obtain rfl : cells' = cells := by omega
        obtain rfl : slots' = slots := by omega
        rcases hF with ⟨hd, rfl⟩ | ⟨kk, hd, hk, rfl⟩
        · exact fun H locs cls hH hL hq => lv_istore hx hb hd hL.2 (by rw [← hL.1]; exact hj) rfl (fun cls' hl' => k H locs cls' hH (hL.st1 hl') hq)
        · exact fun H locs cls hH hL hq => lv_istore_n hx hb hd hk hL.2 (by rw [← hL.1]; exact hj) rfl (fun cls' hl' => k H locs cls' hH (hL.st1 hl') hq)
      · cases hs
    · cases hs
  | lstore j =>
    replace hs : (match (generalizing := false) st with | .long x :: r => if j + 1 < ls.length then some (pc + len, am_st2 ls j (.long x), r, h) else none | _ => none) = some (pc', ls', st', h') := hs
    split at hs
    · rename_i x r
      split at hs
      · rename_i hj
        cases hs
        obtain rfl : cells' = cells := by omega
        obtain rfl : slots' = slots := by omega
        rcases hF with ⟨hd, rfl⟩ | ⟨kk, hd, hk, rfl⟩
        · exact fun H locs cls hH hL hq => lv_lstore hx hb hd hL.2 (by rw [← hL.1]; exact hj) rfl (fun cls' hl' => k H locs cls' hH (hL.st2 hl') hq)
        · exact fun H locs cls hH hL hq => lv_lstore_n hx hb hd hk hL.2 (by rw [← hL.1]; exact hj) rfl (fun cls' hl' => k H locs cls' hH (hL.st2 hl') hq)
      · cases hs
    · cases hs
  | astore j =>
    replace hs : (match (generalizing := false) st with | .ref x :: r => if j < ls.length then some (pc + len, am_st1 ls j (.ref x), r, h) else none | .null :: r => if j < ls.length then some (pc + len, am_st1 ls j .null, r, h) else none | _ => none) = some (pc', ls', st', h') := hs
    split at hs
    · rename_i x r
      split at hs
      · rename_i hj
        cases hs
        obtain rfl : cells' = cells := by omega
        obtain rfl : slots' = slots := by omega
        rcases hF with ⟨hd, rfl⟩ | ⟨kk, hd, hk, rfl⟩
        · exact fun H locs cls hH hL hq => lv_astore hx hb hd hL.2 (by rw [← hL.1]; exact hj) rfl (fun cls' hl' => k H locs cls' hH (hL.st1 hl') hq)
        · exact fun H locs cls hH hL hq => lv_astore_n hx hb hd hk hL.2 (by rw [← hL.1]; exact hj) rfl (fun cls' hl' => k H locs cls' hH (hL.st1 hl') hq)
      · cases hs
    · rename_i r
      split at hs
      · rename_i hj
        cases hs
        obtain rfl : cells' = cells := by omega
        obtain rfl : slots' = slots := by omega
        rcases hF with ⟨hd, rfl⟩ | ⟨kk, hd, hk, rfl⟩
        · exact fun H locs cls hH hL hq => lv_astoreN hx hb hd hL.2 (by rw [← hL.1]; exact hj) rfl (fun cls' hl' => k H locs cls' hH (hL.st1 hl') hq)
        · exact fun H locs cls hH hL hq => lv_astore_nN hx hb hd hk hL.2 (by rw [← hL.1]; exact hj) rfl (fun cls' hl' => k H locs cls' hH (hL.st1 hl') hq)
      · cases hs
    · cases hs
  | iinc j n =>
    replace hs : (match (generalizing := false) am_get ls j with | some (.int x) => if j < ls.length then some (pc + len, am_st1 ls j (.int (x + Int32.ofInt n)), st, h) else none | _ => none) = some (pc', ls', st', h') := hs
    obtain ⟨hd, rfl⟩ := hF
    split at hs
    · rename_i x hg
      split at hs
      · rename_i hj
        cases hs
        obtain rfl : cells' = cells := by omega
        obtain rfl : slots' = slots := by omega
        intro H locs cls hH hL hq
        obtain ⟨kx, hkx⟩ := hL.at hg
        exact lv_iinc hx hb hd hL.2 hkx rfl (by rw [← hL.1]; exact hj) rfl (fun cls' hl' => k H locs cls' hH (hL.st1 (v := .int (x + Int32.ofInt n)) hl') hq)
      · cases hs
    · cases hs
  | dup =>
    obtain ⟨hd, rfl⟩ := hF
    obtain ⟨ho, rfl, rfl, rfl⟩ := am_nx_inv hs
    unfold am_dup at ho
    split at ho
    · split at ho
      · rename_i hcd
        cases ho
        obtain rfl : cells' = cells := by omega
        obtain rfl : slots' = slots := by omega
        exact fun H locs cls hH hL hq => lv_dup hx hb hd (by rw [sm_cat]; exact hcd) (k H locs cls hH hL hq)
      · cases ho
    · cases ho
  | pop =>
    obtain ⟨hd, rfl⟩ := hF
    obtain ⟨ho, rfl, rfl, rfl⟩ := am_nx_inv hs
    unfold am_pop at ho
    split at ho
    · split at ho
      · rename_i hcd
        cases ho
        obtain rfl : cells' = cells := by omega
        obtain rfl : slots' = slots := by omega
        exact fun H locs cls hH hL hq => lv_pop hx hb hd (by rw [sm_cat]; exact hcd) (k H locs cls hH hL hq)
      · cases ho
    · cases ho
  | dup_x1 =>
    obtain ⟨hd, rfl⟩ := hF
    obtain ⟨ho, rfl, rfl, rfl⟩ := am_nx_inv hs
    unfold am_dupx1 at ho
    split at ho
    · split at ho
      · rename_i hcd
        cases ho
        obtain rfl : cells' = cells := by omega
        obtain rfl : slots' = slots := by omega
        exact fun H locs cls hH hL hq => lv_dup_x1 hx hb hd (by rw [sm_cat]; exact hcd.1) (by rw [sm_cat]; exact hcd.2) (k H locs cls hH hL hq)
      · cases ho
    · cases ho
  | dup_x2 =>
    obtain ⟨hd, rfl⟩ := hF
    obtain ⟨ho, rfl, rfl, rfl⟩ := am_nx_inv hs
    unfold am_dupx2 at ho
    split at ho
    · split at ho
      · rename_i hcd
        cases ho
        obtain rfl : cells' = cells := by omega
        obtain rfl : slots' = slots := by omega
        exact fun H locs cls hH hL hq => lv_dup_x2 hx hb hd (by rw [sm_cat]; exact hcd.1) (by rw [sm_cat]; exact hcd.2.1) (by rw [sm_cat]; exact hcd.2.2) (k H locs cls hH hL hq)
      · cases ho
    · cases ho
  | dup2 =>
    obtain ⟨hd, rfl⟩ := hF
    obtain ⟨ho, rfl, rfl, rfl⟩ := am_nx_inv hs
    unfold am_dup2 at ho
    split at ho
    · cases ho
      obtain rfl : cells' = cells := by omega
      obtain rfl : slots' = slots := by omega
      exact fun H locs cls hH hL hq => lv_dup2_2 hx hb hd rfl (k H locs cls hH hL hq)
    · cases ho
      obtain rfl : cells' = cells := by omega
      obtain rfl : slots' = slots := by omega
      exact fun H locs cls hH hL hq => lv_dup2_11 hx hb hd rfl rfl (k H locs cls hH hL hq)
    · cases ho
      obtain rfl : cells' = cells := by omega
      obtain rfl : slots' = slots := by omega
      exact fun H locs cls hH hL hq => lv_dup2_11 hx hb hd rfl rfl (k H locs cls hH hL hq)
    · cases ho
  | iaload =>
    obtain ⟨hd, rfl⟩ := hF
    obtain ⟨ho, rfl, rfl, rfl⟩ := am_nx_inv hs
    obtain ⟨ix, r, rest, ty, vs, v, rfl, hr, hok, hi0, hv, rfl⟩ := am_ald_inv ho
    obtain rfl : cells' = cells := by omega
    obtain rfl : slots' = slots := by omega
    intro H locs cls hH hL hq
    obtain ⟨cell, g1, g2, g3, g4, g5⟩ := sm_arr X hH hr hi0 hv
    cases ty with
    | int => exact W.iald hx hb g1 g2 g3 g4 g5 rfl rfl hd (k H locs cls hH hL hq)
    | _ => cases hok
  | baload =>
    obtain ⟨hd, rfl⟩ := hF
    obtain ⟨ho, rfl, rfl, rfl⟩ := am_nx_inv hs
    obtain ⟨ix, r, rest, ty, vs, v, rfl, hr, hok, hi0, hv, rfl⟩ := am_ald_inv ho
    obtain rfl : cells' = cells := by omega
    obtain rfl : slots' = slots := by omega
    intro H locs cls hH hL hq
    obtain ⟨cell, g1, g2, g3, g4, g5⟩ := sm_arr X hH hr hi0 hv
    cases ty with
    | byte => exact W.bald hx hb g1 g2 g3 g4 g5 rfl rfl hd (k H locs cls hH hL hq)
    | boolean => exact W.zald hx hb g1 g2 g3 g4 g5 rfl rfl hd (k H locs cls hH hL hq)
    | _ => cases hok
  | caload =>
    obtain ⟨hd, rfl⟩ := hF
    obtain ⟨ho, rfl, rfl, rfl⟩ := am_nx_inv hs
    obtain ⟨ix, r, rest, ty, vs, v, rfl, hr, hok, hi0, hv, rfl⟩ := am_ald_inv ho
    obtain rfl : cells' = cells := by omega
    obtain rfl : slots' = slots := by omega
    intro H locs cls hH hL hq
    obtain ⟨cell, g1, g2, g3, g4, g5⟩ := sm_arr X hH hr hi0 hv
    cases ty with
    | char => exact W.cald hx hb g1 g2 g3 g4 g5 rfl rfl hd (k H locs cls hH hL hq)
    | _ => cases hok
  | laload =>
    obtain ⟨hd, rfl⟩ := hF
    obtain ⟨ho, rfl, rfl, rfl⟩ := am_nx_inv hs
    obtain ⟨ix, r, rest, ty, vs, v, rfl, hr, hok, hi0, hv, rfl⟩ := am_ald_inv ho
    obtain rfl : cells' = cells := by omega
    obtain rfl : slots' = slots := by omega
    intro H locs cls hH hL hq
    obtain ⟨cell, g1, g2, g3, g4, g5⟩ := sm_arr X hH hr hi0 hv
    cases ty with
    | long => exact W.lald hx hb g1 g2 g3 g4 g5 rfl rfl hd (k H locs cls hH hL hq)
    | _ => cases hok
  | aaload =>
    obtain ⟨hd, rfl⟩ := hF
    obtain ⟨ho, rfl, rfl, rfl⟩ := am_nx_inv hs
    obtain ⟨ix, r, rest, ty, vs, v, rfl, hr, hok, hi0, hv, rfl⟩ := am_ald_inv ho
    obtain rfl : cells' = cells := by omega
    obtain rfl : slots' = slots := by omega
    intro H locs cls hH hL hq
    obtain ⟨cell, g1, g2, g3, g4, g5⟩ := sm_arr X hH hr hi0 hv
    cases ty with
    | object C => exact W.aald hx hb g1 g2 rfl g3 g4 g5 rfl rfl hd (k H locs cls hH hL hq)
    | _ => cases hok
  | arraylength =>
    obtain ⟨hd, rfl⟩ := hF
    replace hs : (match (generalizing := false) st with | .ref r :: rest => (match (generalizing := false) h[r]? with | some (.inl _, vs) => am_nx pc 1 ls h (some (.int (Int32.ofNat vs.length) :: rest)) | _ => none) | _ => none) = some (pc', ls', st', h') := hs
    split at hs
    · rename_i r rest
      split at hs
      · rename_i ty vs hr
        obtain ⟨ho, rfl, rfl, rfl⟩ := am_nx_inv hs
        cases ho
        obtain rfl : cells' = cells := by omega
        obtain rfl : slots' = slots := by omega
        exact sm_len X hd hr k
      · cases hs
    · cases hs
  | iastore =>
    obtain ⟨hd, rfl⟩ := hF
    replace hs : (match (generalizing := false) st with | .int x :: .int j :: .ref r :: rest => am_as pc 1 ls rest (am_ast am_isI h r j (fun _ => .int x)) | _ => none) = some (pc', ls', st', h') := hs
    split at hs
    · rename_i x j r rest
      obtain ⟨ho, rfl, rfl, rfl⟩ := am_as_inv hs
      obtain ⟨ty, vs, hr, hok, hj0, hj, hsr, rfl⟩ := am_ast_inv ho
      have hsz : am_sz (h.set r (.inl ty, vs.set j.toNatClampNeg (((fun _ => .int x)) ty))) = am_sz h := am_sz_set hr (List.length_set ..)
      rw [List.length_set] at hc
      rw [hsz] at hz
      obtain rfl : cells' = cells := by omega
      obtain rfl : slots' = slots := by omega
      intro H locs cls hH hL hq
      obtain ⟨cell, g1, g2, g3, g4, g5, g6⟩ := sm_arrW X hH hr hj0 hj
      cases ty with
      | int => exact W.iast hx hb g1 g2 g3 g4 rfl rfl hd (fun H' e1 e2 e3 => k H' _ cls (sm_stored X hH hr hj hsr g1 (fun _ => rfl) e1 e2 e3) hL (sm_locs hφ hsr hq))
      | _ => cases hok
    · cases hs
  | lastore =>
    obtain ⟨hd, rfl⟩ := hF
    replace hs : (match (generalizing := false) st with | .long x :: .int j :: .ref r :: rest => am_as pc 1 ls rest (am_ast am_isJ h r j (fun _ => .long x)) | _ => none) = some (pc', ls', st', h') := hs
    split at hs
    · rename_i x j r rest
      obtain ⟨ho, rfl, rfl, rfl⟩ := am_as_inv hs
      obtain ⟨ty, vs, hr, hok, hj0, hj, hsr, rfl⟩ := am_ast_inv ho
      have hsz : am_sz (h.set r (.inl ty, vs.set j.toNatClampNeg (((fun _ => .long x)) ty))) = am_sz h := am_sz_set hr (List.length_set ..)
      rw [List.length_set] at hc
      rw [hsz] at hz
      obtain rfl : cells' = cells := by omega
      obtain rfl : slots' = slots := by omega
      intro H locs cls hH hL hq
      obtain ⟨cell, g1, g2, g3, g4, g5, g6⟩ := sm_arrW X hH hr hj0 hj
      cases ty with
      | long => exact W.last hx hb g1 g2 g3 g4 rfl rfl hd (fun H' e1 e2 e3 => k H' _ cls (sm_stored X hH hr hj hsr g1 (fun _ => rfl) e1 e2 e3) hL (sm_locs hφ hsr hq))
      | _ => cases hok
    · cases hs
  | castore =>
    obtain ⟨hd, rfl⟩ := hF
    replace hs : (match (generalizing := false) st with | .int x :: .int j :: .ref r :: rest => am_as pc 1 ls rest (am_ast am_isC h r j (fun ty => narrow ty (.int x))) | _ => none) = some (pc', ls', st', h') := hs
    split at hs
    · rename_i x j r rest
      obtain ⟨ho, rfl, rfl, rfl⟩ := am_as_inv hs
      obtain ⟨ty, vs, hr, hok, hj0, hj, hsr, rfl⟩ := am_ast_inv ho
      have hsz : am_sz (h.set r (.inl ty, vs.set j.toNatClampNeg (((fun ty => narrow ty (.int x))) ty))) = am_sz h := am_sz_set hr (List.length_set ..)
      rw [List.length_set] at hc
      rw [hsz] at hz
      obtain rfl : cells' = cells := by omega
      obtain rfl : slots' = slots := by omega
      intro H locs cls hH hL hq
      obtain ⟨cell, g1, g2, g3, g4, g5, g6⟩ := sm_arrW X hH hr hj0 hj
      cases ty with
      | char => exact W.cast hx hb g1 g2 g3 g4 rfl rfl hd (fun H' e1 e2 e3 => k H' _ cls (sm_stored X hH hr hj hsr g1 (fun _ => (sm_nfit x (Or.inr (Or.inr rfl))).1) e1 e2 e3) hL (sm_locs hφ hsr hq))
      | _ => cases hok
    · cases hs
  | bastore =>
    obtain ⟨hd, rfl⟩ := hF
    replace hs : (match (generalizing := false) st with | .int x :: .int j :: .ref r :: rest => am_as pc 1 ls rest (am_ast am_isB h r j (fun ty => narrow ty (.int x))) | _ => none) = some (pc', ls', st', h') := hs
    split at hs
    · rename_i x j r rest
      obtain ⟨ho, rfl, rfl, rfl⟩ := am_as_inv hs
      obtain ⟨ty, vs, hr, hok, hj0, hj, hsr, rfl⟩ := am_ast_inv ho
      have hsz : am_sz (h.set r (.inl ty, vs.set j.toNatClampNeg (((fun ty => narrow ty (.int x))) ty))) = am_sz h := am_sz_set hr (List.length_set ..)
      rw [List.length_set] at hc
      rw [hsz] at hz
      obtain rfl : cells' = cells := by omega
      obtain rfl : slots' = slots := by omega
      intro H locs cls hH hL hq
      obtain ⟨cell, g1, g2, g3, g4, g5, g6⟩ := sm_arrW X hH hr hj0 hj
      cases ty with
      | byte => exact W.bast hx hb g1 g2 g3 g4 rfl rfl hd (fun H' e1 e2 e3 => k H' _ cls (sm_stored X hH hr hj hsr g1 (fun _ => (sm_nfit x (Or.inl rfl)).1) e1 e2 e3) hL (sm_locs hφ hsr hq))
      | boolean => exact W.zast hx hb g1 g2 g3 g4 rfl rfl hd (fun H' e1 e2 e3 => k H' _ cls (sm_stored X hH hr hj hsr g1 (fun _ => (sm_nfit x (Or.inr (Or.inl rfl))).1) e1 e2 e3) hL (sm_locs hφ hsr hq))
      | _ => cases hok
    · cases hs
  | aastore =>
    obtain ⟨hd, rfl⟩ := hF
    replace hs : (match (generalizing := false) st with | .ref x :: .int j :: .ref r :: rest => (match (generalizing := false) h[x]? with | some (.inr ci, _) => am_as pc 1 ls rest (am_ast (fun ty => decide (ty = .object (cN ci))) h r j (fun _ => .ref x)) | _ => none) | _ => none) = some (pc', ls', st', h') := hs
    split at hs
    · rename_i x j r rest
      split at hs
      · rename_i ci fs hxr
        obtain ⟨ho, rfl, rfl, rfl⟩ := am_as_inv hs
        obtain ⟨ty, vs, hr, hok, hj0, hj, hsr, rfl⟩ := am_ast_inv ho
        obtain rfl := of_decide_eq_true hok
        have hsz : am_sz (h.set r (.inl (.object (cN ci)), vs.set j.toNatClampNeg (.ref x))) = am_sz h := am_sz_set hr (List.length_set ..)
        rw [List.length_set] at hc
        rw [hsz] at hz
        obtain rfl : cells' = cells := by omega
        obtain rfl : slots' = slots := by omega
        intro H locs cls hH hL hq
        obtain ⟨cell, g1, g2, g3, g4, g5, g6⟩ := sm_arrW X hH hr hj0 hj
        obtain ⟨kA, comp, a1, a2, a3⟩ := g6
        have a3 := a3 _ rfl
        obtain ⟨cv, c1, c2, c3, c4, c0, c5, -⟩ := hH.2.2.1 x _ hxr
        have hcomp : comp = cv.cls := by
          rw [c5]
          exact Option.some.inj (a3.symm.trans (by rw [hal.findClass]; exact hK.2.2 ci c0))
        obtain ⟨kE, hkE, -⟩ := Vm.findClass_spec a3
        refine W.aast hx hb g1 g5 g3 a1 a2 rfl hkE ⟨hj0, by have := g4; omega⟩ c1 c3 (kv := kE) (by rw [← hcomp]; exact hkE) (by rw [hcomp]; exact va_asg _ _) rfl rfl hd (fun H' e1 e2 e3 => k H' _ cls (sm_stored X hH hr hj hsr g1 (fun q => by cases q) e1 e2 e3) hL (sm_locs hφ hsr hq))
      · cases hs
    · cases hs
  | getfield x =>
    obtain ⟨ho, rfl, rfl, rfl⟩ := am_nx_inv hs
    have hl3 : len = 3 := hF.2.2.1
    subst hl3
    obtain rfl : cells' = cells := by omega
    obtain rfl : slots' = slots := by omega
    exact sm_getf X hF ho k
  | putfield x =>
    obtain ⟨ho, rfl, rfl⟩ := am_nh_inv hs
    have hl3 : len = 3 := hF.2.2.1
    subst hl3
    have hcz := am_putf_sz ho
    obtain rfl : cells' = cells := by omega
    obtain rfl : slots' = slots := by omega
    exact sm_putf X hF ho k
  | new ci =>
    have hl3 : len = 3 := hF.2.1
    subst hl3
    replace hs : some (pc + 3, ls, Value.ref h.length :: st, h ++ [(Sum.inr ci, (List.range (cS ci)).map fun k => defaultValue (cF ci k))]) = some (pc', ls', st', h') := hs
    cases hs
    rw [List.length_append, List.length_singleton] at hc
    rw [am_sz_app, List.length_map, List.length_range] at hz
    obtain rfl : cells' = cells + 1 := by omega
    obtain rfl : slots' = slots + cS ci := by omega
    exact sm_new X hF hcR hsR k
  | newarray t =>
    have hl3 : len = 2 := hF.2.1
    subst hl3
    replace hs : (match (generalizing := false) st with | .int n :: r => if ¬ n < 0 ∧ n.toNatClampNeg * componentBytes (newarray.typeOf t) ≤ 536870912 then some (pc + 2, ls, .ref h.length :: r, h ++ [(.inl (newarray.typeOf t), List.replicate n.toNatClampNeg (defaultValue (newarray.typeOf t)))]) else none | _ => none) = some (pc', ls', st', h') := hs
    split at hs
    · rename_i n r
      split at hs
      · rename_i hcnd
        cases hs
        rw [List.length_append, List.length_singleton] at hc
        rw [am_sz_app, List.length_replicate] at hz
        obtain rfl : cells' = cells + 1 := by omega
        obtain rfl : slots' = slots + n.toNatClampNeg := by omega
        exact sm_newa X hF hcnd.1 hcnd.2 hcR hsR k
      · cases hs
    · cases hs
  | anewarray ci =>
    have hl3 : len = 3 := hF.1
    subst hl3
    replace hs : (match (generalizing := false) st with | .int n :: r => if ¬ n < 0 ∧ n.toNatClampNeg * 4 ≤ 536870912 then some (pc + 3, ls, .ref h.length :: r, h ++ [(.inl (.object (cN ci)), List.replicate n.toNatClampNeg .null)]) else none | _ => none) = some (pc', ls', st', h') := hs
    split at hs
    · rename_i n r
      split at hs
      · rename_i hcnd
        cases hs
        rw [List.length_append, List.length_singleton] at hc
        rw [am_sz_app, List.length_replicate] at hz
        obtain rfl : cells' = cells + 1 := by omega
        obtain rfl : slots' = slots + n.toNatClampNeg := by omega
        exact sm_anew X hF hcnd.1 hcnd.2 hcR hsR k
      · cases hs
    · cases hs
  | monitorenter =>
    obtain ⟨rfl, x, hd, w1, w2, w3⟩ := hF
    replace hs : (match (generalizing := false) st with | .ref _ :: r => if 1 ≤ d ∧ am_cat r ≤ 8 then some (pc + 3, ls, r, h) else none | _ => none) = some (pc', ls', st', h') := hs
    split at hs
    · rename_i q r
      split at hs
      · rename_i hcnd
        cases hs
        obtain rfl : cells' = cells := by omega
        obtain rfl : slots' = slots := by omega
        intro H locs cls hH hL hq
        refine W.objInit hx hb hown (X.w w1) (X.w w2) (X.w w3) rfl (by rw [hml]; exact hL.2.1) rfl hd (Nat.le_trans hcnd.1 hRf) ?_ (k H locs cls hH hL hq)
        show 2 * 0 + ((sm_s φ _).map fun v => v.category).sum + 12 ≤ R.locals
        rw [sm_cats]
        have := Nat.mul_le_mul_right kL hcnd.1
        have := kL_ok
        omega
      · cases hs
    · cases hs
  | monitorexit =>
    have hl3 : len = 3 := hF.1
    subst hl3
    obtain ⟨ho, rfl, rfl⟩ := am_nh_inv hs
    have hcz := am_copy_sz ho
    obtain rfl : cells' = cells := by omega
    obtain rfl : slots' = slots := by omega
    exact sm_copy X hF ho k hnL
  | dadd =>
    obtain ⟨rfl, w0, hd, w1, w2, w3, w4⟩ := hF
    replace hs : (match (generalizing := false) st with | .int y :: .int x :: r => if 1 ≤ d ∧ am_cat r ≤ 8 then some (pc + 3, ls, .int (if x < y then y else x) :: r, h) else none | _ => none) = some (pc', ls', st', h') := hs
    split at hs
    · rename_i y x r
      split at hs
      · rename_i hcnd
        cases hs
        obtain rfl : cells' = cells := by omega
        obtain rfl : slots' = slots := by omega
        intro H locs cls hH hL hq
        refine va_mmax hx hb (by rw [hml]; exact hL.2.1.symm) hown (X.w w1) (X.w w2) (X.w w3) (X.w w4) (Nat.le_trans hcnd.1 hRf) ?_ hcR hsR hd (k H locs cls hH hL hq)
        show ((sm_s φ r).map fun v => v.category).sum + 13 ≤ R.locals
        rw [sm_cats]
        have := Nat.mul_le_mul_right kL hcnd.1
        have := kL_ok
        have : kL = 41 := rfl
        omega
      · cases hs
    · cases hs
  | dsub =>
    obtain ⟨rfl, w0, hd, w1, w2, w3, w4⟩ := hF
    replace hs : (match (generalizing := false) st with | .int y :: .int x :: r => if 1 ≤ d ∧ am_cat r ≤ 8 then some (pc + 3, ls, .int (if y < x then y else x) :: r, h) else none | _ => none) = some (pc', ls', st', h') := hs
    split at hs
    · rename_i y x r
      split at hs
      · rename_i hcnd
        cases hs
        obtain rfl : cells' = cells := by omega
        obtain rfl : slots' = slots := by omega
        intro H locs cls hH hL hq
        refine va_mmin hx hb (by rw [hml]; exact hL.2.1.symm) hown (X.w w1) (X.w w2) (X.w w3) (X.w w4) (Nat.le_trans hcnd.1 hRf) ?_ hcR hsR hd (k H locs cls hH hL hq)
        show ((sm_s φ r).map fun v => v.category).sum + 13 ≤ R.locals
        rw [sm_cats]
        have := Nat.mul_le_mul_right kL hcnd.1
        have := kL_ok
        have : kL = 41 := rfl
        omega
      · cases hs
    · cases hs
  | dneg =>
    obtain ⟨rfl, w0, hd, w1, w2, w3, w4⟩ := hF
    replace hs : (match (generalizing := false) st with | .long x :: r => if 1 ≤ d ∧ am_cat r ≤ 8 then some (pc + 3, ls, .long (if 0 < x then x else -x) :: r, h) else none | _ => none) = some (pc', ls', st', h') := hs
    split at hs
    · rename_i x r
      split at hs
      · rename_i hcnd
        cases hs
        obtain rfl : cells' = cells := by omega
        obtain rfl : slots' = slots := by omega
        intro H locs cls hH hL hq
        refine va_mabs_long hx hb (by rw [hml]; exact hL.2.1.symm) hown (X.w w1) (X.w w2) (X.w w3) (X.w w4) (Nat.le_trans hcnd.1 hRf) ?_ hcR hsR hd (k H locs cls hH hL hq)
        show ((sm_s φ r).map fun v => v.category).sum + 13 ≤ R.locals
        rw [sm_cats]
        have := Nat.mul_le_mul_right kL hcnd.1
        have := kL_ok
        have : kL = 41 := rfl
        omega
      · cases hs
    · cases hs
  | goto t =>
    obtain ⟨off, hd, rfl, ht⟩ := hF
    replace hs : some (t.toNat, ls, st, h) = some (pc', ls', st', h') := hs
    cases hs
    obtain rfl : cells' = cells := by omega
    obtain rfl : slots' = slots := by omega
    exact fun H locs cls hH hL hq => lv_goto hx hb hd ht (k H locs cls hH hL hq)
  | ifCond kc t =>
    obtain ⟨off, hd, rfl, ht⟩ := hF
    obtain ⟨x, r, rfl, rfl, rfl, rfl, rfl⟩ := am_if_inv hs
    obtain rfl : cells' = cells := by omega
    obtain rfl : slots' = slots := by omega
    intro H locs cls hH hL hq
    have kk := k H locs cls hH hL hq
    cases kc with
    | eq => exact lv_if_eq hx hb hd ht (fun q => by have e1 : am_c1 .eq x = true := decide_eq_true q; rw [if_pos e1] at kk; exact kk) (fun q => by have e1 : ¬ am_c1 .eq x = true := fun z => q (of_decide_eq_true z); rw [if_neg e1] at kk; exact kk)
    | ne => exact lv_if_ne hx hb hd ht (fun q => by have e1 : am_c1 .ne x = true := decide_eq_true q; rw [if_pos e1] at kk; exact kk) (fun q => by have e1 : ¬ am_c1 .ne x = true := fun z => (of_decide_eq_true z) q; rw [if_neg e1] at kk; exact kk)
    | lt => exact lv_if_lt hx hb hd ht (fun q => by have e1 : am_c1 .lt x = true := decide_eq_true q; rw [if_pos e1] at kk; exact kk) (fun q => by have e1 : ¬ am_c1 .lt x = true := fun z => q (of_decide_eq_true z); rw [if_neg e1] at kk; exact kk)
    | ge => exact lv_if_ge hx hb hd ht (fun q => by have e1 : am_c1 .ge x = true := decide_eq_true q; rw [if_pos e1] at kk; exact kk) (fun q => by have e1 : ¬ am_c1 .ge x = true := fun z => q (of_decide_eq_true z); rw [if_neg e1] at kk; exact kk)
    | gt => exact lv_if_gt hx hb hd ht (fun q => by have e1 : am_c1 .gt x = true := decide_eq_true q; rw [if_pos e1] at kk; exact kk) (fun q => by have e1 : ¬ am_c1 .gt x = true := fun z => q (of_decide_eq_true z); rw [if_neg e1] at kk; exact kk)
    | le => exact lv_if_le hx hb hd ht (fun q => by have e1 : am_c1 .le x = true := decide_eq_true q; rw [if_pos e1] at kk; exact kk) (fun q => by have e1 : ¬ am_c1 .le x = true := fun z => q (of_decide_eq_true z); rw [if_neg e1] at kk; exact kk)
  | if_icmp kc t =>
    obtain ⟨off, hd, rfl, ht⟩ := hF
    obtain ⟨x, y, r, rfl, rfl, rfl, rfl, rfl⟩ := am_ic_inv hs
    obtain rfl : cells' = cells := by omega
    obtain rfl : slots' = slots := by omega
    intro H locs cls hH hL hq
    have kk := k H locs cls hH hL hq
    cases kc with
    | eq => exact lv_icmp_eq hx hb hd ht (fun q => by have e1 : am_c2 .eq x y = true := decide_eq_true q; rw [if_pos e1] at kk; exact kk) (fun q => by have e1 : ¬ am_c2 .eq x y = true := fun z => q (of_decide_eq_true z); rw [if_neg e1] at kk; exact kk)
    | ne => exact lv_icmp_ne hx hb hd ht (fun q => by have e1 : am_c2 .ne x y = true := decide_eq_true q; rw [if_pos e1] at kk; exact kk) (fun q => by have e1 : ¬ am_c2 .ne x y = true := fun z => (of_decide_eq_true z) q; rw [if_neg e1] at kk; exact kk)
    | lt => exact lv_icmp_lt hx hb hd ht (fun q => by have e1 : am_c2 .lt x y = true := decide_eq_true q; rw [if_pos e1] at kk; exact kk) (fun q => by have e1 : ¬ am_c2 .lt x y = true := fun z => q (of_decide_eq_true z); rw [if_neg e1] at kk; exact kk)
    | ge => exact lv_icmp_ge hx hb hd ht (fun q => by have e1 : am_c2 .ge x y = true := decide_eq_true q; rw [if_pos e1] at kk; exact kk) (fun q => by have e1 : ¬ am_c2 .ge x y = true := fun z => q (of_decide_eq_true z); rw [if_neg e1] at kk; exact kk)
    | gt => exact lv_icmp_gt hx hb hd ht (fun q => by have e1 : am_c2 .gt x y = true := decide_eq_true q; rw [if_pos e1] at kk; exact kk) (fun q => by have e1 : ¬ am_c2 .gt x y = true := fun z => q (of_decide_eq_true z); rw [if_neg e1] at kk; exact kk)
    | le => exact lv_icmp_le hx hb hd ht (fun q => by have e1 : am_c2 .le x y = true := decide_eq_true q; rw [if_pos e1] at kk; exact kk) (fun q => by have e1 : ¬ am_c2 .le x y = true := fun z => q (of_decide_eq_true z); rw [if_neg e1] at kk; exact kk)
  | ifnull t =>
    obtain ⟨off, hd, rfl, ht⟩ := hF
    replace hs : (match (generalizing := false) am_br (.ifnull t) (pc + 3) st with | some (pc', st') => some (pc', ls, st', h) | none => none) = some (pc', ls', st', h') := hs
    unfold am_br at hs
    split at hs
    · rename_i q1 q2 hbr
      dsimp only at hbr
      split at hbr
      · cases hbr
        cases hs
        obtain rfl : cells' = cells := by omega
        obtain rfl : slots' = slots := by omega
        exact fun H locs cls hH hL hq => lv_ifnullN hx hb hd ht (k H locs cls hH hL hq)
      · cases hbr
        cases hs
        obtain rfl : cells' = cells := by omega
        obtain rfl : slots' = slots := by omega
        exact fun H locs cls hH hL hq => lv_ifnull hx hb hd (k H locs cls hH hL hq)
      · cases hbr
    · cases hs
  | ifnonnull t =>
    obtain ⟨off, hd, rfl, ht⟩ := hF
    replace hs : (match (generalizing := false) am_br (.ifnonnull t) (pc + 3) st with | some (pc', st') => some (pc', ls, st', h) | none => none) = some (pc', ls', st', h') := hs
    unfold am_br at hs
    split at hs
    · rename_i q1 q2 hbr
      dsimp only at hbr
      split at hbr
      · cases hbr
        cases hs
        obtain rfl : cells' = cells := by omega
        obtain rfl : slots' = slots := by omega
        exact fun H locs cls hH hL hq => lv_ifnonnullN hx hb hd (k H locs cls hH hL hq)
      · cases hbr
        cases hs
        obtain rfl : cells' = cells := by omega
        obtain rfl : slots' = slots := by omega
        exact fun H locs cls hH hL hq => lv_ifnonnull hx hb hd ht (k H locs cls hH hL hq)
      · cases hbr
    · cases hs
  | lookupswitch dd ps =>
    obtain ⟨x, r, rfl, rfl, rfl, rfl, rfl⟩ := am_sw_inv hs
    obtain rfl : cells' = cells := by omega
    obtain rfl : slots' = slots := by omega
    intro H locs cls hH hL hq
    have kk := k H locs cls hH hL hq
    rcases hF with ⟨d0, p0, hd, hsrt, hps, hdd, hd0, hnn⟩ | ⟨d0, lo, hi, offs, hd, hhi, hps, hdd, hd0, hnn⟩
    · have hz0 := sm_off0 (x := x.toInt) hd0 hnn
      refine lv_lookup hx hb hd hsrt rfl ?_ kk
      rw [hps, hdd] at hz0 ⊢
      rw [sm_off] at hz0 ⊢
      omega
    · have hz0 := sm_off0 (x := x.toInt) hd0 hnn
      obtain ⟨t1, t2⟩ := sm_offT pc x.toInt dd lo offs.toList 0
      by_cases hin : lo ≤ x.toInt ∧ x.toInt ≤ hi
      · have hlt : (x.toInt - lo).toNat < offs.size := by omega
        have ho : offs[(x.toInt - lo).toNat]? = some offs[(x.toInt - lo).toNat] := Array.getElem?_eq_getElem hlt
        refine lv_tableIn hx hb hd (by omega) (by omega) ho ?_ kk
        have := t2 _ (by simpa using hin.1) (by rw [show (x.toInt - lo - ((0 : Nat) : Int)).toNat = (x.toInt - lo).toNat by simp, Array.getElem?_toList]; exact ho)
        rw [hps] at hz0 ⊢
        unfold sm_tab at hz0 ⊢
        rw [this] at hz0 ⊢
        omega
      · refine lv_tableOut hx hb hd (by omega) ?_ kk
        have := t1 (by simp; omega)
        rw [hps] at hz0 ⊢
        unfold sm_tab at hz0 ⊢
        rw [this] at hz0 ⊢
        omega
  | _ => first | cases hs | simp [am_step, am_br] at hs
end SONE
