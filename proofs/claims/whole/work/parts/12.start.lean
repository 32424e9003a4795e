/-! THE CLAIM OUT OF ONE WALK OF THE LAW'S BODY. Your part is whole_start (and what it stands on); all else here is the same for every law, but numbers. -/
def R_law : String := "TestEmitterLaw"
def lw_P (b : Addr) (xs : List Int32) (args : Array Value) (s : State) : Prop := args = #[.ref b] ∧ s.IntsAt b xs ∧ xs.length ≤ 1025 ∧ (Jvm.Cond.and given_1 narrow_1).before args s = true
def lw_Q (_ : Array Value) (s : State) (o : Outcome) (t : State) : Prop := o = .returned (some (.int 1)) ∧ Framed s o t [] 600000 7302250
def lw_Z (below : List Frame) (a : Array Value) (s : State) : State → Prop := fun t => ∃ o, t.status = .running ∧ Ended t below o ∧ lw_Q a s o t
/-- the law's own end, with 1 on the stack, nothing written that was there before, its room as the claim has it -/
theorem lw_ret {p : Program} {l : Launch} {e : Env} {s : State} {m : MethodId} {below : List Frame} {meth : Method} {c : Code} {b : Nat} (hx : p.tables.exec = Jvm.exec) (hb : c.code = code) (hr : meth.sig.returnType = ret) (hlocks : meth.locks = false) {pc : Nat} {H : Heap} {ls : Array Slot} (hdg : decode code pc = .ok (.ireturn, 1)) : W p l e room_1 s m #[Value.ref b] below meth c H [] 600000 7302250 (lw_Z below #[Value.ref b] s) (F0 m pc ls [.int 1]) := by
  intro T hT X
  obtain ⟨fs, hret, hrun, hended, hW, hframe⟩ := X.leave (v := some (.int 1)) (hlocks := hlocks) (fun h => by rw [hr] at h; cases h)
  have hmeth' : T.vm.method? m = some meth := X.method'
  refine ⟨T.setFrames fs, ?_, .returned (some (.int 1)), hrun, hended, rfl, ⟨_, rfl⟩, hW, hframe⟩
  jvm_step X.here [X.here.top, hx, hb, hdg, hmeth', hr, ret, narrow_b1]
  (try refine ⟨rfl, ?_⟩); (try refine ⟨rfl, ?_⟩)
  first | (intro acts; rw [hret _ acts rfl rfl rfl]) | rw [hret _ _ rfl rfl rfl]
  exact Steps.refl _
/-- what holds at the law's entry: the machine, the code, the tables' words (any of lw_tbl by 'hts w (by decide +kernel)'), the script of L ints xs at the cell b, what the Statement gives of the start (any of its parts by flat_of_before) -/
def lw_At (p : Program) (s : State) (m : MethodId) (meth : Method) (c : Code) (b L : Nat) (xs : Nat → Int32) : Prop :=
  p.tables.exec = Jvm.exec ∧ c.code = code ∧ meth.sig.returnType = ret ∧ c.maxLocals = 4 ∧ s.vm.findClass R_law = some m.cls ∧ (∀ w ∈ lw_tbl, w.before #[Value.ref b] s = true) ∧ va_X b L xs s s.heap ∧ b < s.heap.size ∧ meth.locks = false ∧ (Jvm.Cond.and given_1 narrow_1).before #[Value.ref b] s = true
/-! FROM THE STATEMENT'S START TO THE ABSTRACT MACHINE'S -/
theorem st_one {s : State} {args : Array Value} {k : String × Nat} {bs : List Int32} {A : Nat → Prop} (h : ∀ c ∈ ss_cs k bs, c.before args s = true) (hlen : bs.length < 2 ^ 31) (hA : ∀ a : Nat, a < s.heap.size → ¬ A a) :
    ∃ q : Nat × Nat, (Term.string k.1 k.2).eval args s none [] s = some (.ref q.1) ∧ va_O "java/lang/String" q.1 A s s.heap ∧ va_OF "java/lang/String" "coder" "B" (.int 0) q.1 A s s.heap ∧ va_OF "java/lang/String" "value" "[B" (.ref q.2) q.1 A s s.heap ∧ va_T .byte q.2 bs.length (fun j => .int (bs.getD j 0)) A s s.heap := by
  have hex : (Cond.exactly (.string k.1 k.2) "java/lang/String").before args s = true := h _ (by simp [ss_cs])
  have hco : (Cond.eq (.field (.string k.1 k.2) "java/lang/String" "coder" "B") (.int 0)).before args s = true := h _ (by simp [ss_cs])
  have har : (Cond.arrayOf (ss_f k) .byte).before args s = true := h _ (by simp [ss_cs])
  have hle : (Cond.eq (.length (ss_f k)) (.int (Int32.ofNat bs.length))).before args s = true := h _ (by simp [ss_cs])
  have hel : ∀ j : Nat, j < bs.length → (Cond.eq (.elem (ss_f k) (.int (Int32.ofNat j))) (.int (bs.getD j 0))).before args s = true := by
    intro j hj
    refine h _ (List.mem_append_right _ (List.mem_map.mpr ⟨(bs[j], j), ?_, ?_⟩))
    · exact List.mem_of_getElem? (i := j) (by simp [hj])
    · simp [List.getD_eq_getElem?_getD, hj]
  obtain ⟨a, c, cA, kA, q1, q2, q3, q4, q5, q6, -⟩ := Cond.exactly_spec (args := args) (first := s) (o := none) (s := s) (idx := []) (t := .string k.1 k.2) (cls := "java/lang/String") hex
  obtain ⟨t, ht, hT⟩ := va_Tof (f := fun j => .int (bs.getD j 0)) (A := A) hlen har (va_eqt hle) (fun j hj => va_eqt (hel j hj)) hA
  exact ⟨(a, t), q1, ⟨cA, q3, q5, by rw [q6]; exact q2, hA a (Array.getElem?_eq_some_iff.mp q3).1⟩, vk_OFof q1 (va_eqt hco) hA, vk_OFof q1 ht hA, hT⟩
/-- the start's heap -/
def h0 (xs : List Int32) : AH := sH ++ [(.inl .int, xs.map Value.int)]
theorem sH_len : sH.length = 2 * sS := by decide +kernel
theorem sN_eq : sN = 2 * sS + 1 := by decide +kernel
theorem sB_ok : ∀ bs ∈ sBl, bs.length < 2 ^ 31 ∧ ∀ b ∈ bs, fits .byte (.int b) = true := by decide +kernel
theorem sB_len : sBl.length = sS := by decide +kernel
theorem sK_ok : ∀ i, i < sS → sKl[i]? = some (sQ i, 2 * i) := by decide +kernel
theorem sK_len : sKl.length = sS := by decide +kernel
theorem sH_at : ∀ i, i < sS → sH[2 * i]? = some (.inr cO, [.ref (2 * i + 1), .int 0]) ∧ sH[2 * i + 1]? = some (.inl .byte, (sBl.getD i []).map Value.int) := by decide +kernel
theorem h0_len (xs : List Int32) : (h0 xs).length = sN := by rw [h0, List.length_append, sH_len, sN_eq]; rfl
/-- what is left: the abstract machine ends with 1, in the room -/
def law_ok (d : Nat) (xs : List Int32) : Prop := wp d 0 0 (am_entry (mL 0) [.ref (2 * sS)]) [] (h0 xs) (fun r h' => r = some (.int 1) ∧ h'.length ≤ sN + 600000 ∧ am_sz h' ≤ am_sz (h0 xs) + 7302250)
theorem st_cls {s : State} {args : Array Value} (hts : ∀ w ∈ lw_tbl, w.before args s = true) : ∃ (dC : Nat → ClassId) (dI : Nat → Nat → Nat), ∀ ci, ci < cO → u_Kn s (cN ci) (cT ci) (cS ci) (dC ci) (dI ci) := by
  have h : ∀ ci : Nat, ∃ q : ClassId × (Nat → Nat), ci < cO → u_Kn s (cN ci) (cT ci) (cS ci) q.1 q.2 := by
    intro ci
    by_cases hc : ci < cO
    · obtain ⟨cC, iS, hk⟩ := u_known (ws := u_ws (cN ci) (cT ci) (cS ci)) (n := cS ci) (fun w hw => hts w (nm_lay ci hc w hw).1) (fun w hw => hw) (hts _ (nm_inst ci hc))
      exact ⟨(cC, iS), fun _ => hk⟩
    · exact ⟨(0, fun _ => 0), fun q => absurd q hc⟩
  obtain ⟨f, hf⟩ := Classical.axiomOfChoice h
  exact ⟨fun ci => (f ci).1, fun ci => (f ci).2, hf⟩
set_option maxHeartbeats 4000000 in
theorem whole_of {d : Nat} (hd1 : d ≤ 2048) (hd2 : d * 41 ≤ 84000) (hpure : ∀ xs : List Int32, xs.length ≤ 1025 → law_ok d xs) {p : Program} {e : Env} {s : State} {m : MethodId} {below : List Frame} {meth : Method} {c : Code} (l : Launch) {b L : Nat} {xs : Nat → Int32} (hL : L ≤ 1025) (C0 : lw_At p s m meth c b L xs) : W p l e room_1 s m #[Value.ref b] below meth c s.heap [] 0 0 (lw_Z below #[Value.ref b] s) (entryFrame m ([Value.ref b] : List Value).toArray (mL 0)) := by
  obtain ⟨hx, hb, hr, hml, hown, hts, hX, hbl, hlocks, hgv⟩ := C0
  have hfl := flat_of_before _ hgv
  obtain ⟨B, hB⟩ : ∃ B, B = s.heap.size := ⟨_, rfl⟩
  have hA : ∀ a : Nat, a < s.heap.size → ¬ (fun q => B ≤ q) a := fun a ha q => by
    have q : B ≤ a := q
    omega
  -- strings
  have hS0 : ∀ i : Nat, ∃ q : Nat × Nat, i < sS → (Term.string (sQ i).1 (sQ i).2).eval #[Value.ref b] s none [] s = some (.ref q.1) ∧ va_O "java/lang/String" q.1 (fun q => B ≤ q) s s.heap ∧ va_OF "java/lang/String" "coder" "B" (.int 0) q.1 (fun q => B ≤ q) s s.heap ∧ va_OF "java/lang/String" "value" "[B" (.ref q.2) q.1 (fun q => B ≤ q) s s.heap ∧ va_T .byte q.2 (sBl.getD i []).length (fun j => .int ((sBl.getD i []).getD j 0)) (fun q => B ≤ q) s s.heap := by
    intro i
    by_cases hi : i < sS
    · have hm : sBl.getD i [] ∈ sBl := by
        rw [List.getD_eq_getElem?_getD, List.getElem?_eq_getElem (by rw [sB_len]; exact hi)]
        exact List.getElem_mem _
      obtain ⟨q, hq⟩ := st_one (args := #[Value.ref b]) (fun c hc => hfl c (ss_all i hi c hc)) (sB_ok _ hm).1 hA
      exact ⟨q, fun _ => hq⟩
    · exact ⟨(0, 0), fun h => absurd h hi⟩
  obtain ⟨ad, had⟩ := Classical.axiomOfChoice hS0
  -- statics
  have hz0 : ∀ k, k < zNn → va_Z (zC k) (zN k) (zD k) (.int (zV k)) (fun q => B ≤ q) s s.heap := by
    intro k hk
    have hk : k < 1 := hk
    obtain rfl : k = 0 := by omega
    exact va_Zof (hts _ nm_z0.1) (hts _ nm_z0.2.1) (va_eqi (hfl _ nm_z0.2.2)) hA
  have hz1 := va_Zqof (A := fun q => B ≤ q) (hts _ nm_zo.1) (hts _ nm_zo.2.1) (hfl _ nm_zo.2.2) hA
  obtain ⟨o, hzo⟩ : ∃ o : Option Nat, va_Z oC oN oD (va_rf o) (fun q => B ≤ q) s s.heap := by
    rcases hz1 with h | ⟨t, h⟩
    · exact ⟨none, h⟩
    · exact ⟨some t, h⟩
  obtain ⟨dC0, dI0, hKn⟩ := st_cls hts
  have hs0 : (0 : Nat) < sS := by decide
  obtain ⟨-, ⟨scell, sc1, sc2, sc3, sc4⟩, ⟨cf1, kf1, fi1, f1, cl1, fa1, fb1, fc1, fd1, fe1, ff1⟩, ⟨cf2, kf2, fi2, f2, cl2, fa2, fb2, fc2, fd2, fe2, ff2⟩, -⟩ := had 0 hs0
  obtain ⟨dC, hdC, hdCs⟩ : ∃ dC : Nat → ClassId, (∀ ci, ci < cO → dC ci = dC0 ci) ∧ dC cO = scell.cls := ⟨fun ci => if ci = cO then scell.cls else dC0 ci, fun ci h => if_neg (Nat.ne_of_lt h), if_pos rfl⟩
  obtain ⟨dI, hdI, hdI0, hdI1⟩ : ∃ dI : Nat → Nat → Nat, (∀ ci, ci < cO → dI ci = dI0 ci) ∧ dI cO 0 = f2.slot ∧ dI cO 1 = f1.slot := ⟨fun ci k => if ci = cO then (if k = 0 then f2.slot else f1.slot) else dI0 ci k, fun ci h => funext fun k => if_neg (Nat.ne_of_lt h), by simp, by simp⟩
  obtain ⟨φ, hφo, hφK, hφV, hφb, hφn⟩ : ∃ φ : (Nat → Nat) × Option Nat, φ.2 = o ∧ (∀ i, i < sS → φ.1 (2 * i) = (ad i).1) ∧ (∀ i, i < sS → φ.1 (2 * i + 1) = (ad i).2) ∧ φ.1 (2 * sS) = b ∧ ∀ r, sN ≤ r → φ.1 r + sN = B + r := by
    refine ⟨(fun r => if r < 2 * sS then (if r % 2 = 0 then (ad (r / 2)).1 else (ad (r / 2)).2) else if r = 2 * sS then b else B + r - sN, o), rfl, fun i hi => ?_, fun i hi => ?_, ?_, fun r hr => ?_⟩
    · show (if 2 * i < 2 * sS then (if 2 * i % 2 = 0 then (ad (2 * i / 2)).1 else (ad (2 * i / 2)).2) else _) = _
      rw [if_pos (by omega), if_pos (by omega), show 2 * i / 2 = i by omega]
    · show (if 2 * i + 1 < 2 * sS then (if (2 * i + 1) % 2 = 0 then (ad ((2 * i + 1) / 2)).1 else (ad ((2 * i + 1) / 2)).2) else _) = _
      rw [if_pos (by omega), if_neg (by omega), show (2 * i + 1) / 2 = i by omega]
    · show (if 2 * sS < 2 * sS then (if 2 * sS % 2 = 0 then (ad (2 * sS / 2)).1 else (ad (2 * sS / 2)).2) else if 2 * sS = 2 * sS then b else B + 2 * sS - sN) = b
      rw [if_neg (by omega), if_pos rfl]
    · have e1 := sN_eq
      show (if r < 2 * sS then (if r % 2 = 0 then (ad (r / 2)).1 else (ad (r / 2)).2) else if r = 2 * sS then b else B + r - sN) + sN = B + r
      rw [if_neg (by omega), if_neg (by omega)]
      omega
  have hφ : sm_φ φ B := by
    refine ⟨fun r hr => ?_, hφn⟩
    have e1 := sN_eq
    rcases Nat.lt_or_ge r (2 * sS) with h | h
    · rcases Nat.mod_two_eq_zero_or_one r with h2 | h2
      · obtain ⟨i, rfl⟩ : ∃ i, r = 2 * i := ⟨r / 2, by omega⟩
        rw [hφK i (by omega), hB]
        obtain ⟨-, ⟨cell, c1, -⟩, -⟩ := had i (by omega)
        exact (Array.getElem?_eq_some_iff.mp c1).1
      · obtain ⟨i, rfl⟩ : ∃ i, r = 2 * i + 1 := ⟨r / 2, by omega⟩
        rw [hφV i (by omega), hB]
        obtain ⟨-, -, -, -, ⟨cell, c1, -⟩⟩ := had i (by omega)
        exact (Array.getElem?_eq_some_iff.mp c1).1
    · obtain rfl : r = 2 * sS := by omega
      rw [hφb, hB]
      exact hbl
  have hK : sm_K s dC dI := by
    refine ⟨fun ci k hc hk => ?_, fun ci hc => ?_, fun ci hc => ?_⟩
    · rcases Nat.lt_or_ge ci cO with h | h
      · obtain ⟨hS, hfc, kC, hkC, hkind⟩ := hKn ci h
        obtain ⟨cf, kf, fi, f, hi, hsl⟩ := hS k hk
        have hst := (u_facts hfc hkC (u_lays (ws := u_ws (cN ci) (cT ci) (cS ci)) (fun w hw => hts w (nm_lay ci h w hw).1) (fun w hw => hw) hk) hi).1
        exact ⟨cf, kf, fi, f, hi, by rw [hdI ci h]; exact hsl, hst⟩
      · have hc : ci < cO + 1 := hc
        obtain rfl : ci = cO := by omega
        have hk : k < 2 := hk
        rcases (show k = 0 ∨ k = 1 by omega) with rfl | rfl
        · exact ⟨cf2, kf2, fi2, f2, fa2, hdI0.symm, fb2⟩
        · exact ⟨cf1, kf1, fi1, f1, fa1, hdI1.symm, fb1⟩
    · rw [hdC ci hc, hdI ci hc]
      exact hKn ci hc
    · rcases Nat.lt_or_ge ci cO with h | h
      · rw [hdC ci h]
        exact (hKn ci h).2.1
      · have hc : ci < cO + 1 := hc
        obtain rfl : ci = cO := by omega
        rw [hdCs]
        exact sc3
  obtain ⟨xl, hxl⟩ : ∃ xl : List Int32, xl = (List.range L).map xs := ⟨_, rfl⟩
  have hxlen : xl.length = L := by rw [hxl]; simp
  have hH : sm_H s φ dC dI B s.heap (h0 xl) := by
    refine ⟨by rw [h0_len, hB], by rw [h0_len]; exact Nat.le_refl _, fun r x hx0 => ?_, hz0, by rw [hφo]; exact hzo⟩
    have e1 := sN_eq
    have hr : r < sN := by
      have := (List.getElem?_eq_some_iff.mp hx0).1
      rwa [h0_len] at this
    rcases Nat.lt_or_ge r (2 * sS) with h | h
    · have hx1 : sH[r]? = some x := by
        rw [h0, List.getElem?_append_left (by rw [sH_len]; exact h)] at hx0
        exact hx0
      rcases Nat.mod_two_eq_zero_or_one r with h2 | h2
      · obtain ⟨i, rfl⟩ : ∃ i, r = 2 * i := ⟨r / 2, by omega⟩
        have hi : i < sS := by omega
        rw [(sH_at i hi).1] at hx1
        cases hx1
        obtain ⟨-, ⟨cell, c1, c2, c3, c4⟩, ⟨cg1, kg1, gi1, g1, dl1, ga1, gb1, gc1, gd1, ge1, gf1⟩, ⟨cg2, kg2, gi2, g2, dl2, ga2, gb2, gc2, gd2, ge2, gf2⟩, -⟩ := had i hi
        cases c1.symm.trans gc1
        cases c1.symm.trans gc2
        cases ga1.symm.trans fa1
        cases ga2.symm.trans fa2
        refine ⟨cell, by rw [hφK i hi]; exact c1, gd1, (fun k q => by rw [q] at c2; cases c2), fun q => absurd q (by omega), by decide, ?_, rfl, fun k v hv => ?_⟩
        · rw [hdCs]
          exact Option.some.inj (c3.symm.trans sc3)
        · match k, hv with
          | 0, hv =>
            cases hv
            show cell.slots[dI cO 0]? = some (.ref (φ.1 (2 * i + 1)))
            rw [hdI0, hφV i hi]
            exact ge2
          | 1, hv =>
            cases hv
            show cell.slots[dI cO 1]? = some (.int 0)
            rw [hdI1]
            exact ge1
          | k + 2, hv => cases hv
      · obtain ⟨i, rfl⟩ : ∃ i, r = 2 * i + 1 := ⟨r / 2, by omega⟩
        have hi : i < sS := by omega
        rw [(sH_at i hi).2] at hx1
        cases hx1
        obtain ⟨-, -, -, -, ⟨cell, t1, t2, t3, t4, t5, t6, t7⟩⟩ := had i hi
        obtain ⟨tv, kA, tk, comp, tkind⟩ := t2
        have hm : sBl.getD i [] ∈ sBl := by
          rw [List.getD_eq_getElem?_getD, List.getElem?_eq_getElem (by rw [sB_len]; exact hi)]
          exact List.getElem_mem _
        refine ⟨cell, by rw [hφV i hi]; exact t1, t3, tv, fun q => absurd q (by omega), ⟨kA, comp, tk, tkind, fun C q => by cases q⟩, by rw [List.length_map]; exact t4, by rw [List.length_map]; exact t5, fun _ v hv => ?_, fun j v hv => ?_⟩
        · obtain ⟨z, hz, rfl⟩ := List.mem_map.mp hv
          exact (sB_ok _ hm).2 z hz
        · rw [List.getElem?_map] at hv
          cases hj : (sBl.getD i [])[j]? with
          | none => rw [hj] at hv; cases hv
          | some z =>
            rw [hj] at hv
            cases hv
            have hjl := (List.getElem?_eq_some_iff.mp hj).1
            have t8 : cell.slots[j]? = some (.int ((sBl.getD i []).getD j 0)) := t6 j hjl
            rw [List.getD_eq_getElem?_getD (l := sBl.getD i []), hj] at t8
            exact t8
    · obtain rfl : r = 2 * sS := by omega
      have hx1 : x = (.inl .int, xl.map Value.int) := by
        rw [h0, List.getElem?_append_right (by rw [sH_len]; exact Nat.le_refl _), sH_len, Nat.sub_self] at hx0
        exact (Option.some.inj hx0).symm
      subst hx1
      obtain ⟨scr, x1, x2, x3, x4, x5⟩ := hX
      obtain ⟨tv, kA, tk, comp, tkind⟩ := x2
      refine ⟨scr, by rw [hφb]; exact x1, x3, tv, fun q => absurd q (by omega), ⟨kA, comp, tk, tkind, fun C q => by cases q⟩, by rw [List.length_map, hxlen, x4]; exact Nat.le_refl _, by rw [List.length_map, hxlen, x4], fun _ v hv => ?_, fun j v hv => ?_⟩
      · obtain ⟨z, hz, rfl⟩ := List.mem_map.mp hv
        rfl
      · have hj : j < L := by
          have := (List.getElem?_eq_some_iff.mp hv).1
          rw [List.length_map, hxlen] at this
          exact this
        have e2 : v = .int (xs j) := by
          rw [hxl, List.map_map, List.getElem?_map, List.getElem?_range hj] at hv
          exact (Option.some.inj hv).symm
        rw [e2]
        exact x5 j hj
  have hSt : ∀ q ∈ sKl, ∃ tx, vk_R q.1.1 q.1.2 tx (φ.1 q.2) s := by
    intro q hq
    obtain ⟨i, hi⟩ := List.getElem?_of_mem hq
    have hil : i < sS := by
      have := (List.getElem?_eq_some_iff.mp hi).1
      rwa [sK_len] at this
    rw [sK_ok i hil] at hi
    cases hi
    obtain ⟨tx, htx⟩ := ss_ref i hil
    exact ⟨tx, vk_R.of (hts _ htx) (by rw [hφK i hil]; exact (had i hil).1)⟩
  obtain ⟨n, r, h', hrun, hr1, hl1, hl2⟩ := hpure xl (by rw [hxlen]; exact hL)
  subst hr1
  have sim := sm_sim (l := l) (a0 := #[Value.ref b]) ⟨hts, hK, hφ, hSt⟩ f_all n d 0 0 _ _ _ _ _ hrun
  have mono := (am_run_mono _ _ _ _ _ _ _ _ _ hrun).1
  rw [h0_len] at mono
  have e3 : sm_s φ [.ref (2 * sS)] = [.ref b] := by
    show [Value.ref (φ.1 (2 * sS))] = _
    rw [hφb]
  have ent := sm_entry φ (n := mL 0) [.ref (2 * sS)] (by decide)
  rw [e3] at ent
  rw [lg_entry_eq]
  refine sim p e room_1 s m #[Value.ref b] below meth c (lw_Z below #[Value.ref b] s) 0 0 (h'.length - sN) (am_sz h' - am_sz (h0 xl)) ⟨hx, hb, hml, hown, State.WarmedH.refl s, hts, hK, hφ, hSt, hd1, hd2, fun q => absurd q (by decide)⟩ (by rw [h0_len]; omega) (by omega) (by show h'.length - sN ≤ 600000; omega) (by show am_sz h' - am_sz (h0 xl) ≤ 7302250; omega) ?_ s.heap [] _ hH ent (fun q hq => by cases hq)
  intro H' locs' cls' pc' hH' hq' hd'
  refine va_forget (fun q hq => by rw [← hB]; exact hq' q hq) ?_
  refine W.widen (k := 600000) (n := 7302250) (by omega) (by omega) ?_
  exact lw_ret hx hb hr hlocks hd'
