/-! WHAT A RUN IS, IS WHAT THE MACHINE DOES -/
theorem am_step_mono {d len pc pc' : Nat} {i : Instr} {ls ls' : AL} {st st' : List Value} {h h' : AH} (hs : am_step d i len pc ls st h = some (pc', ls', st', h')) : h.length ≤ h'.length ∧ am_sz h ≤ am_sz h' := by
  unfold am_step at hs
  split at hs <;> first
    | (obtain ⟨-, -, -, rfl⟩ := am_nx_inv hs; exact ⟨Nat.le_refl _, Nat.le_refl _⟩)
    | skip
  all_goals first
    | (split at hs <;> first
        | (obtain ⟨-, -, -, rfl⟩ := am_nx_inv hs; exact ⟨Nat.le_refl _, Nat.le_refl _⟩)
        | (split at hs <;> first
            | (cases hs; exact ⟨Nat.le_refl _, Nat.le_refl _⟩)
            | (cases hs; exact ⟨by simp, by rw [am_sz_app]; omega⟩)
            | (obtain ⟨-, -, -, rfl⟩ := am_nx_inv hs; exact ⟨Nat.le_refl _, Nat.le_refl _⟩)
            | (obtain ⟨ho, -, -, -⟩ := am_as_inv hs; obtain ⟨ty, vs, hr, -, -, -, -, rfl⟩ := am_ast_inv ho; exact ⟨by simp, Nat.le_of_eq (am_sz_set hr (List.length_set ..)).symm⟩)
            | cases hs)
        | (obtain ⟨ho, -, -, -⟩ := am_as_inv hs; obtain ⟨ty, vs, hr, -, -, -, -, rfl⟩ := am_ast_inv ho; exact ⟨by simp, Nat.le_of_eq (am_sz_set hr (List.length_set ..)).symm⟩)
        | (cases hs; exact ⟨Nat.le_refl _, Nat.le_refl _⟩)
        | cases hs)
    | (obtain ⟨ho, -, -⟩ := am_nh_inv hs; first | (have q := am_putf_sz ho; omega) | (have q := am_copy_sz ho; omega))
    | (cases hs; exact ⟨by simp, by rw [am_sz_app]; omega⟩)
theorem am_run_mono : ∀ (n d mid pc : Nat) (ls : AL) (st : List Value) (h : AH) (r : Option Value) (h' : AH), am_run d n mid pc ls st h = some (r, h') → (h.length ≤ h'.length ∧ am_sz h ≤ am_sz h') ∧ am_rok (mR mid) r = true := by
  intro n
  induction n with
  | zero => intro d mid pc ls st h r h' hr; simp [am_run] at hr
  | succ n ih =>
    intro d mid pc ls st h r h' hr
    unfold am_run at hr
    split at hr
    · cases hr
    · rename_i i len hrc
      split at hr
      · rename_i r0 hret
        split at hr
        · rename_i hok
          cases hr
          exact ⟨⟨Nat.le_refl _, Nat.le_refl _⟩, hok⟩
        · cases hr
      · split at hr
        · rename_i cm as rest hcall
          split at hr
          · cases hr
          · rename_i d'
            split at hr
            · split at hr
              · rename_i r1 h1 hr1
                have q1 := (ih _ _ _ _ _ _ _ _ hr1).1
                have q2 := ih _ _ _ _ _ _ _ _ hr
                exact ⟨⟨by omega, by omega⟩, q2.2⟩
              · cases hr
            · cases hr
        · split at hr
          · rename_i pc' ls' st' h1 hs
            have q1 := am_step_mono hs
            have q2 := ih _ _ _ _ _ _ _ _ hr
            exact ⟨⟨by omega, by omega⟩, q2.2⟩
          · cases hr
def sm_ri (r : Option Value) : Instr := match r with
  | none => .return_
  | some (.int _) => .ireturn
  | some (.long _) => .lreturn
  | some _ => .areturn
def sm_Sim (l : Launch) (s0 : State) (a0 : Array Value) (φ : (Nat → Nat) × Option Nat) (dC : Nat → ClassId) (dI : Nat → Nat → Nat) (B d mid pc : Nat) (ls : AL) (st : List Value) (h : AH) (r : Option Value) (h' : AH) : Prop :=
  ∀ (p : Program) (e : Env) (R : Room) (s : State) (m : MethodId) (args : Array Value) (below : List Frame) (meth : Method) (c : Code) (Q : State → Prop) (cells slots cf sf : Nat), sm_X p R s m meth c s0 a0 φ dC dI B mid d → cf + h.length = cells + h'.length → sf + am_sz h = slots + am_sz h' → cf ≤ R.cells → sf ≤ R.slots →
    (∀ (H' : Heap) (locs' : List Loc) (cls' : Array Slot) (pc' : Nat), sm_H s0 φ dC dI B H' h' → (∀ q ∈ locs', B ≤ q.base) → decode (mB mid) pc' = .ok (sm_ri r, 1) → W p l e R s m args below meth c H' locs' cf sf Q (F0 m pc' cls' (sm_s φ r.toList))) →
    sm_G p l e R s m args below meth c Q s0 φ dC dI B (mL mid) cells slots pc ls st h
def sm_Pc (s0 : State) (φ : (Nat → Nat) × Option Nat) (dC : Nat → ClassId) (dI : Nat → Nat → Nat) (B : Nat) (vs : List Value) (h : AH) : Array Value → State → Prop := fun a U => a = (sm_s φ vs).toArray ∧ s0.WarmedH U.vm ∧ sm_H s0 φ dC dI B U.heap h
def sm_Qc (s0 : State) (φ : (Nat → Nat) × Option Nat) (dC : Nat → ClassId) (dI : Nat → Nat → Nat) (B : Nat) (r : Option Value) (h : AH) : Array Value → State → Outcome → State → Prop := fun _ _ o t => o = .returned (r.map (sm_v φ)) ∧ s0.WarmedH t.vm ∧ sm_H s0 φ dC dI B t.heap h
/-- what stands of the start alone -/
def sm_X0 (s0 : State) (a0 : Array Value) (φ : (Nat → Nat) × Option Nat) (dC : Nat → ClassId) (dI : Nat → Nat → Nat) (B : Nat) : Prop := (∀ w ∈ lw_tbl, w.before a0 s0 = true) ∧ sm_K s0 dC dI ∧ sm_φ φ B ∧ (∀ q ∈ sKl, ∃ tx, vk_R q.1.1 q.1.2 tx (φ.1 q.2) s0)
theorem sm_met {l : Launch} {s0 : State} {a0 : Array Value} {φ : (Nat → Nat) × Option Nat} {dC : Nat → ClassId} {dI : Nat → Nat → Nat} {B d cm : Nat} {vs : List Value} {h h1 : AH} {r : Option Value} (X0 : sm_X0 s0 a0 φ dC dI B) (hM : sm_M cm) (hen : (am_en vs).length ≤ mL cm) (hm : h.length ≤ h1.length ∧ am_sz h ≤ am_sz h1) (hok : am_rok (mR cm) r = true)
    (sim : sm_Sim l s0 a0 φ dC dI B d cm 0 (am_entry (mL cm) vs) [] h r h1) :
    Met l (mN cm) [.code (mN cm) (mB cm) (mL cm) (mR cm)] { frames := d, cells := h1.length - h.length, slots := am_sz h1 - am_sz h, locals := d * kL } (sm_Pc s0 φ dC dI B vs h) (sm_Qc s0 φ dC dI B r h1) (h1.length - h.length) (am_sz h1 - am_sz h) (fun q => B ≤ q) := by
  refine Met.ofW (cc := mB cm) (maxL := mL cm) (ret := mR cm) hM.2.1 rfl ?_
  intro p e s m args below meth c s₁ Bd hml hv
  obtain ⟨rfl, hW, hH⟩ := hv
  have hx := Bd.exec
  have hb := Bd.bytes
  have hr := Bd.returns
  have hown : s.vm.findClass (mN cm).cls = some m.cls := findClass_of_methodNamed Bd.named
  have hlocks := Bd.notSynchronized
  have hnm := (name_of_methodNamed Bd.named Bd.method).1
  rw [lg_entry_eq]
  refine sim p e _ s m _ below meth c _ 0 0 (h1.length - h.length) (am_sz h1 - am_sz h) ⟨hx, hb, hml, hown, hW, X0.1, X0.2.1, X0.2.2.1, X0.2.2.2, Nat.le_refl _, Nat.le_refl _, fun q => hnm.trans q⟩ (by omega) (by omega) (Nat.le_refl _) (Nat.le_refl _) ?_ s.heap [] _ hH (sm_entry φ vs hen) (fun q hq => by cases hq)
  intro H' locs' cls' pc' hH' hq' hd'
  have hQ : ∀ t : State, t.heap = H' → s.WarmedH t.vm → sm_Qc s0 φ dC dI B r h1 ((sm_s φ vs).toArray) s (.returned (r.map (sm_v φ))) t := fun t ht hWt => ⟨rfl, State.WarmedH.trans hW hWt, by rw [ht]; exact hH'⟩
  cases r with
  | none =>
    have hmr : mR cm = none := by
      cases hq : mR cm with
      | none => rfl
      | some ty => rw [hq] at hok; cases hok
    exact W.vret hx hb (hr.trans hmr) hQ hq' hd' hlocks
  | some v =>
    obtain ⟨ty, hmr⟩ : ∃ ty, mR cm = some ty := by
      cases hq : mR cm with
      | none => rw [hq] at hok; cases hok
      | some ty => exact ⟨ty, rfl⟩
    rw [hmr] at hok
    have hok : (am_rv v && (decide (narrow ty v = v) && fits ty v)) = true := hok
    rw [Bool.and_eq_true, Bool.and_eq_true] at hok
    have hn := of_decide_eq_true hok.2.1
    have hf := hok.2.2
    have hrv := hok.1
    cases v with
    | int x => exact W.zret hx hb (hr.trans hmr) hn hQ hq' hd' hlocks
    | long x =>
      have hty : ty = .long := by cases ty <;> first | rfl | cases hf
      subst hty
      exact W.lret hx hb (hr.trans hmr) hQ hq' hd' hlocks
    | ref x =>
      refine W.aret (v := .ref (φ.1 x)) hx hb (hr.trans hmr) ?_ (Or.inr ⟨_, rfl⟩) hQ hq' hd' hlocks
      cases ty <;> first | exact Or.inl ⟨_, rfl⟩ | exact Or.inr ⟨_, rfl⟩ | cases hf
    | null =>
      refine W.aret (v := .null) hx hb (hr.trans hmr) ?_ (Or.inl rfl) hQ hq' hd' hlocks
      cases ty <;> first | exact Or.inl ⟨_, rfl⟩ | exact Or.inr ⟨_, rfl⟩ | cases hf
    | float x => cases hrv
    | double x => cases hrv
    | retAddr x => cases hrv
theorem sm_blind {s0 : State} {φ : (Nat → Nat) × Option Nat} {dC : Nat → ClassId} {dI : Nat → Nat → Nat} {B : Nat} {vs : List Value} {h : AH} : FrameBlind (sm_Pc s0 φ dC dI B vs h) := fun _ _ _ _ q => ⟨q.1, q.2.1, q.2.2⟩
theorem am_ret_inv {i : Instr} {st : List Value} {r : Option Value} (h : am_ret i st = some r) : i = sm_ri r ∧ st = r.toList := by
  unfold am_ret at h
  split at h <;> (try split at h) <;> first | (cases h; exact ⟨rfl, rfl⟩) | cases h
theorem sm_F_ret {mid pc len : Nat} {r : Option Value} (h : sm_F mid pc (sm_ri r) len) : decode (mB mid) pc = .ok (sm_ri r, 1) := by
  match r, h with
  | none, h => exact h.1
  | some (.int _), h => exact h.1
  | some (.long _), h => exact h.1
  | some (.ref _), h => exact h.1
  | some .null, h => exact h.1
  | some (.float _), h => exact h.1
  | some (.double _), h => exact h.1
  | some (.retAddr _), h => exact h.1
/-- a call, with what came back -/
theorem sm_back {p : Program} {l : Launch} {e : Env} {R : Room} {s : State} {m : MethodId} {args : Array Value} {below : List Frame} {meth : Method} {c : Code} {Q : State → Prop} {s0 : State} {φ : (Nat → Nat) × Option Nat} {dC : Nat → ClassId} {dI : Nat → Nat → Nat} {B nL cells slots pc mc ms : Nat} {ls : AL} {st rest : List Value} {h1 : AH} {r : Option Value} {a : Array Value} {H : Heap} {locs : List Loc} {cls : Array Slot}
    (hr : va_Run p l e R s m args below meth c H locs cells slots mc ms (F0 m pc cls (sm_s φ st)) (sm_s φ rest) (sm_Qc s0 φ dC dI B r h1 a) (fun q => B ≤ q)) (hL : sm_L φ nL cls ls) (hq : ∀ q ∈ locs, B ≤ q.base)
    (k : sm_G p l e R s m args below meth c Q s0 φ dC dI B nL (cells + mc) (slots + ms) (pc + 3) ls (r.toList ++ rest) h1) : W p l e R s m args below meth c H locs cells slots Q (F0 m pc cls (sm_s φ st)) := by
  intro T hT X
  obtain ⟨v, st₀, t, T', L, -, X', hLq, e1, -, ⟨hv, -, hHt⟩, go⟩ := hr T hT X
  obtain ⟨t2, a1, b1⟩ := k T'.heap (locs ++ L) cls (by rw [e1]; exact hHt) hL (fun q h => by
    rcases List.mem_append.mp h with h | h
    · exact hq q h
    · exact hLq q h) T' rfl X'
  have hv2 : v = r.map (sm_v φ) := by injection hv
  subst hv2
  refine ⟨t2, go t2 ?_, b1⟩
  have e2 : sm_s φ (r.toList ++ rest) = (r.map (sm_v φ)).toList ++ sm_s φ rest := by cases r <;> rfl
  rw [e2] at a1
  exact a1

theorem sm_take {n : Nat} {st : List Value} (h : (st.take n).reverse.length = n) : st = (st.take n).reverse.reverse ++ st.drop n := by
  rw [List.reverse_reverse, List.take_append_drop]
theorem sm_take1 {n b : Nat} {st vs : List Value} (h : (st.take (n + 1)).reverse = .ref b :: vs) : st = vs.reverse ++ .ref b :: st.drop (n + 1) := by
  have e : st.take (n + 1) = vs.reverse ++ [.ref b] := by
    rw [← List.reverse_reverse (st.take (n + 1)), h, List.reverse_cons]
  calc st = st.take (n + 1) ++ st.drop (n + 1) := (List.take_append_drop ..).symm
    _ = _ := by rw [e, List.append_assoc]; rfl
theorem sm_s_app (φ : (Nat → Nat) × Option Nat) (a b : List Value) : sm_s φ (a ++ b) = sm_s φ a ++ sm_s φ b := List.map_append
theorem sm_s_rev (φ : (Nat → Nat) × Option Nat) (a : List Value) : sm_s φ a.reverse = (sm_s φ a).reverse := List.map_reverse
set_option maxHeartbeats 4000000 in
theorem sm_sim {l : Launch} {s0 : State} {a0 : Array Value} {φ : (Nat → Nat) × Option Nat} {dC : Nat → ClassId} {dI : Nat → Nat → Nat} {B : Nat} (X0 : sm_X0 s0 a0 φ dC dI B) (hFs : ∀ mid pc i len, rc mid pc = some (i, len) → sm_F mid pc i len) :
    ∀ (n d mid pc : Nat) (ls : AL) (st : List Value) (h : AH) (r : Option Value) (h' : AH), am_run d n mid pc ls st h = some (r, h') → sm_Sim l s0 a0 φ dC dI B d mid pc ls st h r h' := by
  intro n
  induction n with
  | zero => intro d mid pc ls st h r h' hr; simp [am_run] at hr
  | succ n ih =>
    intro d mid pc ls st h r h' hr
    unfold am_run at hr
    split at hr
    · cases hr
    · rename_i i len hrc
      have hF := hFs _ _ _ _ hrc
      split at hr
      · rename_i r0 hret
        split at hr
        · cases hr
          obtain ⟨rfl, rfl⟩ := am_ret_inv hret
          intro p e R s m args below meth c Q cells slots cf sf X hc hz hcR hsR hfin H locs cls hH hL hq
          obtain rfl : cf = cells := by omega
          obtain rfl : sf = slots := by omega
          exact hfin H locs cls pc hH hq (sm_F_ret hF)
        · cases hr
      · split at hr
        · rename_i cm vs rest hcall
          split at hr
          · cases hr
          · rename_i d'
            split at hr
            · rename_i hok
              split at hr
              · rename_i r1 h1 hr1
                have q1 := am_run_mono _ _ _ _ _ _ _ _ _ hr1
                have q2 := am_run_mono _ _ _ _ _ _ _ _ _ hr
                have s1 := ih _ _ _ _ _ _ _ _ hr1
                have s2 := ih _ _ _ _ _ _ _ _ hr
                intro p e R s m args below meth c Q cells slots cf sf X hc hz hcR hsR hfin H locs cls hH hL hq
                obtain ⟨hx, hb, hml, hown, hW, hT, hK, hφ, hSt, hRf, hRl, hini⟩ := id X
                have hal := hW.alike
                have k := s2 p e R s m args below meth c Q (cells + (h1.length - h.length)) (slots + (am_sz h1 - am_sz h)) cf sf X (by omega) (by omega) hcR hsR hfin
                have room : ∀ mm, sm_M mm → mm = cm → d' + 1 ≤ R.frames ∧ 8 + (mL cm + 11) + d' * kL ≤ R.locals := by
                  intro mm hM e1
                  subst e1
                  have := hM.2.2.2.2.2
                  refine ⟨hRf, ?_⟩
                  rw [Nat.succ_mul] at hRl
                  omega
                have pay : sm_M cm → ∀ w ∈ [Cond.code (mN cm) (mB cm) (mL cm) (mR cm)], ∀ (a' : Array Value) (U : State), s.WarmedH U.vm → w.before a' U = true := by
                  intro hM w hw a' U hWU
                  rw [List.mem_singleton.mp hw]
                  exact sm_at (State.WarmedH.trans hW hWU) hM.1.2 (hT _ hM.1.1)
                have sig : sm_M cm → ∀ sg, parseMethodDescriptor (mN cm).desc = some sg → mA cm = sg.parameters.length := by
                  intro hM sg hsg
                  have h2 := hM.2.2.2.1
                  rw [hsg] at h2
                  exact (Option.some.inj h2).symm
                have pre : ∀ U : State, U.heap = H → s.WarmedH U.vm → sm_Pc s0 φ dC dI B vs h (sm_s φ vs).toArray U := fun U hU hWU => ⟨rfl, State.WarmedH.trans hW hWU, by rw [hU]; exact hH⟩
                cases i with
                | invokestatic cm' =>
                  have hcall : some (cm', (st.take (mA cm')).reverse, st.drop (mA cm')) = some (cm, vs, rest) := hcall
                  cases hcall
                  have hok := of_decide_eq_true (show decide _ = true from hok)
                  obtain ⟨rfl, hM, w1, x, hd, hl⟩ := hF
                  have met := sm_met X0 hM hok.2.1 q1.1 q1.2 s1
                  obtain ⟨rm1, rm2⟩ := room cm hM rfl
                  have hst := sm_take hok.1
                  have stk : sm_s φ st = (sm_s φ (st.take (mA cm)).reverse).reverse ++ sm_s φ (st.drop (mA cm)) := by
                    rw [← sm_s_rev, ← sm_s_app, ← hst]
                  have hcat : ((sm_s φ (st.drop (mA cm))).map fun v => v.category).sum ≤ 8 := by rw [sm_cats]; exact hok.2.2
                  have hlen : (sm_s φ (st.take (mA cm)).reverse).length = mA cm := by unfold sm_s; rw [List.length_map]; exact hok.1
                  rcases hl with hl | ⟨host, hl⟩
                  · exact sm_back (va_runS (Ts := []) (bytes := mB cm) (maxL := mL cm) (ret := mR cm) ⟨hx, hb, hml, hown, fun w h => by cases h⟩ met ⟨⟨rfl, rfl, rm1, rm2, pay hM, List.mem_cons_self, X.w hM.1, X.w hM.2.2.2.2.1, hM.2.2.1, sig hM, X.w hl⟩, X.w w1⟩ ⟨sm_blind, pre⟩ rfl hlen hL.2.1 stk (lv_room hcat) hd ⟨by omega, by omega⟩) hL hq k
                  · exact sm_back (va_runSN (Ts := []) (bytes := mB cm) (maxL := mL cm) (ret := mR cm) (host := host) ⟨hx, hb, hml, hown, fun w h => by cases h⟩ met ⟨⟨⟨rfl, rfl, rm1, rm2, pay hM, List.mem_cons_self⟩, X.w hM.1, X.w hM.2.2.2.2.1, hM.2.2.1, sig hM, X.w hl⟩, X.w w1, trivial⟩ ⟨sm_blind, pre⟩ rfl hlen hL.2.1 stk (lv_room hcat) hd ⟨by omega, by omega⟩) hL hq k
                | invokespecial cm' =>
                  have hcall : some (cm', (st.take (mA cm' + 1)).reverse, st.drop (mA cm' + 1)) = some (cm, vs, rest) := hcall
                  obtain ⟨rfl, e1, rfl⟩ : cm' = cm ∧ (st.take (mA cm' + 1)).reverse = vs ∧ st.drop (mA cm' + 1) = rest := by cases hcall; exact ⟨rfl, rfl, rfl⟩
                  obtain ⟨b, us, rfl, hok⟩ : ∃ b us, vs = .ref b :: us ∧ (vs.length = mA cm' + 1 ∧ (am_en vs).length ≤ mL cm' ∧ am_cat (st.drop (mA cm' + 1)) ≤ 8) := by
                    match vs, hok with
                    | .ref b :: us, hok => exact ⟨b, us, rfl, of_decide_eq_true (show decide _ = true from hok)⟩
                    | [], hok => cases hok
                    | .int _ :: _, hok => cases hok
                    | .long _ :: _, hok => cases hok
                    | .float _ :: _, hok => cases hok
                    | .double _ :: _, hok => cases hok
                    | .null :: _, hok => cases hok
                    | .retAddr _ :: _, hok => cases hok
                  obtain ⟨rfl, hM, w1, hnm, hret0, x, hd, hl⟩ := hF
                  have met := sm_met X0 hM hok.2.1 q1.1 q1.2 s1
                  obtain ⟨rm1, rm2⟩ := room cm' hM rfl
                  have hst := sm_take1 e1
                  have stk : sm_s φ st = (sm_s φ us).reverse ++ .ref (φ.1 b) :: sm_s φ (st.drop (mA cm' + 1)) := by
                    conv => lhs; rw [hst]
                    rw [sm_s_app, sm_s_rev]
                    rfl
                  have hcat : ((sm_s φ (st.drop (mA cm' + 1))).map fun v => v.category).sum ≤ 8 := by rw [sm_cats]; exact hok.2.2
                  have hlen : (sm_s φ us).length = mA cm' := by
                    have h3 := hok.1
                    unfold sm_s
                    rw [List.length_map]
                    simpa using h3
                  have w0 := hM.1
                  rw [hret0] at w0 met pay
                  rcases hl with hl | ⟨host, hl⟩
                  · exact sm_back (va_runI (Ts := []) (b := φ.1 b) (bytes := mB cm') (maxL := mL cm') ⟨hx, hb, hml, hown, fun w h => by cases h⟩ met ⟨⟨rfl, rfl, rm1, rm2, pay hM, List.mem_cons_self, X.w w0, X.w hM.2.2.2.2.1, hM.2.2.1, sig hM, X.w hl⟩, hnm, X.w w1⟩ ⟨sm_blind, pre⟩ rfl hlen hL.2.1 stk (lv_room hcat) hd ⟨by omega, by omega⟩) hL hq k
                  · exact sm_back (va_runIN (Ts := []) (b := φ.1 b) (bytes := mB cm') (maxL := mL cm') (host := host) ⟨hx, hb, hml, hown, fun w h => by cases h⟩ met ⟨⟨⟨rfl, rfl, rm1, rm2, pay hM, List.mem_cons_self⟩, X.w w0, X.w hM.2.2.2.2.1, hM.2.2.1, sig hM, X.w hl⟩, hnm, X.w w1⟩ ⟨sm_blind, pre⟩ rfl hlen hL.2.1 stk (lv_room hcat) hd ⟨by omega, by omega⟩) hL hq k
                | invokevirtual cm' =>
                  have hcall : some (cm', (st.take (mA cm' + 1)).reverse, st.drop (mA cm' + 1)) = some (cm, vs, rest) := hcall
                  obtain ⟨rfl, e1, rfl⟩ : cm' = cm ∧ (st.take (mA cm' + 1)).reverse = vs ∧ st.drop (mA cm' + 1) = rest := by cases hcall; exact ⟨rfl, rfl, rfl⟩
                  obtain ⟨b, us, fs, rfl, hbr, hok⟩ : ∃ b us fs, vs = .ref b :: us ∧ h[b]? = some (.inr (mC cm'), fs) ∧ (vs.length = mA cm' + 1 ∧ (am_en vs).length ≤ mL cm' ∧ am_cat (st.drop (mA cm' + 1)) ≤ 8) := by
                    match vs, hok with
                    | .ref b :: us, hok =>
                      have hok : (match h[b]? with | some (.inr ci, _) => decide (ci = mC cm' ∧ (Value.ref b :: us).length = mA cm' + 1 ∧ (am_en (.ref b :: us)).length ≤ mL cm' ∧ am_cat (st.drop (mA cm' + 1)) ≤ 8) | _ => false) = true := hok
                      split at hok
                      · rename_i ci fs hbr
                        obtain ⟨rfl, hk2⟩ := of_decide_eq_true hok
                        exact ⟨b, us, fs, rfl, hbr, hk2⟩
                      · cases hok
                    | [], hok => cases hok
                    | .int _ :: _, hok => cases hok
                    | .long _ :: _, hok => cases hok
                    | .float _ :: _, hok => cases hok
                    | .double _ :: _, hok => cases hok
                    | .null :: _, hok => cases hok
                    | .retAddr _ :: _, hok => cases hok
                  obtain ⟨rfl, hM, w1, w2, hcn, hca, x, hd, hl⟩ := hF
                  have met := sm_met X0 hM hok.2.1 q1.1 q1.2 s1
                  obtain ⟨rm1, rm2⟩ := room cm' hM rfl
                  have hst := sm_take1 e1
                  have stk : sm_s φ st = (sm_s φ us).reverse ++ .ref (φ.1 b) :: sm_s φ (st.drop (mA cm' + 1)) := by
                    conv => lhs; rw [hst]
                    rw [sm_s_app, sm_s_rev]
                    rfl
                  have hcat : ((sm_s φ (st.drop (mA cm' + 1))).map fun v => v.category).sum ≤ 8 := by rw [sm_cats]; exact hok.2.2
                  have hlen : (sm_s φ us).length = mA cm' := by
                    have h3 := hok.1
                    unfold sm_s
                    rw [List.length_map]
                    simpa using h3
                  have recv : ∃ cellB : Cell, H[φ.1 b]? = some cellB ∧ cellB.vm.isStatics = false ∧ s.vm.findClass (mN cm').cls = some cellB.cls := by
                    obtain ⟨cell, g1, g2, g3, g4, g0, g5, -⟩ := hH.2.2.1 b _ hbr
                    refine ⟨cell, g1, ?_, ?_⟩
                    · cases hv : cell.vm with
                      | statics k => exact absurd hv (g3 k)
                      | _ => rfl
                    · rw [← hcn, hal.findClass, g5]
                      exact hK.2.2 _ hca
                  rcases hl with hl | ⟨host, hl⟩
                  · exact sm_back (va_runV (Ts := []) (b := φ.1 b) (C := (mN cm').cls) (bytes := mB cm') (maxL := mL cm') (ret := mR cm') ⟨hx, hb, hml, hown, fun w h => by cases h⟩ met ⟨⟨rfl, rfl, rm1, rm2, pay hM, List.mem_cons_self, X.w hM.1, X.w hM.2.2.2.2.1, hM.2.2.1, sig hM, X.w hl⟩, X.w w1, X.w w2⟩ ⟨sm_blind, recv, pre⟩ rfl hlen hL.2.1 stk (lv_room hcat) hd ⟨by omega, by omega⟩) hL hq k
                  · exact sm_back (va_runVN (Ts := []) (b := φ.1 b) (C := (mN cm').cls) (bytes := mB cm') (maxL := mL cm') (ret := mR cm') (host := host) ⟨hx, hb, hml, hown, fun w h => by cases h⟩ met ⟨⟨⟨rfl, rfl, rm1, rm2, pay hM, List.mem_cons_self⟩, X.w hM.1, X.w hM.2.2.2.2.1, hM.2.2.1, sig hM, X.w hl⟩, X.w w1, X.w w2⟩ ⟨sm_blind, recv, pre⟩ rfl hlen hL.2.1 stk (lv_room hcat) hd ⟨by omega, by omega⟩) hL hq k
                | _ => cases hcall
              · cases hr
            · cases hr
        · rename_i hcall
          split at hr
          · rename_i pc' ls' st' h1 hs
            have q1 := am_step_mono hs
            have q2 := am_run_mono _ _ _ _ _ _ _ _ _ hr
            have s2 := ih _ _ _ _ _ _ _ _ hr
            intro p e R s m args below meth c Q cells slots cf sf X hc hz hcR hsR hfin
            exact sm_one (cells' := cells + (h1.length - h.length)) (slots' := slots + (am_sz h1 - am_sz h)) X rfl hF hs (by omega) (by omega) (by omega) (by omega) (s2 p e R s m args below meth c Q _ _ cf sf X (by omega) (by omega) hcR hsR hfin)
          · cases hr
