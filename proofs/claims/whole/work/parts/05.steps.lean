
/-! ROWS OF THE STEPS -/
def sm_F (mid pc : Nat) (i : Instr) (len : Nat) : Prop := match i with
  | .iconst n => (decode (mB mid) pc = .ok (.iconst n, 1) ∧ len = 1) ∨ (decode (mB mid) pc = .ok (.bipush n, 2) ∧ len = 2 ∧ (Int8.ofInt n).toInt32 = Int32.ofInt n) ∨ (decode (mB mid) pc = .ok (.sipush n, 3) ∧ len = 3 ∧ (Int16.ofInt n).toInt32 = Int32.ofInt n) ∨ ∃ x : Nat, decode (mB mid) pc = .ok (.ldc x, 2) ∧ len = 2 ∧ tw (.constant (mN mid).cls x (Int32.ofInt n))
  | .ldc2_w n => (∃ k : Fin 2, decode (mB mid) pc = .ok (.lconst k, 1) ∧ len = 1 ∧ Int64.ofNat (k : Nat) = Int64.ofNat n) ∨ ∃ x : Nat, decode (mB mid) pc = .ok (.ldc2_w x, 3) ∧ len = 3 ∧ tw (.constantLong (mN mid).cls x (Int64.ofNat n))
  | .ldc r => ∃ x : Nat, decode (mB mid) pc = .ok (.ldc x, 2) ∧ len = 2 ∧ (((mN mid).cls, x), r) ∈ sKl
  | .getstatic k => ∃ x : Nat, decode (mB mid) pc = .ok (.getstatic x, 3) ∧ len = 3 ∧ k < zNn ∧ tw (.fieldLink (mN mid).cls x (zC k) (zN k) (zD k))
  | .nop => len = 3 ∧ ∃ x : Nat, decode (mB mid) pc = .ok (.getstatic x, 3) ∧ tw (.fieldLink (mN mid).cls x oC oN oD)
  | .iload j => (decode (mB mid) pc = .ok (.iload j, 2) ∧ len = 2) ∨ ∃ k : Fin 4, decode (mB mid) pc = .ok (.iload_n k, 1) ∧ (k : Nat) = j ∧ len = 1
  | .lload j => (decode (mB mid) pc = .ok (.lload j, 2) ∧ len = 2) ∨ ∃ k : Fin 4, decode (mB mid) pc = .ok (.lload_n k, 1) ∧ (k : Nat) = j ∧ len = 1
  | .aload j => (decode (mB mid) pc = .ok (.aload j, 2) ∧ len = 2) ∨ ∃ k : Fin 4, decode (mB mid) pc = .ok (.aload_n k, 1) ∧ (k : Nat) = j ∧ len = 1
  | .istore j => (decode (mB mid) pc = .ok (.istore j, 2) ∧ len = 2) ∨ ∃ k : Fin 4, decode (mB mid) pc = .ok (.istore_n k, 1) ∧ (k : Nat) = j ∧ len = 1
  | .lstore j => (decode (mB mid) pc = .ok (.lstore j, 2) ∧ len = 2) ∨ ∃ k : Fin 4, decode (mB mid) pc = .ok (.lstore_n k, 1) ∧ (k : Nat) = j ∧ len = 1
  | .astore j => (decode (mB mid) pc = .ok (.astore j, 2) ∧ len = 2) ∨ ∃ k : Fin 4, decode (mB mid) pc = .ok (.astore_n k, 1) ∧ (k : Nat) = j ∧ len = 1
  | .iinc j n => decode (mB mid) pc = .ok (.iinc j n, 3) ∧ len = 3
  | .goto t => ∃ off : Int, decode (mB mid) pc = .ok (.goto off, 3) ∧ len = 3 ∧ (pc : Int) + off = (t.toNat : Int)
  | .ifCond k t => ∃ off : Int, decode (mB mid) pc = .ok (.ifCond k off, 3) ∧ len = 3 ∧ (pc : Int) + off = (t.toNat : Int)
  | .if_icmp k t => ∃ off : Int, decode (mB mid) pc = .ok (.if_icmp k off, 3) ∧ len = 3 ∧ (pc : Int) + off = (t.toNat : Int)
  | .ifnull t => ∃ off : Int, decode (mB mid) pc = .ok (.ifnull off, 3) ∧ len = 3 ∧ (pc : Int) + off = (t.toNat : Int)
  | .ifnonnull t => ∃ off : Int, decode (mB mid) pc = .ok (.ifnonnull off, 3) ∧ len = 3 ∧ (pc : Int) + off = (t.toNat : Int)
  | .lookupswitch d ps => (∃ (d0 : Int) (p0 : Array (Int × Int)), decode (mB mid) pc = .ok (.lookupswitch d0 p0, len) ∧ (p0.toList.zip (p0.toList.drop 1)).all (fun (a, next) => a.1 < next.1) = true ∧ ps.toList = p0.toList.map (fun q => (q.1, (pc : Int) + q.2)) ∧ d = (pc : Int) + d0 ∧ 0 ≤ d ∧ ∀ q ∈ ps.toList, 0 ≤ q.2) ∨
      ∃ (d0 lo hi : Int) (offs : Array Int), decode (mB mid) pc = .ok (.tableswitch d0 lo hi offs, len) ∧ hi = lo + (offs.size : Int) - 1 ∧ ps.toList = sm_tab pc lo offs.toList ∧ d = (pc : Int) + d0 ∧ 0 ≤ d ∧ ∀ q ∈ ps.toList, 0 ≤ q.2
  | .getfield x => am_fk x < cS (am_fc x) ∧ am_fc x < cAll ∧ len = 3 ∧ ∃ y : Nat, decode (mB mid) pc = .ok (.getfield y, 3) ∧ (tw (.fieldLink (mN mid).cls y (cT (am_fc x) (am_fk x)).1 (cT (am_fc x) (am_fk x)).2.1 (cT (am_fc x) (am_fk x)).2.2.1) ∨ ∃ host : String, tw (.fieldLinkNest (mN mid).cls y (cT (am_fc x) (am_fk x)).1 (cT (am_fc x) (am_fk x)).2.1 (cT (am_fc x) (am_fk x)).2.2.1 host))
  | .putfield x => am_fk x < cS (am_fc x) ∧ am_fc x < cO ∧ len = 3 ∧ ∃ y : Nat, decode (mB mid) pc = .ok (.putfield y, 3) ∧ (((cT (am_fc x) (am_fk x)).2.2.2 = false ∧ (tw (.fieldLink (mN mid).cls y (cT (am_fc x) (am_fk x)).1 (cT (am_fc x) (am_fk x)).2.1 (cT (am_fc x) (am_fk x)).2.2.1) ∨ ∃ host : String, tw (.fieldLinkNest (mN mid).cls y (cT (am_fc x) (am_fk x)).1 (cT (am_fc x) (am_fk x)).2.1 (cT (am_fc x) (am_fk x)).2.2.1 host))) ∨
      ((cT (am_fc x) (am_fk x)).2.2.2 = true ∧ (cT (am_fc x) (am_fk x)).1 = (mN mid).cls ∧ (mN mid).name = "<init>" ∧ tw (.fieldLink (mN mid).cls y (cT (am_fc x) (am_fk x)).1 (cT (am_fc x) (am_fk x)).2.1 (cT (am_fc x) (am_fk x)).2.2.1)))
  | .new ci => ci < cO ∧ len = 3 ∧ ∃ x : Nat, decode (mB mid) pc = .ok (.new x, 3) ∧ tw (.classLink (mN mid).cls x (cN ci)) ∧ tw (.instantiable (cN ci) (cS ci)) ∧ tw (.initialized (cN ci))
  | .newarray t => decode (mB mid) pc = .ok (.newarray t, 2) ∧ len = 2 ∧ tw (.arrayClass (newarray.typeOf t))
  | .anewarray ci => len = 3 ∧ ∃ x : Nat, decode (mB mid) pc = .ok (.anewarray x, 3) ∧ tw (.classLink (mN mid).cls x (cN ci)) ∧ tw (.arrayOver (.object (cN ci)))
  | .monitorenter => len = 3 ∧ ∃ x : Nat, decode (mB mid) pc = .ok (.invokespecial x, 3) ∧ tw (.methodLink (mN mid).cls x Lib.objectInit) ∧ tw (.instanceMethod Lib.objectInit) ∧ tw (.code Lib.objectInit ⟨#[0xb1]⟩ 1 none)
  | .monitorexit => len = 3 ∧ ∃ x : Nat, decode (mB mid) pc = .ok (.invokestatic x, 3) ∧ tw (.methodLink (mN mid).cls x arraycopyName) ∧ tw (.native arraycopyName) ∧ tw (.static arraycopyName) ∧ tw (.initialized "java/lang/System")
  | .dadd => len = 3 ∧ ∃ x : Nat, decode (mB mid) pc = .ok (.invokestatic x, 3) ∧ tw (.methodLink (mN mid).cls x Lib.Math.max.name) ∧ tw (.static Lib.Math.max.name) ∧ tw (.initialized "java/lang/Math") ∧ tw (.code Lib.Math.max.name Lib.Math.max.code 2 (some .int))
  | .dsub => len = 3 ∧ ∃ x : Nat, decode (mB mid) pc = .ok (.invokestatic x, 3) ∧ tw (.methodLink (mN mid).cls x Lib.Math.min.name) ∧ tw (.static Lib.Math.min.name) ∧ tw (.initialized "java/lang/Math") ∧ tw (.code Lib.Math.min.name Lib.Math.min.code 2 (some .int))
  | .dneg => len = 3 ∧ ∃ x : Nat, decode (mB mid) pc = .ok (.invokestatic x, 3) ∧ tw (.methodLink (mN mid).cls x Lib.MathLoose.abs_long.x) ∧ tw (.static Lib.MathLoose.abs_long.x) ∧ tw (.initialized "java/lang/Math") ∧ tw (.code Lib.MathLoose.abs_long.x Lib.MathLoose.abs_long.code 2 (some .long))
  | .invokestatic cm => len = 3 ∧ sm_M cm ∧ tw (.static (mN cm)) ∧ ∃ x : Nat, decode (mB mid) pc = .ok (.invokestatic x, 3) ∧ (tw (.methodLink (mN mid).cls x (mN cm)) ∨ ∃ host : String, tw (.methodLinkNest (mN mid).cls x (mN cm) host))
  | .invokespecial cm => len = 3 ∧ sm_M cm ∧ tw (.instanceMethod (mN cm)) ∧ (mN cm).name = "<init>" ∧ mR cm = none ∧ ∃ x : Nat, decode (mB mid) pc = .ok (.invokespecial x, 3) ∧ (tw (.methodLink (mN mid).cls x (mN cm)) ∨ ∃ host : String, tw (.methodLinkNest (mN mid).cls x (mN cm) host))
  | .invokevirtual cm => len = 3 ∧ sm_M cm ∧ tw (.instanceMethod (mN cm)) ∧ tw (.selects (mN cm).cls (mN cm) (mN cm)) ∧ cN (mC cm) = (mN cm).cls ∧ mC cm < cAll ∧ ∃ x : Nat, decode (mB mid) pc = .ok (.invokevirtual x, 3) ∧ (tw (.methodLink (mN mid).cls x (mN cm)) ∨ ∃ host : String, tw (.methodLinkNest (mN mid).cls x (mN cm) host))
  | i => decode (mB mid) pc = .ok (i, 1) ∧ len = 1
section SG
variable {p : Program} {l : Launch} {e : Env} {R : Room} {s : State} {m : MethodId} {args : Array Value} {below : List Frame} {meth : Method} {c : Code} {Q : State → Prop}
variable {s0 : State} {φ : (Nat → Nat) × Option Nat} {dC : Nat → ClassId} {dI : Nat → Nat → Nat} {B nL cells slots mid pc d : Nat} {a0 : Array Value} {ls : AL} {st : List Value} {h : AH}
def sm_G (p : Program) (l : Launch) (e : Env) (R : Room) (s : State) (m : MethodId) (args : Array Value) (below : List Frame) (meth : Method) (c : Code) (Q : State → Prop) (s0 : State) (φ : (Nat → Nat) × Option Nat) (dC : Nat → ClassId) (dI : Nat → Nat → Nat) (B nL cells slots pc : Nat) (ls : AL) (st : List Value) (h : AH) : Prop :=
  ∀ (H : Heap) (locs : List Loc) (cls : Array Slot), sm_H s0 φ dC dI B H h → sm_L φ nL cls ls → (∀ q ∈ locs, B ≤ q.base) → W p l e R s m args below meth c H locs cells slots Q (F0 m pc cls (sm_s φ st))
def sm_X (p : Program) (R : Room) (s : State) (m : MethodId) (meth : Method) (c : Code) (s0 : State) (a0 : Array Value) (φ : (Nat → Nat) × Option Nat) (dC : Nat → ClassId) (dI : Nat → Nat → Nat) (B mid d : Nat) : Prop :=
  p.tables.exec = Jvm.exec ∧ c.code = mB mid ∧ c.maxLocals = mL mid ∧ s.vm.findClass (mN mid).cls = some m.cls ∧ s0.WarmedH s.vm ∧ (∀ w ∈ lw_tbl, w.before a0 s0 = true) ∧ sm_K s0 dC dI ∧ sm_φ φ B ∧ (∀ q ∈ sKl, ∃ tx, vk_R q.1.1 q.1.2 tx (φ.1 q.2) s0) ∧ d ≤ R.frames ∧ d * kL ≤ R.locals ∧ ((mN mid).name = "<init>" → meth.name = "<init>")
theorem sm_X.w (X : sm_X p R s m meth c s0 a0 φ dC dI B mid d) {w : Cond} (h : tw w) : w.before args s = true := sm_at X.2.2.2.2.1 h.2 (X.2.2.2.2.2.1 w h.1)
/-- getfield -/
theorem sm_getf (X : sm_X p R s m meth c s0 a0 φ dC dI B mid d) {x : Nat} {st' : List Value} (hF : sm_F mid pc (.getfield x) 3) (ho : am_getf x h st = some st') (k : sm_G p l e R s m args below meth c Q s0 φ dC dI B nL cells slots (pc + 3) ls st' h) : sm_G p l e R s m args below meth c Q s0 φ dC dI B nL cells slots pc ls st h := by
  obtain ⟨hx, hb, hml, hown, hW, hT, hK, hφ, -⟩ := id X
  obtain ⟨hk, hca, -, y, hd, hl⟩ := hF
  have hal := hW.alike
  unfold am_getf at ho
  split at ho
  · rename_i r rest
    split at ho
    · rename_i ci fs hr
      split at ho
      · rename_i hci
        subst hci
        split at ho
        · rename_i v hv
          cases ho
          intro H locs cls hH hL hq
          obtain ⟨cell, g1, g2, g3, g4, g0, g5, g7, g6⟩ := hH.2.2.1 r _ hr
          obtain ⟨cf, kf, fi, f, f1, f2, f3⟩ := hK.1 _ _ hca hk
          obtain ⟨kf', f4⟩ := sm_ff hal f1
          have hs := g6 _ v hv
          rw [← f2] at hs
          rcases hl with hl | ⟨host, hl⟩
          · exact W.getf hx hb hown (X.w hl) f4 f3 g1 g2 hs rfl rfl hd (k H locs cls hH hL hq)
          · exact va_Wgetf hx hb hown (X.w hl) f4 f3 g1 g2 hs rfl rfl hd (k H locs cls hH hL hq)
        · cases ho
      · cases ho
    · cases ho
  · cases ho
/-- putfield -/
theorem sm_putf (X : sm_X p R s m meth c s0 a0 φ dC dI B mid d) {x : Nat} {st' : List Value} {h' : AH} (hF : sm_F mid pc (.putfield x) 3) (ho : am_putf x h st = some (st', h')) (k : sm_G p l e R s m args below meth c Q s0 φ dC dI B nL cells slots (pc + 3) ls st' h') : sm_G p l e R s m args below meth c Q s0 φ dC dI B nL cells slots pc ls st h := by
  obtain ⟨hx, hb, hml, hown, hW, hT, hK, hφ, -, -, -, hini⟩ := id X
  obtain ⟨hk, hca, -, y, hd, hl⟩ := hF
  have hal := hW.alike
  unfold am_putf at ho
  split at ho
  · rename_i v r rest
    split at ho
    · rename_i ci fs hr
      split at ho
      · rename_i hc
        obtain ⟨hci, hkl, hsr, hnar, hfit⟩ := hc
        subst hci
        cases ho
        intro H locs cls hH hL hq
        obtain ⟨cell, g1, g2, g3, g4, g0, g5, g7, g6⟩ := hH.2.2.1 r _ hr
        have g4 := g4 hsr
        obtain ⟨hS, hfc, kC, hkC, hkind⟩ := u_Kn_moved hal (hK.2.1 _ hca)
        have hts : ∀ w ∈ u_ws (cN (am_fc x)) (cT (am_fc x)) (cS (am_fc x)), w.before args s = true := fun w hw => X.w (nm_lay _ hca w hw)
        obtain ⟨cf, kf, fi, f, hi, hsl⟩ := hS _ hk
        have hlays := u_lays hts (fun w hw => hw) hk
        have hst := (u_facts hfc hkC hlays hi).1
        have hd2 := nm_ty _ hca _ hk
        obtain ⟨hn', hf'⟩ := sm_fit φ hnar hfit
        have hslot : ∃ v0, cell.slots[f.slot]? = some v0 := by
          obtain ⟨v0, hv0⟩ : ∃ v0, fs[am_fk x]? = some v0 := ⟨_, List.getElem?_eq_getElem hkl⟩
          exact ⟨_, by rw [hsl]; exact g6 _ v0 hv0⟩
        obtain ⟨v0, hv0⟩ := hslot
        have hlt : f.slot < cell.slots.size := k2_hasslot hv0
        have fin : ∀ (H' : Heap) (locs' : List Loc), H'[φ.1 r]? = some (cell.setSlot f.slot (sm_v φ v)) → H'.size = H.size → (∀ q, q ≠ φ.1 r → H'[q]? = H[q]?) → sm_H s0 φ dC dI B H' (h.set r (.inr (am_fc x), fs.set (am_fk x) v)) := by
          intro H' locs' e1 e2 e3
          refine hH.set hφ hsr e2 e3 ⟨_, e1, g2, g3, fun _ => g4, g0, g5, by rw [List.length_set]; exact g7, fun j w hw => ?_⟩
          rw [List.getElem?_set] at hw
          by_cases hj : am_fk x = j
          · rw [if_pos hj, if_pos hkl] at hw
            cases hw
            rw [← hj, ← hsl]
            exact Cell.slots_setSlot_self (sm_v φ v) hlt
          · rw [if_neg hj] at hw
            have hjl : j < cS (am_fc x) ∨ cS (am_fc x) ≤ j := Nat.lt_or_ge _ _
            rcases hjl with hjl | hjl
            · obtain ⟨cf2, kf2, fi2, f2, hi2, hsl2⟩ := hS _ hjl
              have hne : f.name ≠ f2.name := by
                rw [(State.fieldFound?_type hi hd2).1, (State.fieldFound?_type hi2 (nm_ty _ hca _ hjl)).1]
                exact nm_ne _ hca _ hk _ hjl hj
              have hap := u_apart hlays (u_lays hts (fun w hw => hw) hjl) hi hi2 hne
              rw [← hsl2, slot_ne _ _ hap, hsl2]
              exact g6 j w hw
            · exact absurd (List.getElem?_eq_some_iff.mp hw).1 (by have g7 : fs.length = cS (am_fc x) := g7; omega)
        rcases hl with ⟨hfin, hl⟩ | ⟨hfin, hdecl, hnm, hl⟩
        · have hlay := hts _ (u_in_lay hk)
          unfold u_lay at hlay
          rw [if_neg (by rw [hfin]; decide)] at hlay
          have h6 := u_store hfc hkC hkind hlay hi hd2 hn' hf'
          rw [← g5] at h6
          rcases hl with hl | ⟨host, hl⟩
          · refine W.putK hx hb (f := f) ⟨hown, X.w hl, ⟨_, _, _, hi⟩, hst⟩ h6 g1 g4 hlt rfl rfl hd fun H' e1 e2 e3 => ?_
            exact k H' _ cls (fin H' [] e1 e2 e3) hL (sm_locs hφ hsr hq)
          · refine va_WputK hx hb (f := f) hown (X.w hl) hi hst h6 g1 g4 hlt rfl rfl hd fun H' e1 e2 e3 => ?_
            exact k H' _ cls (fin H' [] e1 e2 e3) hL (sm_locs hφ hsr hq)
        · have hlay := hts _ (u_in_lay hk)
          unfold u_lay at hlay
          rw [if_pos hfin] at hlay
          have hcf : m.cls = cf := by
            obtain ⟨_, _, c', _, _, _, -, -, hf2, -, -, -, hown2, -⟩ := Cond.laysFinal_spec hlay
            have e1 : c' = cf := by have := hi.symm.trans hf2; simp at this; exact this.1.symm
            rw [hdecl] at hown2
            rw [← e1]; exact Option.some.inj (hown.symm.trans hown2)
          have h6 := u_fits hfc hkC hkind (Or.inr hlay) hi hd2 hn' hf'
          rw [← g5] at h6
          refine W.putFinK hx hb hown (X.w hl) hi hst hcf (hini hnm) h6 g1 g4 hlt rfl rfl hd fun H' e1 e2 e3 => ?_
          exact k H' _ cls (fin H' [] e1 e2 e3) hL (sm_locs hφ hsr hq)
      · cases ho
    · cases ho
  · cases ho

/-- new -/
theorem sm_new (X : sm_X p R s m meth c s0 a0 φ dC dI B mid d) {ci : Nat} (hF : sm_F mid pc (.new ci) 3) (hc : cells + 1 ≤ R.cells) (hsl : slots + cS ci ≤ R.slots) (k : sm_G p l e R s m args below meth c Q s0 φ dC dI B nL (cells + 1) (slots + cS ci) (pc + 3) ls (.ref h.length :: st) (h ++ [(.inr ci, (List.range (cS ci)).map fun k => defaultValue (cF ci k))])) : sm_G p l e R s m args below meth c Q s0 φ dC dI B nL cells slots pc ls st h := by
  obtain ⟨hx, hb, hml, hown, hW, hT, hK, hφ, -⟩ := id X
  obtain ⟨hca, -, x, hd, w1, w2, w3⟩ := hF
  have hal := hW.alike
  intro H locs cls hH hL hq
  have hKn := u_Kn_moved hal (hK.2.1 _ hca)
  have hts : ∀ w ∈ u_ws (cN ci) (cT ci) (cS ci), w.before args s = true := fun w hw => X.w (nm_lay _ hca w hw)
  refine W.newcK hx hb hown (X.w w1) (X.w w2) (X.w w3) rfl hd hc hsl hKn.2.1 rfl fun H1 kC hkC e1 z1 o1 => ?_
  have e := hH.top hφ
  obtain ⟨cell, t1, t2, t3, t4⟩ := u_born (cF ci) hts (fun w hw => hw) hKn hkC e1 (nm_ty _ hca)
  have hn : sm_H s0 φ dC dI B H1 (h ++ [(.inr ci, (List.range (cS ci)).map fun k => defaultValue (cF ci k))]) := by
    refine hH.push hφ z1 o1 ⟨cell, by rw [e]; exact t1, (by rw [t3]; exact fun q => by cases q), (fun q q2 => by rw [t3] at q2; cases q2), fun _ => t3, Nat.lt_of_lt_of_le hca nm_cO, t2, by simp, fun j v hv => ?_⟩
    have hj : j < cS ci := by
      have := (List.getElem?_eq_some_iff.mp hv).1
      simpa using this
    have hv' : v = defaultValue (cF ci j) := by
      simp [List.getElem?_map, List.getElem?_range hj] at hv
      exact hv.symm
    rw [hv', sm_def]
    exact t4 j hj
  have := k H1 locs cls hn hL hq
  rw [show sm_s φ (.ref h.length :: st) = .ref H.size :: sm_s φ st by rw [← e]; rfl] at this
  exact this
/-- newarray -/
theorem sm_newa (X : sm_X p R s m meth c s0 a0 φ dC dI B mid d) {t : ArrayType} {n : Int32} (hF : sm_F mid pc (.newarray t) 2) (hn : ¬ n < 0) (hby : n.toNatClampNeg * componentBytes (newarray.typeOf t) ≤ 536870912) (hc : cells + 1 ≤ R.cells) (hsl : slots + n.toNatClampNeg ≤ R.slots)
    (k : sm_G p l e R s m args below meth c Q s0 φ dC dI B nL (cells + 1) (slots + n.toNatClampNeg) (pc + 2) ls (.ref h.length :: st) (h ++ [(.inl (newarray.typeOf t), List.replicate n.toNatClampNeg (defaultValue (newarray.typeOf t)))])) : sm_G p l e R s m args below meth c Q s0 φ dC dI B nL cells slots pc ls (.int n :: st) h := by
  obtain ⟨hx, hb, hml, hown, hW, hT, hK, hφ, -⟩ := id X
  obtain ⟨hd, -, w1⟩ := hF
  have hal := hW.alike
  intro H locs cls hH hL hq
  refine W.newa hx hb (X.w w1) rfl hd rfl hn hby hc hsl fun cA kA comp h1 h2 h3 => ?_
  have e := hH.top hφ
  obtain ⟨k', hk', he⟩ := hal.symm.2.2 _ _ h2
  have hak : sm_ak s0 cA (newarray.typeOf t) := ⟨k', comp, hk', by rw [he]; exact h3, (fun C q => by cases t <;> cases q)⟩
  have hdv : fits (newarray.typeOf t) (defaultValue (newarray.typeOf t)) = true := by cases t <;> decide
  have hn : sm_H s0 φ dC dI B (H.push { cls := cA, slots := Array.replicate n.toNatClampNeg (defaultValue (newarray.typeOf t)), vm := .none }) (h ++ [(.inl (newarray.typeOf t), List.replicate n.toNatClampNeg (defaultValue (newarray.typeOf t)))]) := by
    refine hH.push hφ (by simp) (fun q hq => by rw [Array.getElem?_push, if_neg (Nat.ne_of_lt hq)]) ⟨{ cls := cA, slots := Array.replicate n.toNatClampNeg (defaultValue (newarray.typeOf t)), vm := .none }, by rw [e]; simp, (fun q => by cases q), (fun q q2 => by cases q2), fun _ => rfl, hak, by simp, by simp, fun _ v hv => ?_, fun j v hv => ?_⟩
    · rw [(List.mem_replicate.mp hv).2]
      exact hdv
    · have hj : j < n.toNatClampNeg := by
        have := (List.getElem?_eq_some_iff.mp hv).1
        simpa using this
      have hv' : v = defaultValue (newarray.typeOf t) := by
        rw [List.getElem?_replicate, if_pos hj] at hv
        exact (Option.some.inj hv).symm
      rw [hv', sm_def]
      simp [Array.getElem?_replicate, hj]
  have := k _ locs cls hn hL hq
  rw [show sm_s φ (.ref h.length :: st) = .ref H.size :: sm_s φ st by rw [← e]; rfl] at this
  exact this
/-- anewarray -/
theorem sm_anew (X : sm_X p R s m meth c s0 a0 φ dC dI B mid d) {ci : Nat} {n : Int32} (hF : sm_F mid pc (.anewarray ci) 3) (hn : ¬ n < 0) (hby : n.toNatClampNeg * 4 ≤ 536870912) (hc : cells + 1 ≤ R.cells) (hsl : slots + n.toNatClampNeg ≤ R.slots)
    (k : sm_G p l e R s m args below meth c Q s0 φ dC dI B nL (cells + 1) (slots + n.toNatClampNeg) (pc + 3) ls (.ref h.length :: st) (h ++ [(.inl (.object (cN ci)), List.replicate n.toNatClampNeg .null)])) : sm_G p l e R s m args below meth c Q s0 φ dC dI B nL cells slots pc ls (.int n :: st) h := by
  obtain ⟨hx, hb, hml, hown, hW, hT, hK, hφ, -⟩ := id X
  obtain ⟨-, x, hd, w1, w2⟩ := hF
  have hal := hW.alike
  intro H locs cls hH hL hq
  refine W.anew hx hb hown (X.w w1) (X.w w2) rfl hd rfl hn hby hc hsl fun cA kA comp h1 h2 h3 h4 => ?_
  have e := hH.top hφ
  obtain ⟨k', hk', he⟩ := hal.symm.2.2 _ _ h2
  have hak : sm_ak s0 cA (.object (cN ci)) := ⟨k', comp, hk', by rw [he]; exact h3, (fun C q => by cases q; rw [← hal.findClass]; exact h4)⟩
  have hn : sm_H s0 φ dC dI B (H.push { cls := cA, slots := Array.replicate n.toNatClampNeg .null, vm := .none }) (h ++ [(.inl (.object (cN ci)), List.replicate n.toNatClampNeg .null)]) := by
    refine hH.push hφ (by simp) (fun q hq => by rw [Array.getElem?_push, if_neg (Nat.ne_of_lt hq)]) ⟨{ cls := cA, slots := Array.replicate n.toNatClampNeg .null, vm := .none }, by rw [e]; simp, (fun q => by cases q), (fun q q2 => by cases q2), fun _ => rfl, hak, by simp, by simp, (fun q => by cases q), fun j v hv => ?_⟩
    have hj : j < n.toNatClampNeg := by
      have := (List.getElem?_eq_some_iff.mp hv).1
      simpa using this
    have hv' : v = .null := by
      rw [List.getElem?_replicate, if_pos hj] at hv
      exact (Option.some.inj hv).symm
    rw [hv']
    simp [Array.getElem?_replicate, hj, sm_v]
  have := k _ locs cls hn hL hq
  rw [show sm_s φ (.ref h.length :: st) = .ref H.size :: sm_s φ st by rw [← e]; rfl] at this
  exact this
theorem am_ald_inv {ok : FieldType → Bool} {st' : List Value} (ho : am_ald ok h st = some st') : ∃ (i : Int32) (r : Nat) (rest : List Value) (ty : FieldType) (vs : List Value) (v : Value), st = .int i :: .ref r :: rest ∧ h[r]? = some (.inl ty, vs) ∧ ok ty = true ∧ ¬ i < 0 ∧ vs[i.toNatClampNeg]? = some v ∧ st' = v :: rest := by
  unfold am_ald at ho
  split at ho
  · rename_i i r rest
    split at ho
    · rename_i ty vs hr
      split at ho
      · rename_i hc
        split at ho
        · rename_i v hv
          cases ho
          exact ⟨i, r, rest, ty, vs, v, rfl, hr, hc.1, hc.2, hv, rfl⟩
        · cases ho
      · cases ho
    · cases ho
  · cases ho
theorem sm_arr (X : sm_X p R s m meth c s0 a0 φ dC dI B mid d) {H : Heap} {r : Nat} {ty : FieldType} {vs : List Value} {i : Int32} {v : Value} (hH : sm_H s0 φ dC dI B H h) (hr : h[r]? = some (.inl ty, vs)) (hi : ¬ i < 0) (hv : vs[i.toNatClampNeg]? = some v) :
    ∃ cell : Cell, H[φ.1 r]? = some cell ∧ s.isArrayOf cell ty ∧ cell.vm ≠ .unknown ∧ ¬ (i < 0 ∨ cell.slots.size ≤ i.toNatClampNeg) ∧ cell.slots[i.toNatClampNeg]? = some (sm_v φ v) := by
  obtain ⟨cell, g1, g2, g3, g4, g5, g6, g7, g8, g9⟩ := hH.2.2.1 r _ hr
  have hlt : i.toNatClampNeg < vs.length := (List.getElem?_eq_some_iff.mp hv).1
  have g6 : vs.length ≤ cell.slots.size := g6
  exact ⟨cell, g1, (g5.moved X.2.2.2.2.1.alike).of rfl g3, g2, (fun q => by rcases q with q | q; exact hi q; omega), g9 _ v hv⟩
theorem sm_len (X : sm_X p R s m meth c s0 a0 φ dC dI B mid d) {r : Nat} {ty : FieldType} {vs : List Value} (hd : decode (mB mid) pc = .ok (.arraylength, 1)) (hr : h[r]? = some (.inl ty, vs)) (k : sm_G p l e R s m args below meth c Q s0 φ dC dI B nL cells slots (pc + 1) ls (.int (Int32.ofNat vs.length) :: st) h) : sm_G p l e R s m args below meth c Q s0 φ dC dI B nL cells slots pc ls (.ref r :: st) h := by
  intro H locs cls hH hL hq
  obtain ⟨cell, g1, g2, g3, g4, g5, g6, g7, g8, g9⟩ := hH.2.2.1 r _ hr
  exact W.alen (n := Int32.ofNat vs.length) X.1 X.2.1 g1 ((g5.moved X.2.2.2.2.1.alike).of rfl g3) g7 rfl rfl hd (k H locs cls hH hL hq)
theorem am_ast_inv {ok : FieldType → Bool} {r : Nat} {i : Int32} {v : FieldType → Value} {h' : AH} (ho : am_ast ok h r i v = some h') : ∃ (ty : FieldType) (vs : List Value), h[r]? = some (.inl ty, vs) ∧ ok ty = true ∧ ¬ i < 0 ∧ i.toNatClampNeg < vs.length ∧ sN ≤ r ∧ h' = h.set r (.inl ty, vs.set i.toNatClampNeg (v ty)) := by
  unfold am_ast at ho
  split at ho
  · rename_i ty vs hr
    split at ho
    · rename_i hc
      cases ho
      exact ⟨ty, vs, hr, hc.1, hc.2.1, hc.2.2.1, hc.2.2.2, rfl⟩
    · cases ho
  · cases ho
/-- what a store in an array leaves -/
theorem sm_stored (X : sm_X p R s m meth c s0 a0 φ dC dI B mid d) {H H' : Heap} {r j : Nat} {ty : FieldType} {vs : List Value} {v : Value} {cell : Cell} (hH : sm_H s0 φ dC dI B H h) (hr : h[r]? = some (.inl ty, vs)) (hj : j < vs.length) (hs : sN ≤ r) (hc : H[φ.1 r]? = some cell) (hf : am_prim ty = true → fits ty v = true)
    (e1 : H'[φ.1 r]? = some (cell.setSlot j (sm_v φ v))) (e2 : H'.size = H.size) (e3 : ∀ q, q ≠ φ.1 r → H'[q]? = H[q]?) : sm_H s0 φ dC dI B H' (h.set r (.inl ty, vs.set j v)) := by
  obtain ⟨cell', g1, g2, g3, g4, g5, g6, g7, g8, g9⟩ := hH.2.2.1 r _ hr
  cases hc.symm.trans g1
  have g6 : vs.length ≤ cell.slots.size := g6
  refine hH.set X.2.2.2.2.2.2.2.1 hs e2 e3 ⟨_, e1, g2, g3, g4, g5, ?_, ?_, fun hp w hw => ?_, fun i w hw => ?_⟩
  · rw [k2_slotsz, List.length_set]; exact g6
  · rw [k2_slotsz, List.length_set]; exact g7
  · rcases List.mem_or_eq_of_mem_set hw with hw | hw
    · exact g8 hp w hw
    · rw [hw]; exact hf hp
  · rw [List.getElem?_set] at hw
    by_cases hi : j = i
    · subst hi
      rw [if_pos rfl, if_pos hj] at hw
      cases hw
      exact Cell.slots_setSlot_self (sm_v φ v) (by omega)
    · rw [if_neg hi] at hw
      rw [slot_ne _ _ hi]
      exact g9 i w hw
theorem sm_arrW (X : sm_X p R s m meth c s0 a0 φ dC dI B mid d) {H : Heap} {r : Nat} {ty : FieldType} {vs : List Value} {i : Int32} (hH : sm_H s0 φ dC dI B H h) (hr : h[r]? = some (.inl ty, vs)) (hi : ¬ i < 0) (hv : i.toNatClampNeg < vs.length) :
    ∃ cell : Cell, H[φ.1 r]? = some cell ∧ s.isArrayOf cell ty ∧ cell.vm ≠ .unknown ∧ ¬ (i < 0 ∨ cell.slots.size ≤ i.toNatClampNeg) ∧ (∀ k, cell.vm ≠ .statics k) ∧ sm_ak s cell.cls ty := by
  obtain ⟨cell, g1, g2, g3, g4, g5, g6, g7, g8, g9⟩ := hH.2.2.1 r _ hr
  have g6 : vs.length ≤ cell.slots.size := g6
  exact ⟨cell, g1, (g5.moved X.2.2.2.2.1.alike).of rfl g3, g2, (fun q => by rcases q with q | q; exact hi q; omega), g3, g5.moved X.2.2.2.2.1.alike⟩
theorem sm_nfit {ty : FieldType} (x : Int32) (h : ty = .byte ∨ ty = .boolean ∨ ty = .char) : fits ty (narrow ty (.int x)) = true ∧ ∀ φ : (Nat → Nat) × Option Nat, sm_v φ (narrow ty (.int x)) = narrow ty (.int x) := by
  rcases h with h | h | h <;> subst h
  · refine ⟨?_, fun _ => rfl⟩
    show (-128 ≤ x.toInt8.toInt32 && x.toInt8.toInt32 ≤ 127) = true
    have h1 : x.toInt8.toInt32.toInt = x.toInt8.toInt := by simp
    have h2 := Int8.le_toInt x.toInt8
    have h3 := Int8.toInt_lt x.toInt8
    simp only [Bool.and_eq_true, decide_eq_true_eq, Int32.le_iff_toInt_le, h1]
    refine ⟨?_, ?_⟩
    · show (-128 : Int32).toInt ≤ _
      have : (-128 : Int32).toInt = -128 := by decide
      omega
    · show _ ≤ (127 : Int32).toInt
      have : (127 : Int32).toInt = 127 := by decide
      omega
  · refine ⟨?_, fun _ => rfl⟩
    show (x &&& 1 == 0 || x &&& 1 == 1) = true
    obtain ⟨j, hj, e⟩ := pk_andE x (m := 1) 1 (by decide)
    rw [e]
    rcases (show j = 0 ∨ j = 1 by omega) with q | q <;> subst q <;> decide
  · refine ⟨?_, fun _ => rfl⟩
    show (0 ≤ x.toUInt32.toUInt16.toUInt32.toInt32 && x.toUInt32.toUInt16.toUInt32.toInt32 ≤ 65535) = true
    have h0 : x.toUInt32.toUInt16.toUInt32.toInt32.toInt = (x.toUInt32.toUInt16.toNat : Int) := by
      generalize x.toUInt32.toUInt16 = y
      have hlt := y.toNat_lt
      have e1 : y.toUInt32.toNat = y.toNat := by simp
      have e2 : y.toUInt32.toBitVec.toNat = y.toNat := e1
      show y.toUInt32.toBitVec.toInt = _
      rw [BitVec.toInt_eq_toNat_cond, e2]
      split <;> omega
    have hlt := x.toUInt32.toUInt16.toNat_lt
    simp only [Bool.and_eq_true, decide_eq_true_eq, Int32.le_iff_toInt_le, h0]
    refine ⟨?_, ?_⟩
    · show (0 : Int32).toInt ≤ _
      have : (0 : Int32).toInt = 0 := by decide
      omega
    · show _ ≤ (65535 : Int32).toInt
      have : (65535 : Int32).toInt = 65535 := by decide
      omega
end SG
