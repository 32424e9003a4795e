/-! ARRAY NAMES, SEPARATORS -/
/-- the cells of the String constants are as at the start -/
def Sta (h : AH) : Prop := ∀ r, r < 2 * sS → h[r]? = sH[r]?
theorem Sta.str {h : AH} (S : Sta h) (i : Nat) (hi : i < sS) : Str h (2 * i) (sBl.getD i []) := by
  have e := sH_at i hi
  have e1 := sN_eq
  refine ⟨2 * i + 1, by omega, by omega, by rw [S _ (by omega)]; exact e.1, by rw [S _ (by omega)]; exact e.2, ?_, ?_⟩
  · have key : ∀ i, i < sS → ∀ b ∈ sBl.getD i [], asc b := by unfold asc; decide +kernel
    exact key i hi
  · have key : ∀ i, i < sS → (sBl.getD i []).length < 2 ^ 20 := by decide +kernel
    exact key i hi
theorem Sta.kept {h h' : AH} {a ar : Nat} (S : Sta h) (F : Frm h h' a ar) (ha : sN ≤ a) (har : sN ≤ ar) : Sta h' := by
  intro r hr
  have e1 := sN_eq
  have hl : r < h.length := by
    have := S r hr
    rw [List.getElem?_eq_getElem (l := sH) (by rw [sH_len]; exact hr)] at this
    exact (List.getElem?_eq_some_iff.mp this).1
  rw [F.2 r hl (by omega) (by omega)]
  exact S r hr
theorem Sta.grow {h h' : AH} {n m : Nat} (S : Sta h) (G : Grow h h' n m) : Sta h' := by
  intro r hr
  have hl : r < h.length := by
    have := S r hr
    rw [List.getElem?_eq_getElem (l := sH) (by rw [sH_len]; exact hr)] at this
    exact (List.getElem?_eq_some_iff.mp this).1
  rw [G.2.2.2 r hl]
  exact S r hr
def sep (n : Nat) : List Int32 := if 0 < n then [44, 32] else []
theorem sp_sep {d : Nat} {a ar n : Nat} {t : List Int32} {cs : List Value} {h : AH} {Q : Option Value → AH → Prop} (H : Chs h a ar t cs) (S : Sta h) (hn : n < 2 ^ 31) (hb : t.length + 2 < 2 ^ 20) (K : App h a ar t cs (sep n) (Q none)) : wp (d + 5) 37 0 [some (.int (nI n)), some (.ref a)] [] h Q := by
  have e1 : ((0 : Int32) < nI n) ↔ 0 < n := nI_ltI (a := 0) (by omega) hn
  simp only [k_37_0, k_37_1, k_37_4, k_37_4N, k_37_5, k_37_7, okV_iff H.1, e1, am_cat, am_kill, Value.category, List.map_cons, List.map_nil, List.sum_cons, List.sum_nil, Option.toList_some, Option.toList_none, List.cons_append, List.nil_append, List.length_cons, List.length_nil, List.getD_cons_succ, List.getD_cons_zero, List.set_cons_succ, List.set_cons_zero, Nat.reduceAdd, Nat.reduceLT, Nat.reduceLeDiff, Nat.zero_le, Nat.zero_add, Nat.add_zero]
  unfold sep at K
  by_cases c1 : 0 < n
  · rw [if_pos c1] at K
    rw [if_pos c1]
    have S6 : Str h 6 [44, 32] := S.str 3 (by decide)
    refine sp_puts H S6 hb (fun h' ar' cs' H' E' => ?_)
    simp only [k_37_10, am_cat, am_kill, Value.category, List.map_cons, List.map_nil, List.sum_cons, List.sum_nil, Option.toList_some, Option.toList_none, List.cons_append, List.nil_append, List.length_cons, List.length_nil, List.getD_cons_succ, List.getD_cons_zero, List.set_cons_succ, List.set_cons_zero, Nat.reduceAdd, Nat.reduceLT, Nat.reduceLeDiff, Nat.zero_le, Nat.zero_add, Nat.add_zero]
    exact K h' ar' cs' H' E'
  · rw [if_neg c1] at K
    rw [if_neg c1]
    simp only [k_37_10, am_cat, am_kill, Value.category, List.map_cons, List.map_nil, List.sum_cons, List.sum_nil, Option.toList_some, Option.toList_none, List.cons_append, List.nil_append, List.length_cons, List.length_nil, List.getD_cons_succ, List.getD_cons_zero, List.set_cons_succ, List.set_cons_zero, Nat.reduceAdd, Nat.reduceLT, Nat.reduceLeDiff, Nat.zero_le, Nat.zero_add, Nat.add_zero]
    exact K h ar cs (by rw [List.append_nil]; exact H) Ext.rf

/-- the name of an array's elements -/
def elN (c : Int32) : List Int32 := if c = 90 then [98, 111, 111, 108, 101, 97, 110] else if c = 66 then [98, 121, 116, 101] else if c = 67 then [99, 104, 97, 114] else if c = 83 then [115, 104, 111, 114, 116] else if c = 73 then [105, 110, 116] else if c = 74 then [108, 111, 110, 103] else if c = 70 then [102, 108, 111, 97, 116] else if c = 68 then [100, 111, 117, 98, 108, 101] else if c = 84 then [83, 116, 114, 105, 110, 103] else [67]
theorem sp_elName {d : Nat} {h : AH} {p : Nat} {τ : Ty} {Q : Option Value → AH → Prop} (h1 : h[p]? = some (tyc τ)) (S : Sta h) (hl : τ.2.1 = 79 ∨ τ.2.1 ∈ sgl) (K : ∀ r, Str h r (elN τ.2.1) → Q (some (.ref r)) h) : wp d 45 0 [some (.ref p)] [] h Q := by
  unfold tyc at h1
  simp only [k_45_0, k_45_0N, k_45_1, okG_iff h1, fld_of h1, am_cat, am_kill, Value.category, List.map_cons, List.map_nil, List.sum_cons, List.sum_nil, Option.toList_some, Option.toList_none, List.cons_append, List.nil_append, List.length_cons, List.length_nil, List.getD_cons_succ, List.getD_cons_zero, List.set_cons_succ, List.set_cons_zero, Nat.reduceAdd, Nat.reduceLT, Nat.reduceLeDiff, Nat.zero_le, Nat.zero_add, Nat.add_zero]
  generalize τ.2.1 = c at hl K
  rw [k_45_4]
  have hl : c = 79 ∨ c = 90 ∨ c = 66 ∨ c = 67 ∨ c = 83 ∨ c = 73 ∨ c = 74 ∨ c = 70 ∨ c = 68 ∨ c = 84 := by simpa [sgl] using hl
  rcases hl with rfl | rfl | rfl | rfl | rfl | rfl | rfl | rfl | rfl | rfl
  all_goals repeat (first | rw [if_pos rfl] | rw [if_neg (by decide)])
  · rw [k_45_147, k_45_149]
    exact K 30 (S.str 15 (by decide))
  · rw [k_45_120, k_45_122]
    exact K 12 (S.str 6 (by decide))
  · rw [k_45_123, k_45_125]
    exact K 14 (S.str 7 (by decide))
  · rw [k_45_126, k_45_128]
    exact K 16 (S.str 8 (by decide))
  · rw [k_45_129, k_45_131]
    exact K 18 (S.str 9 (by decide))
  · rw [k_45_132, k_45_134]
    exact K 20 (S.str 10 (by decide))
  · rw [k_45_135, k_45_137]
    exact K 22 (S.str 11 (by decide))
  · rw [k_45_138, k_45_140]
    exact K 24 (S.str 12 (by decide))
  · rw [k_45_141, k_45_143]
    exact K 26 (S.str 13 (by decide))
  · rw [k_45_144, k_45_146]
    exact K 28 (S.str 14 (by decide))

def brs : Nat → List Int32
  | 0 => []
  | n + 1 => 91 :: 93 :: brs n
def arN (τ : Ty) : List Int32 := elN τ.2.1 ++ ((if τ.2.1 = 79 then [nI (48 + τ.2.2)] else []) ++ brs τ.1)
theorem brs_len (n : Nat) : (brs n).length = 2 * n := by
  induction n with
  | zero => rfl
  | succ n ih => show (brs n).length + 1 + 1 = _; omega
theorem elN_len (c : Int32) : (elN c).length ≤ 7 := by
  unfold elN
  repeat (first | (split; · decide) | decide)
theorem sp_an_loop {d : Nat} {a p : Nat} {τ : Ty} {Q : Option Value → AH → Prop} (hb3 : τ.1 ≤ 3) (hp : sN ≤ p) : ∀ (k n : Nat) (h : AH) (ar : Nat) (t : List Int32) (cs : List Value), n + k = τ.1 → Chs h a ar t cs → Sta h → h[p]? = some (tyc τ) → t.length + 2 * k < 2 ^ 19 → App h a ar t cs (brs k) (Q none) → wp (d + 5) 44 30 [some (.ref p), some (.ref a), some (.int (nI n))] [] h Q := by
  intro k
  induction k with
  | zero =>
    intro n h ar t cs hn H S hq hb K
    have hq' : h[p]? = some (.inr 3, [.int (nI τ.1), .int τ.2.1, .int (nI τ.2.2)]) := hq
    have e1 : ¬ nI n < nI τ.1 := nI_nlt (by omega) (by omega)
    simp only [k_44_30, k_44_31, k_44_31N, k_44_35, k_44_50, k_44_32, okG_iff hq', fld_of hq', e1, if_false, am_cat, am_kill, Value.category, List.map_cons, List.map_nil, List.sum_cons, List.sum_nil, Option.toList_some, Option.toList_none, List.cons_append, List.nil_append, List.length_cons, List.length_nil, List.getD_cons_succ, List.getD_cons_zero, List.set_cons_succ, List.set_cons_zero, Nat.reduceAdd, Nat.reduceLT, Nat.reduceLeDiff, Nat.zero_le, Nat.zero_add, Nat.add_zero]
    exact K h ar cs (by rw [show brs 0 = [] from rfl, List.append_nil]; exact H) Ext.rf
  | succ k ih =>
    intro n h ar t cs hn H S hq hb K
    have hq' : h[p]? = some (.inr 3, [.int (nI τ.1), .int τ.2.1, .int (nI τ.2.2)]) := hq
    have e1 : nI n < nI τ.1 := nI_lt (by omega) (by omega)
    simp only [k_44_30, k_44_31, k_44_31N, k_44_35, k_44_38, k_44_38N, k_44_32, k_44_39, k_44_41, okG_iff hq', fld_of hq', okV_iff H.1, e1, if_true, am_cat, am_kill, Value.category, List.map_cons, List.map_nil, List.sum_cons, List.sum_nil, Option.toList_some, Option.toList_none, List.cons_append, List.nil_append, List.length_cons, List.length_nil, List.getD_cons_succ, List.getD_cons_zero, List.set_cons_succ, List.set_cons_zero, Nat.reduceAdd, Nat.reduceLT, Nat.reduceLeDiff, Nat.zero_le, Nat.zero_add, Nat.add_zero]
    have S32 : Str h 32 [91, 93] := S.str 16 (by decide)
    refine sp_puts H S32 (by show t.length + 2 < _; omega) (fun h' ar' cs' H' E' => ?_)
    simp only [k_44_44, k_44_47, nI_1, am_cat, am_kill, Value.category, List.map_cons, List.map_nil, List.sum_cons, List.sum_nil, Option.toList_some, Option.toList_none, List.cons_append, List.nil_append, List.length_cons, List.length_nil, List.getD_cons_succ, List.getD_cons_zero, List.set_cons_succ, List.set_cons_zero, Nat.reduceAdd, Nat.reduceLT, Nat.reduceLeDiff, Nat.zero_le, Nat.zero_add, Nat.add_zero]
    have hne : p ≠ a ∧ p ≠ ar := ⟨(fun e => by rw [e, H.1] at hq'; cases hq'), (fun e => by rw [e, H.2.1] at hq'; cases hq')⟩
    refine ih (n + 1) h' ar' _ cs' (by omega) H' (S.kept E'.1 H.2.2.2.2.1 H.2.2.2.2.2.1) (by rw [E'.1.2 p (lt_of_get hq) hne.1 hne.2]; exact hq) (by rw [List.length_append]; show t.length + 2 + _ < _; omega) (App.step (u := [91, 93]) K E')

theorem chr_nI {n : Nat} (h : n < 65536) : chr (nI n) := ⟨by rw [nI_toInt (by omega)]; omega, by rw [nI_toInt (by omega)]; omega⟩
theorem sp_arN {d : Nat} {a p ar : Nat} {τ : Ty} {t : List Int32} {cs : List Value} {h : AH} {o : Option Value} {Q : Option Value → AH → Prop} (hb3 : τ.1 ≤ 3) (hk : τ.2.2 < 4) (hl : τ.2.1 = 79 ∨ τ.2.1 ∈ sgl) (hp : sN ≤ p) (H : Chs h a ar t cs) (S : Sta h) (hq : h[p]? = some (tyc τ)) (hb : t.length < 2 ^ 18) (K : App h a ar t cs (arN τ) (Q none)) : wp (d + 5) 44 0 [some (.ref p), some (.ref a), o] [] h Q := by
  have hq' : h[p]? = some (.inr 3, [.int (nI τ.1), .int τ.2.1, .int (nI τ.2.2)]) := hq
  simp only [k_44_0, k_44_0N, k_44_1, k_44_1N, k_44_2, okV_iff hq', am_cat, am_kill, Value.category, List.map_cons, List.map_nil, List.sum_cons, List.sum_nil, Option.toList_some, Option.toList_none, List.cons_append, List.nil_append, List.length_cons, List.length_nil, List.getD_cons_succ, List.getD_cons_zero, List.set_cons_succ, List.set_cons_zero, Nat.reduceAdd, Nat.reduceLT, Nat.reduceLeDiff, Nat.zero_le, Nat.zero_add, Nat.add_zero]
  refine sp_elName hq S hl (fun r Sr => ?_)
  simp only [k_44_5, okV_iff H.1, am_cat, am_kill, Value.category, List.map_cons, List.map_nil, List.sum_cons, List.sum_nil, Option.toList_some, Option.toList_none, List.cons_append, List.nil_append, List.length_cons, List.length_nil, List.getD_cons_succ, List.getD_cons_zero, List.set_cons_succ, List.set_cons_zero, Nat.reduceAdd, Nat.reduceLT, Nat.reduceLeDiff, Nat.zero_le, Nat.zero_add, Nat.add_zero]
  have hne : p ≠ a ∧ p ≠ ar := ⟨(fun e => by rw [e, H.1] at hq'; cases hq'), (fun e => by rw [e, H.2.1] at hq'; cases hq')⟩
  have hel := elN_len τ.2.1
  unfold arN at K
  refine sp_puts H Sr (by omega) (fun h1 ar1 cs1 H1 E1 => ?_)
  have hq1 : h1[p]? = some (tyc τ) := by rw [E1.1.2 p (lt_of_get hq) hne.1 hne.2]; exact hq
  have hq1' : h1[p]? = some (.inr 3, [.int (nI τ.1), .int τ.2.1, .int (nI τ.2.2)]) := hq1
  have hne1 : p ≠ a ∧ p ≠ ar1 := ⟨(fun e => by rw [e, H1.1] at hq1'; cases hq1'), (fun e => by rw [e, H1.2.1] at hq1'; cases hq1')⟩
  have S1 := S.kept E1.1 H.2.2.2.2.1 H.2.2.2.2.2.1
  have K1 := App.step K E1
  simp only [k_44_8, k_44_8N, k_44_12, k_44_14, k_44_9, okG_iff hq1', fld_of hq1', am_cat, am_kill, Value.category, List.map_cons, List.map_nil, List.sum_cons, List.sum_nil, Option.toList_some, Option.toList_none, List.cons_append, List.nil_append, List.length_cons, List.length_nil, List.getD_cons_succ, List.getD_cons_zero, List.set_cons_succ, List.set_cons_zero, Nat.reduceAdd, Nat.reduceLT, Nat.reduceLeDiff, Nat.zero_le, Nat.zero_add, Nat.add_zero]
  by_cases c : τ.2.1 = 79
  · rw [if_pos c] at K1
    have ec : (48 : Int32) + nI τ.2.2 = nI (48 + τ.2.2) := by rw [show (48 : Int32) = nI 48 from rfl, nI_add]
    simp only [c, if_true, k_44_17, k_44_17N, k_44_18, k_44_20, k_44_20N, k_44_24, k_44_21, k_44_25, okG_iff hq1', fld_of hq1', okV_iff H1.1, ec, am_cat, am_kill, Value.category, List.map_cons, List.map_nil, List.sum_cons, List.sum_nil, Option.toList_some, Option.toList_none, List.cons_append, List.nil_append, List.length_cons, List.length_nil, List.getD_cons_succ, List.getD_cons_zero, List.set_cons_succ, List.set_cons_zero, Nat.reduceAdd, Nat.reduceLT, Nat.reduceLeDiff, Nat.zero_le, Nat.zero_add, Nat.add_zero]
    refine sp_put H1 (chr_nI (by omega)) (by rw [List.length_append]; omega) (fun h2 ar2 cs2 H2 E2 => ?_)
    simp only [k_44_28, k_44_29, am_cat, am_kill, Value.category, List.map_cons, List.map_nil, List.sum_cons, List.sum_nil, Option.toList_some, Option.toList_none, List.cons_append, List.nil_append, List.length_cons, List.length_nil, List.getD_cons_succ, List.getD_cons_zero, List.set_cons_succ, List.set_cons_zero, Nat.reduceAdd, Nat.reduceLT, Nat.reduceLeDiff, Nat.zero_le, Nat.zero_add, Nat.add_zero]
    refine sp_an_loop hb3 hp τ.1 0 h2 ar2 _ cs2 (by omega) H2 (S1.kept E2.1 H1.2.2.2.2.1 H1.2.2.2.2.2.1) (by rw [E2.1.2 p (lt_of_get hq1) hne1.1 hne1.2]; exact hq1) ?_ (App.step K1 E2)
    rw [List.length_append, List.length_append]
    show t.length + (elN τ.2.1).length + 1 + 2 * τ.1 < _
    omega
  · rw [if_neg c, List.nil_append] at K1
    simp only [c, if_false, k_44_28, k_44_29, am_cat, am_kill, Value.category, List.map_cons, List.map_nil, List.sum_cons, List.sum_nil, Option.toList_some, Option.toList_none, List.cons_append, List.nil_append, List.length_cons, List.length_nil, List.getD_cons_succ, List.getD_cons_zero, List.set_cons_succ, List.set_cons_zero, Nat.reduceAdd, Nat.reduceLT, Nat.reduceLeDiff, Nat.zero_le, Nat.zero_add, Nat.add_zero]
    refine sp_an_loop hb3 hp τ.1 0 h1 ar1 _ cs1 (by omega) H1 S1 hq1 ?_ K1
    rw [List.length_append]
    omega
