/-! THE REFERENCE'S CELLS: the object at 135, its arrays at 136 to 146 -/
def mZ : Nat → Nat
  | 0 => 40
  | 1 => 240
  | 2 => 6
  | 3 => 60
  | 4 => 1500
  | 5 => 4200
  | 6 => 20
  | 7 => 20
  | 8 => 1300
  | 9 => 4
  | _ => 400
def mT : Nat → FieldType
  | 0 => .char
  | 1 => .char
  | 7 => .boolean
  | 8 => .char
  | _ => .int
def mV (n : Nat → Int32) (k : Nat) : Value := if 10 ≤ k ∧ k ≤ 19 then .ref (126 + k) else if k = 22 then .ref 146 else .int (n k)
def mcs (n : Nat → Int32) (A : Nat → Nat → Int32) : AH := ((.inr 8, (List.range 25).map (mV n)) : AC) :: (List.range 11).map (fun i => ((.inl (mT i), (List.range (mZ i)).map (fun j => Value.int (A i j))) : AC))
def wr (P S : AH) (n : Nat → Int32) (A : Nat → Nat → Int32) : AH := P ++ (mcs n A ++ S)
def uA (A : Nat → Nat → Int32) (i j : Nat) (x : Int32) : Nat → Nat → Int32 := fun i' j' => if i' = i ∧ j' = j then x else A i' j'
theorem uA_s {A : Nat → Nat → Int32} {i j : Nat} {x : Int32} : uA A i j x i j = x := if_pos ⟨rfl, rfl⟩
theorem uA_n {A : Nat → Nat → Int32} {i j i' j' : Nat} {x : Int32} (h : i' ≠ i) : uA A i j x i' j' = A i' j' := if_neg (fun q => h q.1)
theorem uA_m {A : Nat → Nat → Int32} {i j j' : Nat} {x : Int32} (h : j' ≠ j) : uA A i j x i j' = A i j' := if_neg (fun q => h q.2)
theorem uA_r {A : Nat → Nat → Int32} {i j i' : Nat} {x : Int32} (h : i' ≠ i) : uA A i j x i' = A i' := funext fun _ => uA_n h
theorem mcs_len (n : Nat → Int32) (A : Nat → Nat → Int32) : (mcs n A).length = 12 := by simp [mcs]
section WR
variable {P S : AH} {n n' : Nat → Int32} {A : Nat → Nat → Int32}
theorem wr_lo (hP : P.length = 135) {b : Nat} (hb : b < 135) : (wr P S n A)[b]? = P[b]? := List.getElem?_append_left (by omega)
theorem wr_hi (hP : P.length = 135) {b : Nat} (hb : 147 ≤ b) : (wr P S n A)[b]? = S[b - 147]? := by
  unfold wr
  rw [List.getElem?_append_right (by omega), List.getElem?_append_right (by rw [mcs_len]; omega), hP, mcs_len, show b - 135 - 12 = b - 147 by omega]
theorem wr_obj (hP : P.length = 135) : (wr P S n A)[135]? = some (.inr 8, (List.range 25).map (mV n)) := by
  unfold wr mcs
  rw [List.getElem?_append_right (by omega), hP]
  rfl
theorem wr_arr (hP : P.length = 135) {i : Nat} (hi : i < 11) : (wr P S n A)[136 + i]? = some (.inl (mT i), (List.range (mZ i)).map fun j => Value.int (A i j)) := by
  unfold wr
  rw [List.getElem?_append_right (by omega), List.getElem?_append_left (by rw [mcs_len]; omega), hP, show 136 + i - 135 = i + 1 by omega]
  unfold mcs
  rw [List.getElem?_cons_succ, List.getElem?_map, List.getElem?_range hi]
  rfl
theorem wr_ext (hP : P.length = 135) {h h' : AH} (h1 : ∀ b, b < 135 → h[b]? = h'[b]?) (h2 : h[135]? = h'[135]?) (h3 : ∀ i, i < 11 → h[136 + i]? = h'[136 + i]?) (h4 : ∀ b, 147 ≤ b → h[b]? = h'[b]?) : h = h' := by
  apply List.ext_getElem?
  intro b
  by_cases c1 : b < 135
  · exact h1 b c1
  by_cases c2 : b = 135
  · rw [c2]; exact h2
  by_cases c3 : b < 147
  · have := h3 (b - 136) (by omega)
    rwa [show 136 + (b - 136) = b by omega] at this
  · exact h4 b (by omega)
theorem wr_len (hP : P.length = 135) : (wr P S n A).length = 147 + S.length := by
  unfold wr
  rw [List.length_append, List.length_append, mcs_len, hP]
  omega
theorem wr_set0 (hP : P.length = 135) : (wr P S n A).set 135 (.inr 8, (List.range 25).map (mV n')) = wr P S n' A := by
  refine wr_ext hP (fun b hb => ?_) ?_ (fun i hi => ?_) (fun b hb => ?_)
  · rw [get_set_ne (by omega), wr_lo hP hb, wr_lo hP hb]
  · rw [get_set_eq (wr_obj hP), wr_obj hP]
  · rw [get_set_ne (by omega), wr_arr hP hi, wr_arr hP hi]
  · rw [get_set_ne (by omega), wr_hi hP hb, wr_hi hP hb]
theorem wr_setA (hP : P.length = 135) {i j : Nat} {x : Int32} (hi : i < 11) : (wr P S n A).set (136 + i) (.inl (mT i), ((List.range (mZ i)).map fun j => Value.int (A i j)).set j (.int x)) = wr P S n (uA A i j x) := by
  refine wr_ext hP (fun b hb => ?_) ?_ (fun i' hi' => ?_) (fun b hb => ?_)
  · rw [get_set_ne (by omega), wr_lo hP hb, wr_lo hP hb]
  · rw [get_set_ne (by omega), wr_obj hP, wr_obj hP]
  · by_cases c : i' = i
    · subst c
      rw [get_set_eq (wr_arr hP hi), wr_arr hP hi]
      congr 2
      apply List.ext_getElem?
      intro q
      rw [List.getElem?_set, List.getElem?_map, List.getElem?_map, List.length_map, List.length_range]
      by_cases c1 : j = q
      · subst c1
        rw [if_pos rfl]
        by_cases c2 : j < mZ i'
        · rw [if_pos c2, List.getElem?_range c2]
          show _ = some (Value.int (uA A i' j x i' j))
          rw [uA_s]
        · rw [if_neg c2, List.getElem?_eq_none (by rw [List.length_range]; omega)]
          rfl
      · rw [if_neg c1]
        by_cases c2 : q < mZ i'
        · rw [List.getElem?_range c2]
          show _ = some (Value.int (uA A i' j x i' q))
          rw [uA_m (fun e => c1 e.symm)]
          rfl
        · rw [List.getElem?_eq_none (by rw [List.length_range]; omega)]
          rfl
    · rw [get_set_ne (by omega), wr_arr hP hi', wr_arr hP hi', uA_r c]
  · rw [get_set_ne (by omega), wr_hi hP hb, wr_hi hP hb]
theorem ogw (hP : P.length = 135) {k : Nat} : okG (wr P S n A) 135 8 k ↔ k < 25 := by
  rw [okG_iff (wr_obj hP), List.length_map, List.length_range]
theorem ovw (hP : P.length = 135) : okV (wr P S n A) 135 8 ↔ True := okV_iff (wr_obj hP)
theorem fw (hP : P.length = 135) {k : Nat} (hk : k < 25) : fld (wr P S n A) 135 k = mV n k := by
  rw [fld_of (wr_obj hP), List.getD_eq_getElem?_getD, List.getElem?_map, List.getElem?_range hk]
  rfl
theorem hw (hP : P.length = 135) {k : Nat} {x : Int32} (hk : k < 25) (h1 : ¬ (10 ≤ k ∧ k ≤ 19)) (h2 : k ≠ 22) : hput (wr P S n A) 135 k (.int x) = wr P S (upd n k x) A := by
  rw [hput_of (wr_obj hP), ← wr_set0 (n := n) (n' := upd n k x) hP]
  congr 2
  apply List.ext_getElem?
  intro q
  rw [List.getElem?_set, List.getElem?_map, List.getElem?_map, List.length_map, List.length_range]
  by_cases c1 : k = q
  · subst c1
    rw [if_pos rfl, if_pos hk, List.getElem?_range hk]
    show _ = some (mV (upd n k x) k)
    unfold mV
    rw [if_neg h1, if_neg h2, pk_us]
  · rw [if_neg c1]
    by_cases c2 : q < 25
    · rw [List.getElem?_range c2]
      show some (mV n q) = some (mV (upd n k x) q)
      unfold mV
      rw [pk_un (fun e => c1 e.symm)]
    · rw [List.getElem?_eq_none (by rw [List.length_range]; omega)]
      rfl
theorem aw (hP : P.length = 135) {i j : Nat} (hi : i < 11) (hj : j < mZ i) (hz : mZ i < 2 ^ 31) : arr (wr P S n A) (136 + i) (nI j) = .int (A i j) := by
  rw [arr_of (wr_arr hP hi), nI_clamp (by omega), List.getD_eq_getElem?_getD, List.getElem?_map, List.getElem?_range hj]
  rfl
theorem ow (hP : P.length = 135) {i j : Nat} {ok : FieldType → Bool} (hi : i < 11) (hj : j < mZ i) (hz : mZ i < 2 ^ 31) (ho : ok (mT i) = true) : okA ok (wr P S n A) (136 + i) (nI j) := ⟨_, _, wr_arr hP hi, ho, nI_pos (by omega), by rw [nI_clamp (by omega), List.length_map, List.length_range]; exact hj⟩
theorem sw (hP : P.length = 135) {i j : Nat} {x : Int32} (hi : i < 11) (hj : j < 2 ^ 31) : hast (wr P S n A) (136 + i) (nI j) (.int x) = wr P S n (uA A i j x) := by
  rw [hast_of (wr_arr hP hi), nI_clamp hj]
  exact wr_setA hP hi
theorem fw_0 (hP : P.length = 135) : fld (wr P S n A) 135 0 = .int (n 0) := fw hP (by decide)
theorem fw_1 (hP : P.length = 135) : fld (wr P S n A) 135 1 = .int (n 1) := fw hP (by decide)
theorem fw_2 (hP : P.length = 135) : fld (wr P S n A) 135 2 = .int (n 2) := fw hP (by decide)
theorem fw_3 (hP : P.length = 135) : fld (wr P S n A) 135 3 = .int (n 3) := fw hP (by decide)
theorem fw_4 (hP : P.length = 135) : fld (wr P S n A) 135 4 = .int (n 4) := fw hP (by decide)
theorem fw_5 (hP : P.length = 135) : fld (wr P S n A) 135 5 = .int (n 5) := fw hP (by decide)
theorem fw_6 (hP : P.length = 135) : fld (wr P S n A) 135 6 = .int (n 6) := fw hP (by decide)
theorem fw_7 (hP : P.length = 135) : fld (wr P S n A) 135 7 = .int (n 7) := fw hP (by decide)
theorem fw_8 (hP : P.length = 135) : fld (wr P S n A) 135 8 = .int (n 8) := fw hP (by decide)
theorem fw_9 (hP : P.length = 135) : fld (wr P S n A) 135 9 = .int (n 9) := fw hP (by decide)
theorem fw_10 (hP : P.length = 135) : fld (wr P S n A) 135 10 = .ref 136 := fw hP (by decide)
theorem fw_11 (hP : P.length = 135) : fld (wr P S n A) 135 11 = .ref 137 := fw hP (by decide)
theorem fw_12 (hP : P.length = 135) : fld (wr P S n A) 135 12 = .ref 138 := fw hP (by decide)
theorem fw_13 (hP : P.length = 135) : fld (wr P S n A) 135 13 = .ref 139 := fw hP (by decide)
theorem fw_14 (hP : P.length = 135) : fld (wr P S n A) 135 14 = .ref 140 := fw hP (by decide)
theorem fw_15 (hP : P.length = 135) : fld (wr P S n A) 135 15 = .ref 141 := fw hP (by decide)
theorem fw_16 (hP : P.length = 135) : fld (wr P S n A) 135 16 = .ref 142 := fw hP (by decide)
theorem fw_17 (hP : P.length = 135) : fld (wr P S n A) 135 17 = .ref 143 := fw hP (by decide)
theorem fw_18 (hP : P.length = 135) : fld (wr P S n A) 135 18 = .ref 144 := fw hP (by decide)
theorem fw_19 (hP : P.length = 135) : fld (wr P S n A) 135 19 = .ref 145 := fw hP (by decide)
theorem fw_20 (hP : P.length = 135) : fld (wr P S n A) 135 20 = .int (n 20) := fw hP (by decide)
theorem fw_21 (hP : P.length = 135) : fld (wr P S n A) 135 21 = .int (n 21) := fw hP (by decide)
theorem fw_22 (hP : P.length = 135) : fld (wr P S n A) 135 22 = .ref 146 := fw hP (by decide)
theorem fw_23 (hP : P.length = 135) : fld (wr P S n A) 135 23 = .int (n 23) := fw hP (by decide)
theorem fw_24 (hP : P.length = 135) : fld (wr P S n A) 135 24 = .int (n 24) := fw hP (by decide)
theorem hw_0 (hP : P.length = 135) {x : Int32} : hput (wr P S n A) 135 0 (.int x) = wr P S (upd n 0 x) A := hw hP (by decide) (by decide) (by decide)
theorem hw_1 (hP : P.length = 135) {x : Int32} : hput (wr P S n A) 135 1 (.int x) = wr P S (upd n 1 x) A := hw hP (by decide) (by decide) (by decide)
theorem hw_2 (hP : P.length = 135) {x : Int32} : hput (wr P S n A) 135 2 (.int x) = wr P S (upd n 2 x) A := hw hP (by decide) (by decide) (by decide)
theorem hw_3 (hP : P.length = 135) {x : Int32} : hput (wr P S n A) 135 3 (.int x) = wr P S (upd n 3 x) A := hw hP (by decide) (by decide) (by decide)
theorem hw_4 (hP : P.length = 135) {x : Int32} : hput (wr P S n A) 135 4 (.int x) = wr P S (upd n 4 x) A := hw hP (by decide) (by decide) (by decide)
theorem hw_5 (hP : P.length = 135) {x : Int32} : hput (wr P S n A) 135 5 (.int x) = wr P S (upd n 5 x) A := hw hP (by decide) (by decide) (by decide)
theorem hw_6 (hP : P.length = 135) {x : Int32} : hput (wr P S n A) 135 6 (.int x) = wr P S (upd n 6 x) A := hw hP (by decide) (by decide) (by decide)
theorem hw_7 (hP : P.length = 135) {x : Int32} : hput (wr P S n A) 135 7 (.int x) = wr P S (upd n 7 x) A := hw hP (by decide) (by decide) (by decide)
theorem hw_8 (hP : P.length = 135) {x : Int32} : hput (wr P S n A) 135 8 (.int x) = wr P S (upd n 8 x) A := hw hP (by decide) (by decide) (by decide)
theorem hw_9 (hP : P.length = 135) {x : Int32} : hput (wr P S n A) 135 9 (.int x) = wr P S (upd n 9 x) A := hw hP (by decide) (by decide) (by decide)
theorem hw_20 (hP : P.length = 135) {x : Int32} : hput (wr P S n A) 135 20 (.int x) = wr P S (upd n 20 x) A := hw hP (by decide) (by decide) (by decide)
theorem hw_21 (hP : P.length = 135) {x : Int32} : hput (wr P S n A) 135 21 (.int x) = wr P S (upd n 21 x) A := hw hP (by decide) (by decide) (by decide)
theorem hw_23 (hP : P.length = 135) {x : Int32} : hput (wr P S n A) 135 23 (.int x) = wr P S (upd n 23 x) A := hw hP (by decide) (by decide) (by decide)
theorem hw_24 (hP : P.length = 135) {x : Int32} : hput (wr P S n A) 135 24 (.int x) = wr P S (upd n 24 x) A := hw hP (by decide) (by decide) (by decide)
theorem aw_0 (hP : P.length = 135) {j : Nat} (hj : j < 40) : arr (wr P S n A) 136 (nI j) = .int (A 0 j) := aw (i := 0) hP (by decide) hj (by decide)
theorem ow_0 (hP : P.length = 135) {j : Nat} (hj : j < 40) : okA am_isC (wr P S n A) 136 (nI j) := ow (i := 0) hP (by decide) hj (by decide) rfl
theorem sw_0 (hP : P.length = 135) {j : Nat} {x : Int32} (hj : j < 40) : hast (wr P S n A) 136 (nI j) (.int x) = wr P S n (uA A 0 j x) := sw (i := 0) hP (by decide) (by omega)
theorem aw_1 (hP : P.length = 135) {j : Nat} (hj : j < 240) : arr (wr P S n A) 137 (nI j) = .int (A 1 j) := aw (i := 1) hP (by decide) hj (by decide)
theorem ow_1 (hP : P.length = 135) {j : Nat} (hj : j < 240) : okA am_isC (wr P S n A) 137 (nI j) := ow (i := 1) hP (by decide) hj (by decide) rfl
theorem sw_1 (hP : P.length = 135) {j : Nat} {x : Int32} (hj : j < 240) : hast (wr P S n A) 137 (nI j) (.int x) = wr P S n (uA A 1 j x) := sw (i := 1) hP (by decide) (by omega)
theorem aw_2 (hP : P.length = 135) {j : Nat} (hj : j < 6) : arr (wr P S n A) 138 (nI j) = .int (A 2 j) := aw (i := 2) hP (by decide) hj (by decide)
theorem ow_2 (hP : P.length = 135) {j : Nat} (hj : j < 6) : okA am_isI (wr P S n A) 138 (nI j) := ow (i := 2) hP (by decide) hj (by decide) rfl
theorem sw_2 (hP : P.length = 135) {j : Nat} {x : Int32} (hj : j < 6) : hast (wr P S n A) 138 (nI j) (.int x) = wr P S n (uA A 2 j x) := sw (i := 2) hP (by decide) (by omega)
theorem aw_3 (hP : P.length = 135) {j : Nat} (hj : j < 60) : arr (wr P S n A) 139 (nI j) = .int (A 3 j) := aw (i := 3) hP (by decide) hj (by decide)
theorem ow_3 (hP : P.length = 135) {j : Nat} (hj : j < 60) : okA am_isI (wr P S n A) 139 (nI j) := ow (i := 3) hP (by decide) hj (by decide) rfl
theorem sw_3 (hP : P.length = 135) {j : Nat} {x : Int32} (hj : j < 60) : hast (wr P S n A) 139 (nI j) (.int x) = wr P S n (uA A 3 j x) := sw (i := 3) hP (by decide) (by omega)
theorem aw_4 (hP : P.length = 135) {j : Nat} (hj : j < 1500) : arr (wr P S n A) 140 (nI j) = .int (A 4 j) := aw (i := 4) hP (by decide) hj (by decide)
theorem ow_4 (hP : P.length = 135) {j : Nat} (hj : j < 1500) : okA am_isI (wr P S n A) 140 (nI j) := ow (i := 4) hP (by decide) hj (by decide) rfl
theorem sw_4 (hP : P.length = 135) {j : Nat} {x : Int32} (hj : j < 1500) : hast (wr P S n A) 140 (nI j) (.int x) = wr P S n (uA A 4 j x) := sw (i := 4) hP (by decide) (by omega)
theorem aw_5 (hP : P.length = 135) {j : Nat} (hj : j < 4200) : arr (wr P S n A) 141 (nI j) = .int (A 5 j) := aw (i := 5) hP (by decide) hj (by decide)
theorem ow_5 (hP : P.length = 135) {j : Nat} (hj : j < 4200) : okA am_isI (wr P S n A) 141 (nI j) := ow (i := 5) hP (by decide) hj (by decide) rfl
theorem sw_5 (hP : P.length = 135) {j : Nat} {x : Int32} (hj : j < 4200) : hast (wr P S n A) 141 (nI j) (.int x) = wr P S n (uA A 5 j x) := sw (i := 5) hP (by decide) (by omega)
theorem aw_6 (hP : P.length = 135) {j : Nat} (hj : j < 20) : arr (wr P S n A) 142 (nI j) = .int (A 6 j) := aw (i := 6) hP (by decide) hj (by decide)
theorem ow_6 (hP : P.length = 135) {j : Nat} (hj : j < 20) : okA am_isI (wr P S n A) 142 (nI j) := ow (i := 6) hP (by decide) hj (by decide) rfl
theorem sw_6 (hP : P.length = 135) {j : Nat} {x : Int32} (hj : j < 20) : hast (wr P S n A) 142 (nI j) (.int x) = wr P S n (uA A 6 j x) := sw (i := 6) hP (by decide) (by omega)
theorem aw_7 (hP : P.length = 135) {j : Nat} (hj : j < 20) : arr (wr P S n A) 143 (nI j) = .int (A 7 j) := aw (i := 7) hP (by decide) hj (by decide)
theorem ow_7 (hP : P.length = 135) {j : Nat} (hj : j < 20) : okA am_isZ (wr P S n A) 143 (nI j) := ow (i := 7) hP (by decide) hj (by decide) rfl
theorem sw_7 (hP : P.length = 135) {j : Nat} {x : Int32} (hj : j < 20) : hast (wr P S n A) 143 (nI j) (.int x) = wr P S n (uA A 7 j x) := sw (i := 7) hP (by decide) (by omega)
theorem aw_8 (hP : P.length = 135) {j : Nat} (hj : j < 1300) : arr (wr P S n A) 144 (nI j) = .int (A 8 j) := aw (i := 8) hP (by decide) hj (by decide)
theorem ow_8 (hP : P.length = 135) {j : Nat} (hj : j < 1300) : okA am_isC (wr P S n A) 144 (nI j) := ow (i := 8) hP (by decide) hj (by decide) rfl
theorem sw_8 (hP : P.length = 135) {j : Nat} {x : Int32} (hj : j < 1300) : hast (wr P S n A) 144 (nI j) (.int x) = wr P S n (uA A 8 j x) := sw (i := 8) hP (by decide) (by omega)
theorem aw_9 (hP : P.length = 135) {j : Nat} (hj : j < 4) : arr (wr P S n A) 145 (nI j) = .int (A 9 j) := aw (i := 9) hP (by decide) hj (by decide)
theorem ow_9 (hP : P.length = 135) {j : Nat} (hj : j < 4) : okA am_isI (wr P S n A) 145 (nI j) := ow (i := 9) hP (by decide) hj (by decide) rfl
theorem sw_9 (hP : P.length = 135) {j : Nat} {x : Int32} (hj : j < 4) : hast (wr P S n A) 145 (nI j) (.int x) = wr P S n (uA A 9 j x) := sw (i := 9) hP (by decide) (by omega)
theorem aw_10 (hP : P.length = 135) {j : Nat} (hj : j < 400) : arr (wr P S n A) 146 (nI j) = .int (A 10 j) := aw (i := 10) hP (by decide) hj (by decide)
theorem ow_10 (hP : P.length = 135) {j : Nat} (hj : j < 400) : okA am_isI (wr P S n A) 146 (nI j) := ow (i := 10) hP (by decide) hj (by decide) rfl
theorem sw_10 (hP : P.length = 135) {j : Nat} {x : Int32} (hj : j < 400) : hast (wr P S n A) 146 (nI j) (.int x) = wr P S n (uA A 10 j x) := sw (i := 10) hP (by decide) (by omega)
end WR
/-! THE REFERENCE'S STATE WHILE IT WRITES A PART -/
/-- part k has the text t (325 characters of it are kept), u numbers were taken, w is the work list -/
def MS (P S : AH) (n0 : Nat → Int32) (A0 : Nat → Nat → Int32) (k : Nat) (t : List Int32) (u ar : Nat) (w : List Int32) (nl : Int32) (h : AH) : Prop := ∃ n A, h = wr P S n A ∧ (∀ i, i ≠ 4 → i ≠ 20 → i ≠ 21 → i ≠ 23 → i ≠ 24 → n i = n0 i) ∧ n 20 = nI k ∧ n 4 = nI u ∧ n 21 = nI ar ∧ n 23 = nI w.length ∧ n 24 = nl ∧ (∀ i, i < 8 → A i = A0 i) ∧ (∀ (j : Nat) (x : Int32), w[j]? = some x → A 10 j = x) ∧ A 9 k = nI t.length ∧ (∀ (j : Nat) (c : Int32), j < 325 → t[j]? = some c → A 8 (k * 325 + j) = c) ∧ (∀ k', k' < 4 → k' ≠ k → A 9 k' = A0 9 k' ∧ ∀ j, j < 325 → A 8 (k' * 325 + j) = A0 8 (k' * 325 + j))
section MW
variable {P S h : AH} {n0 : Nat → Int32} {A0 : Nat → Nat → Int32} {k u ar d : Nat} {t w : List Int32} {nl : Int32} {Q : Option Value → AH → Prop}
theorem mi_put {c : Int32} (hP : P.length = 135) (hk : k < 4) (hc : chr c) (M : MS P S n0 A0 k t u ar w nl h) (hb : t.length < 2 ^ 30) (K : ∀ h', MS P S n0 A0 k (t ++ [c]) u ar w nl h' → Q none h') : wp d 106 0 [some (.ref 135), some (.int c)] [] h Q := by
  obtain ⟨n, A, rfl, m1, m2, m3, m4, m5, m6, m7, m8, m9, m10, m11⟩ := M
  have hs : sN ≤ 144 := by decide
  have hs2 : sN ≤ 145 := by decide
  have e1 : (nI t.length < (325 : Int32)) ↔ t.length < 325 := nI_ltI (b := 325) (by omega) (by omega)
  simp only [k_106_0, k_106_0N, k_106_4, k_106_4N, k_106_1, k_106_5, ogw hP, fw_19 hP, fw_20 hP, m2, am_cat, am_kill, Value.category, List.map_cons, List.map_nil, List.sum_cons, List.sum_nil, Option.toList_some, Option.toList_none, List.cons_append, List.nil_append, List.length_cons, List.length_nil, List.getD_cons_succ, List.getD_cons_zero, List.set_cons_succ, List.set_cons_zero, Nat.reduceAdd, Nat.reduceLT, Nat.reduceLeDiff, Nat.zero_le, Nat.zero_add, Nat.add_zero]
  rw [k_106_8 (ow_9 hP hk), aw_9 hP hk, m9]
  simp only [k_106_9, k_106_12, e1, am_cat, am_kill, Value.category, List.map_cons, List.map_nil, List.sum_cons, List.sum_nil, Option.toList_some, Option.toList_none, List.cons_append, List.nil_append, List.length_cons, List.length_nil, List.getD_cons_succ, List.getD_cons_zero, List.set_cons_succ, List.set_cons_zero, Nat.reduceAdd, Nat.reduceLT, Nat.reduceLeDiff, Nat.zero_le, Nat.zero_add, Nat.add_zero]
  have fin : ∀ A', A' 9 k = nI t.length → (∀ i, i < 8 → A' i = A i) → A' 10 = A 10 → (∀ k', k' < 4 → k' ≠ k → A' 9 k' = A 9 k' ∧ ∀ j, j < 325 → A' 8 (k' * 325 + j) = A 8 (k' * 325 + j)) → (∀ (j : Nat) (c' : Int32), j < 325 → (t ++ [c])[j]? = some c' → A' 8 (k * 325 + j) = c') → wp d 106 40 [some (.ref 135), some (.int c)] [] (wr P S n A') Q := by
    intro A' a1 a2 a3 a4 a5
    simp only [k_106_40, k_106_40N, k_106_44, k_106_44N, k_106_48, k_106_41, k_106_45, ogw hP, fw_19 hP, fw_20 hP, m2, am_cat, am_kill, Value.category, List.map_cons, List.map_nil, List.sum_cons, List.sum_nil, Option.toList_some, Option.toList_none, List.cons_append, List.nil_append, List.length_cons, List.length_nil, List.getD_cons_succ, List.getD_cons_zero, List.set_cons_succ, List.set_cons_zero, Nat.reduceAdd, Nat.reduceLT, Nat.reduceLeDiff, Nat.zero_le, Nat.zero_add, Nat.add_zero]
    rw [k_106_49 (ow_9 hP hk), aw_9 hP hk, a1]
    simp only [k_106_50, k_106_51, nI_1, am_cat, am_kill, Value.category, List.map_cons, List.map_nil, List.sum_cons, List.sum_nil, Option.toList_some, Option.toList_none, List.cons_append, List.nil_append, List.length_cons, List.length_nil, List.getD_cons_succ, List.getD_cons_zero, List.set_cons_succ, List.set_cons_zero, Nat.reduceAdd, Nat.reduceLT, Nat.reduceLeDiff, Nat.zero_le, Nat.zero_add, Nat.add_zero]
    rw [k_106_52 (ow_9 hP hk) hs2, sw_9 hP hk]
    simp only [k_106_53]
    refine K _ ⟨n, _, rfl, m1, m2, m3, m4, m5, m6, fun i hi => ?_, fun j x hj => ?_, ?_, fun j c' hj hc' => ?_, fun k' hk' hne => ⟨?_, fun j hj => ?_⟩⟩
    · rw [uA_r (by omega), a2 i hi]; exact m7 i hi
    · rw [uA_n (by decide), a3]; exact m8 j x hj
    · rw [uA_s, List.length_append]; rfl
    · rw [uA_n (by decide)]; exact a5 j c' hj hc'
    · rw [uA_m hne, (a4 k' hk' hne).1]; exact (m11 k' hk' hne).1
    · rw [uA_n (by decide), (a4 k' hk' hne).2 j hj]; exact (m11 k' hk' hne).2 j hj
  by_cases c1 : t.length < 325
  · rw [if_pos c1]
    have hix : k * 325 + t.length < 1300 := by omega
    have e2 : nI k * 325 + nI t.length = nI (k * 325 + t.length) := by rw [show (325 : Int32) = nI 325 from rfl, nI_mul, nI_add]
    simp only [k_106_15, k_106_15N, k_106_19, k_106_19N, k_106_23, k_106_26, k_106_27, k_106_27N, k_106_31, k_106_31N, k_106_16, k_106_20, k_106_28, k_106_32, ogw hP, fw_18 hP, fw_19 hP, fw_20 hP, m2, am_cat, am_kill, Value.category, List.map_cons, List.map_nil, List.sum_cons, List.sum_nil, Option.toList_some, Option.toList_none, List.cons_append, List.nil_append, List.length_cons, List.length_nil, List.getD_cons_succ, List.getD_cons_zero, List.set_cons_succ, List.set_cons_zero, Nat.reduceAdd, Nat.reduceLT, Nat.reduceLeDiff, Nat.zero_le, Nat.zero_add, Nat.add_zero]
    rw [k_106_35 (ow_9 hP hk), aw_9 hP hk, m9]
    simp only [k_106_36, k_106_37, k_106_38, e2, i2c_chr hc, am_cat, am_kill, Value.category, List.map_cons, List.map_nil, List.sum_cons, List.sum_nil, Option.toList_some, Option.toList_none, List.cons_append, List.nil_append, List.length_cons, List.length_nil, List.getD_cons_succ, List.getD_cons_zero, List.set_cons_succ, List.set_cons_zero, Nat.reduceAdd, Nat.reduceLT, Nat.reduceLeDiff, Nat.zero_le, Nat.zero_add, Nat.add_zero]
    rw [k_106_39 (ow_8 hP hix) hs, nar_chr hc, sw_8 hP hix]
    refine fin _ (by rw [uA_n (by decide)]; exact m9) (fun i hi => uA_r (by omega)) (uA_r (by decide)) (fun k' hk' hne => ⟨uA_n (by decide), fun j hj => uA_m (by omega)⟩) (fun j c' hj hc' => ?_)
    rw [List.getElem?_append] at hc'
    by_cases c2 : j < t.length
    · rw [if_pos c2] at hc'
      rw [uA_m (by omega)]
      exact m10 j c' hj hc'
    · rw [if_neg c2] at hc'
      have hz : j - t.length < 1 := (List.getElem?_eq_some_iff.mp hc').1
      obtain rfl : j = t.length := by omega
      rw [Nat.sub_self] at hc'
      cases hc'
      rw [uA_s]
  · rw [if_neg c1]
    refine fin A m9 (fun _ _ => rfl) rfl (fun k' hk' hne => ⟨rfl, fun j hj => rfl⟩) (fun j c' hj hc' => ?_)
    rw [List.getElem?_append_left (by omega)] at hc'
    exact m10 j c' hj hc'
end MW
