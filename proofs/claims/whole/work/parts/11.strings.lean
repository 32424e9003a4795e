/-! WHAT THE STATEMENT TELLS OF THE STRINGS, by program -/
def ss_f (k : String × Nat) : Term := .field (.string k.1 k.2) "java/lang/String" "value" "[B"
def ss_cs (k : String × Nat) (bs : List Int32) : List Cond := [.exactly (.string k.1 k.2) "java/lang/String", .eq (.field (.string k.1 k.2) "java/lang/String" "coder" "B") (.int 0), .arrayOf (ss_f k) .byte, .eq (.length (ss_f k)) (.int (Int32.ofNat bs.length))] ++ bs.zipIdx.map fun z => .eq (.elem (ss_f k) (.int (Int32.ofNat z.2))) (.int z.1)
theorem ss_of {k : String × Nat} {bs : List Int32} {off n : Nat} (h : ((flatC (.and given_1 narrow_1)).drop off).take n = ss_cs k bs) : ∀ c ∈ ss_cs k bs, c ∈ flatC (.and given_1 narrow_1) := fun c hc => List.mem_of_mem_drop (List.mem_of_mem_take (h ▸ hc))
theorem ss_0 : ∀ c ∈ ss_cs ("TestEmitter$Type", 34) (sBl.getD 0 []), c ∈ flatC (.and given_1 narrow_1) := ss_of (off := 9) (n := 13) (by decide +kernel)
theorem ss_1 : ∀ c ∈ ss_cs ("TestEmitter$Type", 41) (sBl.getD 1 []), c ∈ flatC (.and given_1 narrow_1) := ss_of (off := 22) (n := 5) (by decide +kernel)
theorem ss_2 : ∀ c ∈ ss_cs ("TestEmitter$Builder", 33) (sBl.getD 2 []), c ∈ flatC (.and given_1 narrow_1) := ss_of (off := 27) (n := 15) (by decide +kernel)
theorem ss_3 : ∀ c ∈ ss_cs ("TestEmitter$Builder", 171) (sBl.getD 3 []), c ∈ flatC (.and given_1 narrow_1) := ss_of (off := 42) (n := 6) (by decide +kernel)
theorem ss_4 : ∀ c ∈ ss_cs ("TestEmitter$Builder", 124) (sBl.getD 4 []), c ∈ flatC (.and given_1 narrow_1) := ss_of (off := 48) (n := 8) (by decide +kernel)
theorem ss_5 : ∀ c ∈ ss_cs ("TestEmitter$Builder", 126) (sBl.getD 5 []), c ∈ flatC (.and given_1 narrow_1) := ss_of (off := 56) (n := 8) (by decide +kernel)
theorem ss_6 : ∀ c ∈ ss_cs ("TestEmitter$Type", 67) (sBl.getD 6 []), c ∈ flatC (.and given_1 narrow_1) := ss_of (off := 64) (n := 11) (by decide +kernel)
theorem ss_7 : ∀ c ∈ ss_cs ("TestEmitter$Type", 69) (sBl.getD 7 []), c ∈ flatC (.and given_1 narrow_1) := ss_of (off := 75) (n := 8) (by decide +kernel)
theorem ss_8 : ∀ c ∈ ss_cs ("TestEmitter$Type", 71) (sBl.getD 8 []), c ∈ flatC (.and given_1 narrow_1) := ss_of (off := 83) (n := 8) (by decide +kernel)
theorem ss_9 : ∀ c ∈ ss_cs ("TestEmitter$Type", 73) (sBl.getD 9 []), c ∈ flatC (.and given_1 narrow_1) := ss_of (off := 91) (n := 9) (by decide +kernel)
theorem ss_10 : ∀ c ∈ ss_cs ("TestEmitter$Type", 75) (sBl.getD 10 []), c ∈ flatC (.and given_1 narrow_1) := ss_of (off := 100) (n := 7) (by decide +kernel)
theorem ss_11 : ∀ c ∈ ss_cs ("TestEmitter$Type", 77) (sBl.getD 11 []), c ∈ flatC (.and given_1 narrow_1) := ss_of (off := 107) (n := 8) (by decide +kernel)
theorem ss_12 : ∀ c ∈ ss_cs ("TestEmitter$Type", 79) (sBl.getD 12 []), c ∈ flatC (.and given_1 narrow_1) := ss_of (off := 115) (n := 9) (by decide +kernel)
theorem ss_13 : ∀ c ∈ ss_cs ("TestEmitter$Type", 81) (sBl.getD 13 []), c ∈ flatC (.and given_1 narrow_1) := ss_of (off := 124) (n := 10) (by decide +kernel)
theorem ss_14 : ∀ c ∈ ss_cs ("TestEmitter$Type", 83) (sBl.getD 14 []), c ∈ flatC (.and given_1 narrow_1) := ss_of (off := 134) (n := 10) (by decide +kernel)
theorem ss_15 : ∀ c ∈ ss_cs ("TestEmitter$Type", 85) (sBl.getD 15 []), c ∈ flatC (.and given_1 narrow_1) := ss_of (off := 144) (n := 5) (by decide +kernel)
theorem ss_16 : ∀ c ∈ ss_cs ("TestEmitter$Type", 65) (sBl.getD 16 []), c ∈ flatC (.and given_1 narrow_1) := ss_of (off := 149) (n := 6) (by decide +kernel)
theorem ss_17 : ∀ c ∈ ss_cs ("TestEmitter$Builder", 87) (sBl.getD 17 []), c ∈ flatC (.and given_1 narrow_1) := ss_of (off := 155) (n := 8) (by decide +kernel)
theorem ss_18 : ∀ c ∈ ss_cs ("TestEmitter$Builder", 89) (sBl.getD 18 []), c ∈ flatC (.and given_1 narrow_1) := ss_of (off := 163) (n := 9) (by decide +kernel)
theorem ss_19 : ∀ c ∈ ss_cs ("TestEmitter$Builder", 91) (sBl.getD 19 []), c ∈ flatC (.and given_1 narrow_1) := ss_of (off := 172) (n := 11) (by decide +kernel)
theorem ss_20 : ∀ c ∈ ss_cs ("TestEmitter$Builder", 97) (sBl.getD 20 []), c ∈ flatC (.and given_1 narrow_1) := ss_of (off := 183) (n := 12) (by decide +kernel)
theorem ss_21 : ∀ c ∈ ss_cs ("TestEmitter$Builder", 155) (sBl.getD 21 []), c ∈ flatC (.and given_1 narrow_1) := ss_of (off := 195) (n := 6) (by decide +kernel)
theorem ss_22 : ∀ c ∈ ss_cs ("TestEmitter$Builder", 157) (sBl.getD 22 []), c ∈ flatC (.and given_1 narrow_1) := ss_of (off := 201) (n := 6) (by decide +kernel)
theorem ss_23 : ∀ c ∈ ss_cs ("TestEmitter$Builder", 159) (sBl.getD 23 []), c ∈ flatC (.and given_1 narrow_1) := ss_of (off := 207) (n := 6) (by decide +kernel)
theorem ss_24 : ∀ c ∈ ss_cs ("TestEmitter$Builder", 161) (sBl.getD 24 []), c ∈ flatC (.and given_1 narrow_1) := ss_of (off := 213) (n := 6) (by decide +kernel)
theorem ss_25 : ∀ c ∈ ss_cs ("TestEmitter$Builder", 163) (sBl.getD 25 []), c ∈ flatC (.and given_1 narrow_1) := ss_of (off := 219) (n := 20) (by decide +kernel)
theorem ss_26 : ∀ c ∈ ss_cs ("TestEmitter$Builder", 144) (sBl.getD 26 []), c ∈ flatC (.and given_1 narrow_1) := ss_of (off := 239) (n := 21) (by decide +kernel)
theorem ss_27 : ∀ c ∈ ss_cs ("TestEmitter$Builder", 139) (sBl.getD 27 []), c ∈ flatC (.and given_1 narrow_1) := ss_of (off := 260) (n := 18) (by decide +kernel)
theorem ss_28 : ∀ c ∈ ss_cs ("TestEmitter$Builder", 131) (sBl.getD 28 []), c ∈ flatC (.and given_1 narrow_1) := ss_of (off := 278) (n := 9) (by decide +kernel)
theorem ss_29 : ∀ c ∈ ss_cs ("TestEmitter", 178) (sBl.getD 29 []), c ∈ flatC (.and given_1 narrow_1) := ss_of (off := 287) (n := 6) (by decide +kernel)
theorem ss_30 : ∀ c ∈ ss_cs ("TestEmitter", 183) (sBl.getD 30 []), c ∈ flatC (.and given_1 narrow_1) := ss_of (off := 293) (n := 8) (by decide +kernel)
theorem ss_31 : ∀ c ∈ ss_cs ("TestEmitter", 189) (sBl.getD 31 []), c ∈ flatC (.and given_1 narrow_1) := ss_of (off := 302) (n := 15) (by decide +kernel)
theorem ss_32 : ∀ c ∈ ss_cs ("TestEmitter", 191) (sBl.getD 32 []), c ∈ flatC (.and given_1 narrow_1) := ss_of (off := 317) (n := 16) (by decide +kernel)
theorem ss_33 : ∀ c ∈ ss_cs ("TestEmitter", 193) (sBl.getD 33 []), c ∈ flatC (.and given_1 narrow_1) := ss_of (off := 333) (n := 8) (by decide +kernel)
theorem ss_34 : ∀ c ∈ ss_cs ("TestEmitter", 195) (sBl.getD 34 []), c ∈ flatC (.and given_1 narrow_1) := ss_of (off := 342) (n := 15) (by decide +kernel)
theorem ss_35 : ∀ c ∈ ss_cs ("TestEmitter", 200) (sBl.getD 35 []), c ∈ flatC (.and given_1 narrow_1) := ss_of (off := 357) (n := 22) (by decide +kernel)
theorem ss_36 : ∀ c ∈ ss_cs ("TestEmitter", 202) (sBl.getD 36 []), c ∈ flatC (.and given_1 narrow_1) := ss_of (off := 379) (n := 17) (by decide +kernel)
theorem ss_37 : ∀ c ∈ ss_cs ("TestEmitter", 204) (sBl.getD 37 []), c ∈ flatC (.and given_1 narrow_1) := ss_of (off := 396) (n := 6) (by decide +kernel)
theorem ss_38 : ∀ c ∈ ss_cs ("TestEmitter", 206) (sBl.getD 38 []), c ∈ flatC (.and given_1 narrow_1) := ss_of (off := 403) (n := 10) (by decide +kernel)
theorem ss_39 : ∀ c ∈ ss_cs ("TestEmitter", 208) (sBl.getD 39 []), c ∈ flatC (.and given_1 narrow_1) := ss_of (off := 413) (n := 9) (by decide +kernel)
theorem ss_40 : ∀ c ∈ ss_cs ("TestEmitter", 210) (sBl.getD 40 []), c ∈ flatC (.and given_1 narrow_1) := ss_of (off := 422) (n := 4) (by decide +kernel)
theorem ss_41 : ∀ c ∈ ss_cs ("TestEmitter", 212) (sBl.getD 41 []), c ∈ flatC (.and given_1 narrow_1) := ss_of (off := 426) (n := 7) (by decide +kernel)
theorem ss_42 : ∀ c ∈ ss_cs ("TestEmitter", 214) (sBl.getD 42 []), c ∈ flatC (.and given_1 narrow_1) := ss_of (off := 433) (n := 14) (by decide +kernel)
theorem ss_43 : ∀ c ∈ ss_cs ("TestEmitter", 216) (sBl.getD 43 []), c ∈ flatC (.and given_1 narrow_1) := ss_of (off := 447) (n := 16) (by decide +kernel)
theorem ss_44 : ∀ c ∈ ss_cs ("TestEmitter", 218) (sBl.getD 44 []), c ∈ flatC (.and given_1 narrow_1) := ss_of (off := 463) (n := 17) (by decide +kernel)
theorem ss_45 : ∀ c ∈ ss_cs ("TestEmitter", 220) (sBl.getD 45 []), c ∈ flatC (.and given_1 narrow_1) := ss_of (off := 480) (n := 12) (by decide +kernel)
theorem ss_46 : ∀ c ∈ ss_cs ("TestEmitter$Text", 48) (sBl.getD 46 []), c ∈ flatC (.and given_1 narrow_1) := ss_of (off := 492) (n := 29) (by decide +kernel)
theorem ss_47 : ∀ c ∈ ss_cs ("TestEmitter$Text", 62) (sBl.getD 47 []), c ∈ flatC (.and given_1 narrow_1) := ss_of (off := 521) (n := 13) (by decide +kernel)
theorem ss_48 : ∀ c ∈ ss_cs ("TestEmitter$Text", 64) (sBl.getD 48 []), c ∈ flatC (.and given_1 narrow_1) := ss_of (off := 534) (n := 24) (by decide +kernel)
theorem ss_49 : ∀ c ∈ ss_cs ("TestEmitter$Text", 73) (sBl.getD 49 []), c ∈ flatC (.and given_1 narrow_1) := ss_of (off := 558) (n := 8) (by decide +kernel)
theorem ss_50 : ∀ c ∈ ss_cs ("TestEmitter$Text", 83) (sBl.getD 50 []), c ∈ flatC (.and given_1 narrow_1) := ss_of (off := 566) (n := 9) (by decide +kernel)
theorem ss_51 : ∀ c ∈ ss_cs ("TestEmitter$Text", 85) (sBl.getD 51 []), c ∈ flatC (.and given_1 narrow_1) := ss_of (off := 575) (n := 5) (by decide +kernel)
def sQ (i : Nat) : String × Nat := (sKl.getD i (("", 0), 0)).1
theorem ss_all : ∀ i, i < sS → ∀ c ∈ ss_cs (sQ i) (sBl.getD i []), c ∈ flatC (.and given_1 narrow_1) := by
  intro i h
  have h : i < 52 := h
  match i, h with
  | 0, _ => exact ss_0
  | 1, _ => exact ss_1
  | 2, _ => exact ss_2
  | 3, _ => exact ss_3
  | 4, _ => exact ss_4
  | 5, _ => exact ss_5
  | 6, _ => exact ss_6
  | 7, _ => exact ss_7
  | 8, _ => exact ss_8
  | 9, _ => exact ss_9
  | 10, _ => exact ss_10
  | 11, _ => exact ss_11
  | 12, _ => exact ss_12
  | 13, _ => exact ss_13
  | 14, _ => exact ss_14
  | 15, _ => exact ss_15
  | 16, _ => exact ss_16
  | 17, _ => exact ss_17
  | 18, _ => exact ss_18
  | 19, _ => exact ss_19
  | 20, _ => exact ss_20
  | 21, _ => exact ss_21
  | 22, _ => exact ss_22
  | 23, _ => exact ss_23
  | 24, _ => exact ss_24
  | 25, _ => exact ss_25
  | 26, _ => exact ss_26
  | 27, _ => exact ss_27
  | 28, _ => exact ss_28
  | 29, _ => exact ss_29
  | 30, _ => exact ss_30
  | 31, _ => exact ss_31
  | 32, _ => exact ss_32
  | 33, _ => exact ss_33
  | 34, _ => exact ss_34
  | 35, _ => exact ss_35
  | 36, _ => exact ss_36
  | 37, _ => exact ss_37
  | 38, _ => exact ss_38
  | 39, _ => exact ss_39
  | 40, _ => exact ss_40
  | 41, _ => exact ss_41
  | 42, _ => exact ss_42
  | 43, _ => exact ss_43
  | 44, _ => exact ss_44
  | 45, _ => exact ss_45
  | 46, _ => exact ss_46
  | 47, _ => exact ss_47
  | 48, _ => exact ss_48
  | 49, _ => exact ss_49
  | 50, _ => exact ss_50
  | 51, _ => exact ss_51
  | n + 52, h => exact absurd h (by omega)
theorem ss_ref : ∀ i, i < sS → ∃ tx : String, Cond.stringRef (sQ i).1 (sQ i).2 tx ∈ lw_tbl := by
  intro i h
  have h : i < 52 := h
  match i, h with
  | 0, _ => exact ⟨_, List.mem_append_right _ (List.mem_append_left _ (List.mem_of_getElem? (i := 227) rfl))⟩
  | 1, _ => exact ⟨_, List.mem_append_right _ (List.mem_append_right _ (List.mem_append_left _ (List.mem_of_getElem? (i := 98) rfl)))⟩
  | 2, _ => exact ⟨_, List.mem_append_right _ (List.mem_append_right _ (List.mem_append_left _ (List.mem_of_getElem? (i := 167) rfl)))⟩
  | 3, _ => exact ⟨_, List.mem_append_right _ (List.mem_append_right _ (List.mem_append_left _ (List.mem_of_getElem? (i := 181) rfl)))⟩
  | 4, _ => exact ⟨_, List.mem_append_right _ (List.mem_append_right _ (List.mem_append_left _ (List.mem_of_getElem? (i := 208) rfl)))⟩
  | 5, _ => exact ⟨_, List.mem_append_right _ (List.mem_append_right _ (List.mem_append_left _ (List.mem_of_getElem? (i := 209) rfl)))⟩
  | 6, _ => exact ⟨_, List.mem_append_right _ (List.mem_append_right _ (List.mem_append_left _ (List.mem_of_getElem? (i := 218) rfl)))⟩
  | 7, _ => exact ⟨_, List.mem_append_right _ (List.mem_append_right _ (List.mem_append_left _ (List.mem_of_getElem? (i := 219) rfl)))⟩
  | 8, _ => exact ⟨_, List.mem_append_right _ (List.mem_append_right _ (List.mem_append_left _ (List.mem_of_getElem? (i := 220) rfl)))⟩
  | 9, _ => exact ⟨_, List.mem_append_right _ (List.mem_append_right _ (List.mem_append_left _ (List.mem_of_getElem? (i := 221) rfl)))⟩
  | 10, _ => exact ⟨_, List.mem_append_right _ (List.mem_append_right _ (List.mem_append_left _ (List.mem_of_getElem? (i := 222) rfl)))⟩
  | 11, _ => exact ⟨_, List.mem_append_right _ (List.mem_append_right _ (List.mem_append_left _ (List.mem_of_getElem? (i := 223) rfl)))⟩
  | 12, _ => exact ⟨_, List.mem_append_right _ (List.mem_append_right _ (List.mem_append_left _ (List.mem_of_getElem? (i := 224) rfl)))⟩
  | 13, _ => exact ⟨_, List.mem_append_right _ (List.mem_append_right _ (List.mem_append_left _ (List.mem_of_getElem? (i := 225) rfl)))⟩
  | 14, _ => exact ⟨_, List.mem_append_right _ (List.mem_append_right _ (List.mem_append_left _ (List.mem_of_getElem? (i := 226) rfl)))⟩
  | 15, _ => exact ⟨_, List.mem_append_right _ (List.mem_append_right _ (List.mem_append_left _ (List.mem_of_getElem? (i := 227) rfl)))⟩
  | 16, _ => exact ⟨_, List.mem_append_right _ (List.mem_append_right _ (List.mem_append_left _ (List.mem_of_getElem? (i := 230) rfl)))⟩
  | 17, _ => exact ⟨_, List.mem_append_right _ (List.mem_append_right _ (List.mem_append_left _ (List.mem_of_getElem? (i := 236) rfl)))⟩
  | 18, _ => exact ⟨_, List.mem_append_right _ (List.mem_append_right _ (List.mem_append_left _ (List.mem_of_getElem? (i := 237) rfl)))⟩
  | 19, _ => exact ⟨_, List.mem_append_right _ (List.mem_append_right _ (List.mem_append_left _ (List.mem_of_getElem? (i := 238) rfl)))⟩
  | 20, _ => exact ⟨_, List.mem_append_right _ (List.mem_append_right _ (List.mem_append_right _ (List.mem_append_left _ (List.mem_of_getElem? (i := 9) rfl))))⟩
  | 21, _ => exact ⟨_, List.mem_append_right _ (List.mem_append_right _ (List.mem_append_right _ (List.mem_append_left _ (List.mem_of_getElem? (i := 14) rfl))))⟩
  | 22, _ => exact ⟨_, List.mem_append_right _ (List.mem_append_right _ (List.mem_append_right _ (List.mem_append_left _ (List.mem_of_getElem? (i := 15) rfl))))⟩
  | 23, _ => exact ⟨_, List.mem_append_right _ (List.mem_append_right _ (List.mem_append_right _ (List.mem_append_left _ (List.mem_of_getElem? (i := 16) rfl))))⟩
  | 24, _ => exact ⟨_, List.mem_append_right _ (List.mem_append_right _ (List.mem_append_right _ (List.mem_append_left _ (List.mem_of_getElem? (i := 17) rfl))))⟩
  | 25, _ => exact ⟨_, List.mem_append_right _ (List.mem_append_right _ (List.mem_append_right _ (List.mem_append_left _ (List.mem_of_getElem? (i := 18) rfl))))⟩
  | 26, _ => exact ⟨_, List.mem_append_right _ (List.mem_append_right _ (List.mem_append_right _ (List.mem_append_left _ (List.mem_of_getElem? (i := 24) rfl))))⟩
  | 27, _ => exact ⟨_, List.mem_append_right _ (List.mem_append_right _ (List.mem_append_right _ (List.mem_append_left _ (List.mem_of_getElem? (i := 31) rfl))))⟩
  | 28, _ => exact ⟨_, List.mem_append_right _ (List.mem_append_right _ (List.mem_append_right _ (List.mem_append_left _ (List.mem_of_getElem? (i := 49) rfl))))⟩
  | 29, _ => exact ⟨_, List.mem_append_right _ (List.mem_append_right _ (List.mem_append_right _ (List.mem_append_left _ (List.mem_of_getElem? (i := 76) rfl))))⟩
  | 30, _ => exact ⟨_, List.mem_append_right _ (List.mem_append_right _ (List.mem_append_right _ (List.mem_append_left _ (List.mem_of_getElem? (i := 78) rfl))))⟩
  | 31, _ => exact ⟨_, List.mem_append_right _ (List.mem_append_right _ (List.mem_append_right _ (List.mem_append_left _ (List.mem_of_getElem? (i := 80) rfl))))⟩
  | 32, _ => exact ⟨_, List.mem_append_right _ (List.mem_append_right _ (List.mem_append_right _ (List.mem_append_left _ (List.mem_of_getElem? (i := 81) rfl))))⟩
  | 33, _ => exact ⟨_, List.mem_append_right _ (List.mem_append_right _ (List.mem_append_right _ (List.mem_append_left _ (List.mem_of_getElem? (i := 82) rfl))))⟩
  | 34, _ => exact ⟨_, List.mem_append_right _ (List.mem_append_right _ (List.mem_append_right _ (List.mem_append_left _ (List.mem_of_getElem? (i := 83) rfl))))⟩
  | 35, _ => exact ⟨_, List.mem_append_right _ (List.mem_append_right _ (List.mem_append_right _ (List.mem_append_left _ (List.mem_of_getElem? (i := 85) rfl))))⟩
  | 36, _ => exact ⟨_, List.mem_append_right _ (List.mem_append_right _ (List.mem_append_right _ (List.mem_append_left _ (List.mem_of_getElem? (i := 86) rfl))))⟩
  | 37, _ => exact ⟨_, List.mem_append_right _ (List.mem_append_right _ (List.mem_append_right _ (List.mem_append_left _ (List.mem_of_getElem? (i := 87) rfl))))⟩
  | 38, _ => exact ⟨_, List.mem_append_right _ (List.mem_append_right _ (List.mem_append_right _ (List.mem_append_left _ (List.mem_of_getElem? (i := 88) rfl))))⟩
  | 39, _ => exact ⟨_, List.mem_append_right _ (List.mem_append_right _ (List.mem_append_right _ (List.mem_append_left _ (List.mem_of_getElem? (i := 89) rfl))))⟩
  | 40, _ => exact ⟨_, List.mem_append_right _ (List.mem_append_right _ (List.mem_append_right _ (List.mem_append_left _ (List.mem_of_getElem? (i := 90) rfl))))⟩
  | 41, _ => exact ⟨_, List.mem_append_right _ (List.mem_append_right _ (List.mem_append_right _ (List.mem_append_left _ (List.mem_of_getElem? (i := 91) rfl))))⟩
  | 42, _ => exact ⟨_, List.mem_append_right _ (List.mem_append_right _ (List.mem_append_right _ (List.mem_append_left _ (List.mem_of_getElem? (i := 124) rfl))))⟩
  | 43, _ => exact ⟨_, List.mem_append_right _ (List.mem_append_right _ (List.mem_append_right _ (List.mem_append_left _ (List.mem_of_getElem? (i := 125) rfl))))⟩
  | 44, _ => exact ⟨_, List.mem_append_right _ (List.mem_append_right _ (List.mem_append_right _ (List.mem_append_left _ (List.mem_of_getElem? (i := 126) rfl))))⟩
  | 45, _ => exact ⟨_, List.mem_append_right _ (List.mem_append_right _ (List.mem_append_right _ (List.mem_append_left _ (List.mem_of_getElem? (i := 127) rfl))))⟩
  | 46, _ => exact ⟨_, List.mem_append_right _ (List.mem_append_right _ (List.mem_append_right _ (List.mem_append_left _ (List.mem_of_getElem? (i := 157) rfl))))⟩
  | 47, _ => exact ⟨_, List.mem_append_right _ (List.mem_append_right _ (List.mem_append_right _ (List.mem_append_left _ (List.mem_of_getElem? (i := 172) rfl))))⟩
  | 48, _ => exact ⟨_, List.mem_append_right _ (List.mem_append_right _ (List.mem_append_right _ (List.mem_append_left _ (List.mem_of_getElem? (i := 173) rfl))))⟩
  | 49, _ => exact ⟨_, List.mem_append_right _ (List.mem_append_right _ (List.mem_append_right _ (List.mem_append_left _ (List.mem_of_getElem? (i := 175) rfl))))⟩
  | 50, _ => exact ⟨_, List.mem_append_right _ (List.mem_append_right _ (List.mem_append_right _ (List.mem_append_left _ (List.mem_of_getElem? (i := 197) rfl))))⟩
  | 51, _ => exact ⟨_, List.mem_append_right _ (List.mem_append_right _ (List.mem_append_right _ (List.mem_append_left _ (List.mem_of_getElem? (i := 198) rfl))))⟩
  | n + 52, h => exact absurd h (by omega)
