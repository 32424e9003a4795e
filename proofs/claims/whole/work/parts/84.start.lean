/-! THE START OF A RUN -/
def s0 (x : Int32) : St := (wid x, [], [[], [], [], [], []], (0, 86, 0), [], [], -1, [], 0)
def A0 : Nat → Nat → Int32 := uA (uA (fun _ _ => 0) 1 200 86) 2 5 1
def hS (g : AH) (x : Int32) : AH := wr (g ++ (Ff :: Yf x)) [] (n0 (wid x)) A0
theorem st_si (x : Int32) : SI (s0 x) := by
  have e : ∀ k, ([[], [], [], [], []] : List (List Ty)).getD k [] = [] := by
    intro k
    match k with
    | 0 => rfl
    | 1 => rfl
    | 2 => rfl
    | 3 => rfl
    | 4 => rfl
    | k + 5 => rfl
  refine ⟨wid_b x, ⟨Nat.zero_le _, fun c hc => absurd hc List.not_mem_nil⟩, ⟨rfl, fun k _ => ?_⟩, Or.inr rfl, Nat.zero_le _, ⟨Nat.zero_le _, fun b hb => absurd hb List.not_mem_nil⟩, Or.inl rfl, Nat.zero_le _, fun l hl => absurd hl List.not_mem_nil⟩
  rw [e]
  exact ⟨Nat.zero_le _, fun c hc => absurd hc List.not_mem_nil⟩
theorem st_mi (x : Int32) : MI (s0 x) (n0 (wid x)) A0 := by
  have e : ∀ k, ([[], [], [], [], []] : List (List Ty)).getD k [] = [] := by
    intro k
    match k with
    | 0 => rfl
    | 1 => rfl
    | 2 => rfl
    | 3 => rfl
    | 4 => rfl
    | k + 5 => rfl
  refine ⟨rfl, ⟨rfl, Nat.zero_le _, fun j c hj => absurd hj (by simp), fun c hc => absurd hc List.not_mem_nil⟩, ⟨rfl, Nat.zero_le _, fun j c hj => absurd hj (by simp)⟩, fun r hr => ?_, Or.inr ⟨rfl, ?_⟩, rfl, fun i b hb => absurd hb (by simp), rfl, rfl, rfl, rfl, rfl, fun j c hj => absurd hj (by simp [tx]), rfl⟩
  · refine ⟨?_, ?_, ?_, ?_, ?_⟩
    · rw [e]
      show uA (uA (fun _ _ => 0) 1 200 86) 2 5 1 2 r = nI 0
      rw [uA_m (by omega), uA_n (by decide)]
      rfl
    · rw [e]
      exact trivial
    · rw [e]
      exact Nat.zero_le _
    · rw [e]
      exact fun c hc => absurd hc List.not_mem_nil
    · rw [e]
      exact Nat.zero_le _
  · show uA (uA (fun _ _ => 0) 1 200 86) 2 5 1 1 200 = 86
    rw [uA_n (by decide), uA_s]
theorem Chs0 {h : AH} {a ar n : Nat} (h1 : h[a]? = some (.inr 1, [.ref ar, .int 0])) (h2 : h[ar]? = some (.inl .char, List.replicate n (.int 0))) (ha : 105 ≤ a) (hb : 105 ≤ ar) (hn : n < 2 ^ 28) : Chs h a ar [] (List.replicate n (.int 0)) := by
  have hN := sN5
  exact ⟨h1, h2, Nat.zero_le _, fun j c hj => absurd hj (by simp), by omega, by omega, by rw [List.length_replicate]; exact hn, fun c hc => absurd hc List.not_mem_nil⟩
theorem Row0 {h : AH} {a q : Nat} (h1 : h[a]? = some (.inr 2, [.ref q, .int 0])) (h2 : h[q]? = some (.inl (.object "TestEmitter$Type"), List.replicate 4 .null)) (ha : 105 ≤ a) (hb : 105 ≤ q) : Row h a q [] := by
  have hN := sN5
  exact ⟨_, h1, h2, rfl, Nat.zero_le _, by omega, by omega, fun j c hj => absurd hj (by simp)⟩
theorem sz_app (a b : AH) : am_sz (a ++ b) = am_sz a + am_sz b := by
  unfold am_sz
  rw [List.map_append, List.sum_append]
theorem sz_mcs (n : Nat → Int32) (A : Nat → Nat → Int32) : am_sz (mcs n A) = 7815 := by
  unfold am_sz mcs
  simp only [List.map_cons, List.map_map, List.length_map, List.length_range, List.sum_cons]
  have e : (List.range 11).map ((fun c : AC => c.2.length) ∘ fun i => ((.inl (mT i), (List.range (mZ i)).map (fun j => Value.int (A i j))) : AC)) = (List.range 11).map mZ := by
    apply List.map_congr_left
    intro i _
    show ((List.range (mZ i)).map (fun j => Value.int (A i j))).length = mZ i
    rw [List.length_map, List.length_range]
  rw [e]
  rfl
theorem sz_Yf (x : Int32) : am_sz (Ff :: Yf x) ≤ 3000 := by
  unfold am_sz Ff Yf zc zr zb zd zs zx
  simp only [zc, zr, zd, List.map_cons, List.map_append, List.map_nil, List.sum_cons, List.sum_append, List.sum_nil, List.length_replicate, List.length_cons, List.length_nil]
  omega
section ST
variable {g : AH} {x : Int32}
theorem P_len (hg : g.length = 105) : (g ++ (Ff :: Yf x)).length = 135 := by
  rw [List.length_append, hg]
  rfl
theorem hS_len (hg : g.length = 105) : (hS g x).length = 147 := by
  unfold hS
  rw [wr_len (P_len hg)]
  rfl
theorem hS_sz (hg : g.length = 105) : am_sz (hS g x) ≤ am_sz g + 10815 := by
  have := sz_Yf x
  unfold hS wr
  rw [sz_app, sz_app, sz_app, sz_mcs]
  show am_sz g + am_sz (Ff :: Yf x) + (7815 + 0) ≤ _
  omega
theorem hS_at (hg : g.length = 105) {a : Nat} {c : AC} (h1 : 105 ≤ a) (h2 : a < 135) (h3 : (Ff :: Yf x)[a - 105]? = some c) : (hS g x)[a]? = some c := by
  unfold hS
  rw [wr_lo (P_len hg) h2, List.getElem?_append_right (by omega), hg]
  exact h3
theorem hS_lo (hg : g.length = 105) {a : Nat} (h1 : a < 105) : (hS g x)[a]? = g[a]? := by
  unfold hS
  rw [wr_lo (P_len hg) (by omega), List.getElem?_append_left (by omega)]
theorem st_ci (hg : g.length = 105) (hs : Sta g) : CI (am_sz g + 10815) (s0 x) 0 (hS g x) := by
  have hN := sN5
  have S : Sta (hS g x) := by
    intro r hr
    have e1 := sN_eq
    rw [hS_lo hg (by omega)]
    exact hs r hr
  have at' : ∀ (a : Nat) (c : AC), (Ff :: Yf x)[a - 105]? = some c → 105 ≤ a → a < 135 → (hS g x)[a]? = some c := fun a c q1 q2 q3 => hS_at hg q2 q3 q1
  have ln := hS_len (x := x) hg
  have sz := hS_sz (x := x) hg
  have rw0 : ∀ {a : Nat}, (Ff :: Yf x)[a - 105]? = some (.inr 2, [.ref (a + 1), .int 0]) → (Ff :: Yf x)[a + 1 - 105]? = some (.inl (.object "TestEmitter$Type"), List.replicate 4 .null) → 105 ≤ a → a + 1 < 135 → Row (hS g x) a (a + 1) [] := fun {a} q1 q2 q3 q4 => Row0 (at' a _ q1 q3 (by omega)) (at' (a + 1) _ q2 (by omega) q4) q3 (by omega)
  have E : En (hS g x) [[], [], [], [], []] := by
    refine ⟨S, at' 111 _ rfl (by decide) (by decide), [115, 117, 119, 121], at' 114 _ rfl (by decide) (by decide), rfl, fun k r hr => ?_⟩
    match k, hr with
    | 0, hr =>
      cases hr
      exact ⟨116, rw0 rfl rfl (by decide) (by decide), fun c hc => absurd hc List.not_mem_nil⟩
    | 1, hr =>
      cases hr
      exact ⟨118, rw0 rfl rfl (by decide) (by decide), fun c hc => absurd hc List.not_mem_nil⟩
    | 2, hr =>
      cases hr
      exact ⟨120, rw0 rfl rfl (by decide) (by decide), fun c hc => absurd hc List.not_mem_nil⟩
    | 3, hr =>
      cases hr
      exact ⟨122, rw0 rfl rfl (by decide) (by decide), fun c hc => absurd hc List.not_mem_nil⟩
    | k + 4, hr => exact absurd hr (by simp)
  refine ⟨108, 110, 124, 126, 128, 133, 134, 0, List.replicate 40 (.int 0), List.replicate 300 (.int 0), List.replicate 300 (.int 0), List.replicate 300 (.int 0), List.replicate 1024 (.int 0), List.replicate 60 (.int 0), List.replicate 64 (.int 0), at' 105 _ rfl (by decide) (by decide), ⟨Chs0 (at' 106 _ rfl (by decide) (by decide)) (at' 107 _ rfl (by decide) (by decide)) (by decide) (by decide) (by decide), List.length_replicate⟩, ⟨⟨109, rw0 (a := 108) rfl rfl (by decide) (by decide)⟩, at' 110 _ rfl (by decide) (by decide), by omega, E⟩, ⟨at' 112 _ rfl (by decide) (by decide), at' 113 _ rfl (by decide) (by decide), List.length_replicate, fun j c hj => absurd hj (by simp), Nat.zero_le _, Nat.zero_le _, by omega, by omega⟩, ⟨⟨[], Chs0 (at' 123 _ rfl (by decide) (by decide)) (at' 124 _ rfl (by decide) (by decide)) (by decide) (by decide) (by decide)⟩, ⟨[], Chs0 (at' 125 _ rfl (by decide) (by decide)) (at' 126 _ rfl (by decide) (by decide)) (by decide) (by decide) (by decide)⟩, [], Chs0 (at' 127 _ rfl (by decide) (by decide)) (at' 128 _ rfl (by decide) (by decide)) (by decide) (by decide) (by decide)⟩, ⟨List.replicate 20 .null, at' 129 _ rfl (by decide) (by decide), at' 130 _ rfl (by decide) (by decide), List.length_replicate, fun j b hj => absurd hj (by simp)⟩, ⟨at' 131 _ rfl (by decide) (by decide), Chs0 (at' 132 _ rfl (by decide) (by decide)) (at' 133 _ rfl (by decide) (by decide)) (by decide) (by decide) (by decide), at' 134 _ rfl (by decide) (by decide), Nat.zero_le _, by rw [List.length_replicate]; decide, fun j hj => absurd hj (Nat.not_lt_zero _)⟩, ⟨Or.inl rfl, Or.inl rfl, Or.inl rfl, Or.inl rfl, Or.inl rfl, by decide, by decide, by decide, by decide, by decide, by decide, by decide, by decide, by decide, by decide⟩, ?_⟩
  rw [List.length_replicate, List.length_replicate, List.length_replicate]
  exact ⟨by omega, by omega, by decide, by decide, by decide, by decide, by decide, by omega⟩
end ST
