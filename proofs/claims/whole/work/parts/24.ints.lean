/-! ===== ints as whole numbers ===== -/
theorem i_add {a b : Int32} (h1 : -2147483648 ≤ a.toInt + b.toInt) (h2 : a.toInt + b.toInt < 2147483648) : (a + b).toInt = a.toInt + b.toInt := by
  rw [Int32.toInt_add]
  exact Int.bmod_eq_of_le (by omega) (by omega)
theorem i_sub {a b : Int32} (h1 : -2147483648 ≤ a.toInt - b.toInt) (h2 : a.toInt - b.toInt < 2147483648) : (a - b).toInt = a.toInt - b.toInt := by
  rw [Int32.toInt_sub]
  exact Int.bmod_eq_of_le (by omega) (by omega)
theorem i_mul {a b : Int32} (h1 : -2147483648 ≤ a.toInt * b.toInt) (h2 : a.toInt * b.toInt < 2147483648) : (a * b).toInt = a.toInt * b.toInt := by
  rw [Int32.toInt_mul]
  exact Int.bmod_eq_of_le (by omega) (by omega)
theorem i_neg {a : Int32} (h1 : -2147483648 < a.toInt) : (-a).toInt = -a.toInt := by
  have h2 := Int32.toInt_lt a
  rw [Int32.toInt_neg]
  exact Int.bmod_eq_of_le (by omega) (by omega)
theorem i_eq {a b : Int32} (h : a.toInt = b.toInt) : a = b := Int32.toInt_inj.mp h
theorem i_lt {a b : Int32} : a < b ↔ a.toInt < b.toInt := Int32.lt_iff_toInt_lt
theorem i_le {a b : Int32} : a ≤ b ↔ a.toInt ≤ b.toInt := Int32.le_iff_toInt_le
theorem i_420 : (420 : Int32).toInt = 420 := by decide
theorem i_m1 : (-1 : Int32).toInt = -1 := by decide
theorem i_0 : (0 : Int32).toInt = 0 := by decide
theorem i_1 : (1 : Int32).toInt = 1 := by decide
theorem i_hi : (1000000 : Int32).toInt = 1000000 := by decide
theorem i_lo : (-1000000 : Int32).toInt = -1000000 := by decide
/-- the greater of two ints, as the machine tells it -/
theorem i_max {x y : Int32} : (if x < y then y else x).toInt = max x.toInt y.toInt := by
  by_cases h : x < y
  · rw [if_pos h]
    have := i_lt.mp h
    omega
  · rw [if_neg h]
    have : ¬ x.toInt < y.toInt := fun q => h (i_lt.mpr q)
    omega
theorem i_min {x y : Int32} : (if y < x then y else x).toInt = min x.toInt y.toInt := by
  by_cases h : y < x
  · rw [if_pos h]
    have := i_lt.mp h
    omega
  · rw [if_neg h]
    have : ¬ y.toInt < x.toInt := fun q => h (i_lt.mpr q)
    omega
/-- what other cells hold stays -/
def kx (S : List Nat) (c c' : Nat → Nat → Int32) : Prop := ∀ k, k ∉ S → c' k = c k
theorem kx.rf {S : List Nat} {c : Nat → Nat → Int32} : kx S c c := fun _ _ => rfl
theorem kx.tr {S : List Nat} {a b c : Nat → Nat → Int32} (h1 : kx S a b) (h2 : kx S b c) : kx S a c := fun k hk => (h2 k hk).trans (h1 k hk)
theorem kx.up {S : List Nat} {c : Nat → Nat → Int32} {k : Nat} {f : Nat → Int32} (h : k ∈ S) : kx S c (va_up c k f) := fun _ hj => up_ne (fun e => hj (e ▸ h))
theorem kx.wide {S T : List Nat} {c c' : Nat → Nat → Int32} (h : kx S c c') (hST : ∀ k ∈ S, k ∈ T) : kx T c c' := fun k hk => h k (fun q => hk (hST k q))
theorem gi.kx {G : gr_T} {S : List Nat} {c c' : Nat → Nat → Int32} (h : gi G c) (hk : kx S c c') (hS : ∀ k ∈ S, 12 ≤ k ∧ k ≤ 20) : gi G c' := by
  have e : ∀ j, j < 12 ∨ 22 ≤ j → c' j = c j := fun j hj => hk j (fun q => by have := hS j q; omega)
  obtain ⟨h1, h2, h3, h4, h5, h6, h7, h8, h9⟩ := h
  refine ⟨h1, ?_, ?_, ?_, ?_, ?_, ?_, ?_, fun v hv => ?_⟩
  · rw [e 1 (by omega)]; exact h2
  · rw [e 1 (by omega)]; exact h3
  · rw [e 6 (by omega)]; exact h4
  · rw [e 7 (by omega)]; exact h5
  · rw [e 9 (by omega)]; exact h6
  · rw [e 10 (by omega)]; exact h7
  · rw [e 11 (by omega)]; exact h8
  · rw [e 8 (by omega), e (22 + v) (by omega)]; exact h9 v hv
/-! ===== values: what the search keeps ===== -/
/-- an edge leads on from each vertex, and there is one -/
def gr_cpl (G : gr_T) : Prop := 0 < gr_n G ∧ ∀ v, v < gr_n G → gr_adj G v ≠ []
def vl_p (G : gr_T) : Nat → List (Nat × Int) → Nat → Int → Int := gm_pay (gr_adj G) (gr_tgt G) (gr_ow G) (gr_w G)
/-- the value, in parts of 1/420 -/
def vl_F (G : gr_T) (v : Nat) : Int := vl_p G 8 [] v 0
/-- the path's cells hold the path -/
def pr (π : List (Nat × Int)) (c : Nat → Nat → Int32) : Prop := ∀ j, j < 7 → (gm_at π j = none → c 18 j = -1) ∧ ∀ (d : Nat) (s0 : Int), gm_at π j = some (d, s0) → c 18 j = nI (π.length - d) ∧ (c 19 j).toInt = s0
/-- exact between lo and hi; outside, the side -/
def ab (lo hi P r : Int) : Prop := (P ≤ lo → r ≤ lo) ∧ (hi ≤ P → hi ≤ r) ∧ (lo < P → P < hi → r = P)
theorem pr_push {π : List (Nat × Int)} {c : Nat → Nat → Int32} {j : Nat} {a b : Int32} (h : pr π c) (ha : a = nI π.length) {s : Int} (hb : b.toInt = s) : pr ((j, s) :: π) (va_up (va_up c 18 (upd (c 18) j a)) 19 (upd (c 19) j b)) := by
  intro i hi
  have e18 : va_up (va_up c 18 (upd (c 18) j a)) 19 (upd (c 19) j b) 18 = upd (c 18) j a := rfl
  have e19 : va_up (va_up c 18 (upd (c 18) j a)) 19 (upd (c 19) j b) 19 = upd (c 19) j b := rfl
  rw [e18, e19]
  simp only [gm_at, List.length_cons]
  by_cases hij : j = i
  · subst hij
    rw [if_pos rfl, ud_at, ud_at]
    refine ⟨fun h => by simp at h, fun d s0 h => ?_⟩
    simp only [Option.some.injEq, Prod.mk.injEq] at h
    obtain ⟨rfl, rfl⟩ := h
    exact ⟨by rw [ha]; congr 1, hb⟩
  · rw [if_neg hij, ud_ne (fun e => hij e.symm), ud_ne (fun e => hij e.symm)]
    refine ⟨fun h1 => (h i hi).1 (Option.map_eq_none_iff.mp h1), fun d s0 h1 => ?_⟩
    obtain ⟨⟨d1, s1⟩, h2, h3⟩ := Option.map_eq_some_iff.mp h1
    simp only [Prod.mk.injEq] at h3
    obtain ⟨rfl, rfl⟩ := h3
    have h4 := (h i hi).2 d1 s1 h2
    have h5 := gm_at_len h2
    exact ⟨by rw [h4.1]; congr 1; omega, h4.2⟩
theorem pr_pop {π : List (Nat × Int)} {c : Nat → Nat → Int32} {j : Nat} {s : Int} (h : pr ((j, s) :: π) c) (hj : gm_at π j = none) : pr π (va_up c 18 (upd (c 18) j (-1))) := by
  intro i hi
  have e18 : va_up c 18 (upd (c 18) j (-1)) 18 = upd (c 18) j (-1) := rfl
  have e19 : va_up c 18 (upd (c 18) j (-1)) 19 = c 19 := rfl
  rw [e18, e19]
  by_cases hij : i = j
  · subst hij
    rw [ud_at]
    exact ⟨fun _ => rfl, fun d s0 h1 => by rw [hj] at h1; cases h1⟩
  · rw [ud_ne hij]
    have hh := h i hi
    simp only [gm_at, if_neg (fun e => hij e.symm : ¬ j = i), List.length_cons] at hh
    refine ⟨fun h1 => hh.1 (by rw [h1]; rfl), fun d s0 h1 => ?_⟩
    have h2 := hh.2 (d + 1) s0 (by rw [h1]; rfl)
    exact ⟨by rw [h2.1]; congr 1; omega, h2.2⟩
theorem gm_mx_app (l : List Int) (a : Int) : gm_mx (l ++ [a]) = max (gm_mx l) (max a (-1000000)) := by
  induction l with
  | nil => simp only [List.nil_append, gm_mx]; omega
  | cons b l ih => simp only [List.cons_append, gm_mx, ih]; omega
theorem gm_mn_app (l : List Int) (a : Int) : gm_mn (l ++ [a]) = min (gm_mn l) (min a 1000000) := by
  induction l with
  | nil => simp only [List.nil_append, gm_mn]; omega
  | cons b l ih => simp only [List.cons_append, gm_mn, ih]; omega
theorem gm_take {α : Type} {β : Type} (l : List α) (f : α → β) (d : α) {i : Nat} (h : i < l.length) : (l.map f).take (i + 1) = (l.map f).take i ++ [f (l.getD i d)] := by
  rw [List.take_succ, List.getElem?_map, List.getElem?_eq_getElem h, List.getD_eq_getElem?_getD, List.getElem?_eq_getElem h]
  rfl
theorem gm_mx_lo : ∀ l : List Int, -1000000 ≤ gm_mx l
  | [] => Int.le_refl _
  | b :: l => by have := gm_mx_lo l; simp only [gm_mx]; omega
theorem gm_mn_hi : ∀ l : List Int, gm_mn l ≤ 1000000
  | [] => Int.le_refl _
  | b :: l => by have := gm_mn_hi l; simp only [gm_mn]; omega
theorem gm_mx_part {l : List Int} {i : Nat} : gm_mx (l.take i) ≤ gm_mx l := by
  rcases gm_mx_or (l.take i) with h | h
  · rw [h]
    exact gm_mx_lo l
  · exact gm_mx_mem (List.mem_of_mem_take h)
theorem gm_mn_part {l : List Int} {i : Nat} : gm_mn l ≤ gm_mn (l.take i) := by
  rcases gm_mn_or (l.take i) with h | h
  · rw [h]
    exact gm_mn_hi l
  · exact gm_mn_mem (List.mem_of_mem_take h)
