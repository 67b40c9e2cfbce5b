/-! ===== the value, in parts of 1/420: what the game that stops pays ===== -/
def gm_at : List (Nat × Int) → Nat → Option (Nat × Int)
  | [], _ => none
  | q :: π, v => if q.1 = v then some (1, q.2) else (gm_at π v).map (fun r => (r.1 + 1, r.2))
def gm_mx : List Int → Int
  | [] => -1000000
  | a :: l => max a (gm_mx l)
def gm_mn : List Int → Int
  | [] => 1000000
  | a :: l => min a (gm_mn l)
theorem gm_mx_mem : ∀ {l : List Int} {a : Int}, a ∈ l → a ≤ gm_mx l
  | [], a, h => by cases h
  | b :: l, a, h => by
    simp only [gm_mx]
    rcases List.mem_cons.mp h with rfl | h
    · omega
    · have := gm_mx_mem h
      omega
theorem gm_mn_mem : ∀ {l : List Int} {a : Int}, a ∈ l → gm_mn l ≤ a
  | [], a, h => by cases h
  | b :: l, a, h => by
    simp only [gm_mn]
    rcases List.mem_cons.mp h with rfl | h
    · omega
    · have := gm_mn_mem h
      omega
theorem gm_mx_or : ∀ (l : List Int), gm_mx l = -1000000 ∨ gm_mx l ∈ l
  | [] => Or.inl rfl
  | b :: l => by
    simp only [gm_mx]
    rcases Int.le_total b (gm_mx l) with h | h
    · rw [Int.max_eq_right h]
      rcases gm_mx_or l with h2 | h2
      · exact Or.inl h2
      · exact Or.inr (List.mem_cons_of_mem _ h2)
    · rw [Int.max_eq_left h]
      exact Or.inr List.mem_cons_self
theorem gm_mn_or : ∀ (l : List Int), gm_mn l = 1000000 ∨ gm_mn l ∈ l
  | [] => Or.inl rfl
  | b :: l => by
    simp only [gm_mn]
    rcases Int.le_total b (gm_mn l) with h | h
    · rw [Int.min_eq_left h]
      exact Or.inr List.mem_cons_self
    · rw [Int.min_eq_right h]
      rcases gm_mn_or l with h2 | h2
      · exact Or.inl h2
      · exact Or.inr (List.mem_cons_of_mem _ h2)
theorem gm_mx_in {l : List Int} (h : ∃ a ∈ l, -1000000 ≤ a) : gm_mx l ∈ l := by
  obtain ⟨a, h1, h2⟩ := h
  rcases gm_mx_or l with h3 | h3
  · have h4 := gm_mx_mem h1
    have h5 : a = gm_mx l := by omega
    rw [← h5]
    exact h1
  · exact h3
theorem gm_mn_in {l : List Int} (h : ∃ a ∈ l, a ≤ 1000000) : gm_mn l ∈ l := by
  obtain ⟨a, h1, h2⟩ := h
  rcases gm_mn_or l with h3 | h3
  · have h4 := gm_mn_mem h1
    have h5 : a = gm_mn l := by omega
    rw [← h5]
    exact h1
  · exact h3
def gm_pay (adj : Nat → List Nat) (tgt : Nat → Nat) (ow : Nat → Bool) (w : Nat → Int) : Nat → List (Nat × Int) → Nat → Int → Int
  | 0, _, _, _ => 0
  | k + 1, π, v, s => match gm_at π v with
    | some r => ((420 / r.1 : Nat) : Int) * (s - r.2)
    | none => if ow v = true then gm_mx ((adj v).map (fun e => gm_pay adj tgt ow w k ((v, s) :: π) (tgt e) (s + w e))) else gm_mn ((adj v).map (fun e => gm_pay adj tgt ow w k ((v, s) :: π) (tgt e) (s + w e)))
theorem gm_at_none {π : List (Nat × Int)} {v : Nat} : gm_at π v = none ↔ v ∉ π.map Prod.fst := by
  induction π with
  | nil => simp [gm_at]
  | cons q π ih =>
    simp only [gm_at, List.map_cons, List.mem_cons, not_or]
    by_cases h : q.1 = v
    · rw [if_pos h]
      simp [h]
    · rw [if_neg h, Option.map_eq_none_iff, ih]
      constructor
      · intro h2; exact ⟨fun h3 => h h3.symm, h2⟩
      · intro h2; exact h2.2
theorem gm_at_len : ∀ {π : List (Nat × Int)} {v d : Nat} {s0 : Int}, gm_at π v = some (d, s0) → 1 ≤ d ∧ d ≤ π.length
  | [], v, d, s0, h => by simp [gm_at] at h
  | q :: π, v, d, s0, h => by
    simp only [gm_at] at h
    by_cases hv : q.1 = v
    · rw [if_pos hv] at h
      simp only [Option.some.injEq, Prod.mk.injEq] at h
      simp only [List.length_cons]
      omega
    · rw [if_neg hv, Option.map_eq_some_iff] at h
      obtain ⟨⟨d1, s1⟩, h1, h2⟩ := h
      have := gm_at_len h1
      simp only [Prod.mk.injEq] at h2
      simp only [List.length_cons]
      omega
/-- the path in the game with the weights q * w - p -/
def gm_lift (p q : Int) : List (Nat × Int) → List (Nat × Int)
  | [] => []
  | x :: π => (x.1, q * x.2 - p * (π.length : Int)) :: gm_lift p q π
theorem gm_lift_len {p q : Int} : ∀ (π : List (Nat × Int)), (gm_lift p q π).length = π.length
  | [] => rfl
  | x :: π => by simp only [gm_lift, List.length_cons, gm_lift_len π]
theorem gm_lift_fst {p q : Int} : ∀ (π : List (Nat × Int)), (gm_lift p q π).map Prod.fst = π.map Prod.fst
  | [] => rfl
  | x :: π => by simp only [gm_lift, List.map_cons, gm_lift_fst π]
theorem gm_lift_none {p q : Int} {π : List (Nat × Int)} {v : Nat} (h : gm_at π v = none) : (gm_lift p q π).lookup v = none := by
  rw [gm_lookup_none, gm_lift_fst]
  exact gm_at_none.mp h
theorem gm_lift_some {p q : Int} : ∀ {π : List (Nat × Int)} {v d : Nat} {s0 : Int}, gm_at π v = some (d, s0) → (gm_lift p q π).lookup v = some (q * s0 - p * ((π.length : Int) - d))
  | [], v, d, s0, h => by simp [gm_at] at h
  | x :: π, v, d, s0, h => by
    simp only [gm_at] at h
    simp only [gm_lift, List.lookup_cons]
    by_cases hv : x.1 = v
    · rw [if_pos hv] at h
      simp only [Option.some.injEq, Prod.mk.injEq] at h
      obtain ⟨rfl, rfl⟩ := h
      have h1 : (v == x.1) = true := by simp [hv]
      rw [h1]
      simp only [List.length_cons]
      congr 1
      congr 2
      omega
    · rw [if_neg hv, Option.map_eq_some_iff] at h
      obtain ⟨⟨d1, s1⟩, h1, h2⟩ := h
      simp only [Prod.mk.injEq] at h2
      obtain ⟨rfl, rfl⟩ := h2
      have h3 : (v == x.1) = false := by simpa using fun h => hv h.symm
      rw [h3]
      simp only
      rw [gm_lift_some h1]
      simp only [List.length_cons]
      congr 1
      congr 2
      omega
theorem gm_ok_at {n : Nat} {π : List (Nat × Int)} {v : Nat} {s : Int} (h : gm_ok n π) (hv : v < n) (hl : gm_at π v = none) : gm_ok n ((v, s) :: π) := gm_ok_push h hv (gm_lookup_none.mpr (gm_at_none.mp hl))
theorem gm_mulq {a b q : Int} (hq : 0 < q) (h : a ≤ b) : a * q ≤ b * q := Int.mul_le_mul_of_nonneg_right h (by omega)
theorem gm_mx_ge {l : List Int} {t q : Int} (hq : 0 < q) (ht : -1000000 * q < t) : t ≤ gm_mx l * q ↔ ∃ a ∈ l, t ≤ a * q := by
  constructor
  · intro h
    rcases gm_mx_or l with h1 | h1
    · rw [h1] at h
      omega
    · exact ⟨_, h1, h⟩
  · rintro ⟨a, h1, h2⟩
    exact Int.le_trans h2 (gm_mulq hq (gm_mx_mem h1))
theorem gm_mn_ge {l : List Int} {t q : Int} (hq : 0 < q) (ht : t < 1000000 * q) : t ≤ gm_mn l * q ↔ ∀ a ∈ l, t ≤ a * q := by
  constructor
  · intro h a h1
    exact Int.le_trans h (gm_mulq hq (gm_mn_mem h1))
  · intro h
    rcases gm_mn_or l with h1 | h1
    · rw [h1]
      omega
    · exact h _ h1
theorem gm_mx_le {l : List Int} {t q : Int} (hq : 0 < q) (ht : -1000000 * q < t) : gm_mx l * q ≤ t ↔ ∀ a ∈ l, a * q ≤ t := by
  constructor
  · intro h a h1
    exact Int.le_trans (gm_mulq hq (gm_mx_mem h1)) h
  · intro h
    rcases gm_mx_or l with h1 | h1
    · rw [h1]
      omega
    · exact h _ h1
theorem gm_mn_le {l : List Int} {t q : Int} (hq : 0 < q) (ht : t < 1000000 * q) : gm_mn l * q ≤ t ↔ ∃ a ∈ l, a * q ≤ t := by
  constructor
  · intro h
    rcases gm_mn_or l with h1 | h1
    · rw [h1] at h
      omega
    · exact ⟨_, h1, h⟩
  · rintro ⟨a, h1, h2⟩
    exact Int.le_trans (gm_mulq hq (gm_mn_mem h1)) h2
theorem gm_leaf_ge {d : Nat} {p q x : Int} (h1 : 1 ≤ d) (h7 : d ≤ 7) : p * 420 ≤ ((420 / d : Nat) : Int) * x * q ↔ p * d ≤ q * x := by
  have e : ((420 / d : Nat) : Int) * x * q = ((420 / d : Nat) : Int) * (q * x) := by rw [Int.mul_assoc, Int.mul_comm x q]
  rw [e]
  generalize q * x = X
  rcases (show d = 1 ∨ d = 2 ∨ d = 3 ∨ d = 4 ∨ d = 5 ∨ d = 6 ∨ d = 7 by omega) with rfl | rfl | rfl | rfl | rfl | rfl | rfl <;> simp only [Nat.reduceDiv] <;> omega
theorem gm_leaf_le {d : Nat} {p q x : Int} (h1 : 1 ≤ d) (h7 : d ≤ 7) : ((420 / d : Nat) : Int) * x * q ≤ p * 420 ↔ q * x ≤ p * d := by
  have e : ((420 / d : Nat) : Int) * x * q = ((420 / d : Nat) : Int) * (q * x) := by rw [Int.mul_assoc, Int.mul_comm x q]
  rw [e]
  generalize q * x = X
  rcases (show d = 1 ∨ d = 2 ∨ d = 3 ∨ d = 4 ∨ d = 5 ∨ d = 6 ∨ d = 7 by omega) with rfl | rfl | rfl | rfl | rfl | rfl | rfl <;> simp only [Nat.reduceDiv] <;> omega
section GV
variable {n : Nat} {adj : Nat → List Nat} {tgt : Nat → Nat} {ow : Nat → Bool} {w : Nat → Int} {p q : Int}
/-- the value is p / q or more: the game with the weights q * w - p is won -/
theorem gm_pay_ge (hn : n ≤ 7) (hT : ∀ v, v < n → ∀ e ∈ adj v, tgt e < n) (hq : 0 < q) (hp1 : -1000000 * q < p * 420) (hp2 : p * 420 < 1000000 * q) : ∀ (k : Nat) (π : List (Nat × Int)) (v : Nat) (s : Int), 8 ≤ k + π.length → gm_ok n π → v < n →
    (p * 420 ≤ gm_pay adj tgt ow w k π v s * q ↔ gm_win adj tgt ow (fun e => q * w e - p) k (gm_lift p q π) v (q * s - p * (π.length : Int))) := by
  intro k
  induction k with
  | zero =>
    intro π v s hk hok
    have := gm_ok_len hok
    omega
  | succ k ih =>
    intro π v s hk hok hv
    have hlen := gm_ok_len hok
    cases ha : gm_at π v with
    | some r =>
      obtain ⟨d, s0⟩ := r
      have hd := gm_at_len ha
      rw [gm_win_some (gm_lift_some ha)]
      simp only [gm_pay, ha]
      rw [gm_leaf_ge hd.1 (by omega), Int.mul_sub, Int.mul_sub]
      omega
    | none =>
      rw [gm_win_none (gm_lift_none ha)]
      simp only [gm_pay, ha]
      have step : ∀ e ∈ adj v, (p * 420 ≤ gm_pay adj tgt ow w k ((v, s) :: π) (tgt e) (s + w e) * q ↔ gm_win adj tgt ow (fun e => q * w e - p) k ((v, q * s - p * (π.length : Int)) :: gm_lift p q π) (tgt e) (q * s - p * (π.length : Int) + (q * w e - p))) := by
        intro e he
        rw [ih ((v, s) :: π) (tgt e) (s + w e) (by simp only [List.length_cons]; omega) (gm_ok_at hok hv ha) (hT v hv e he)]
        have e1 : q * (s + w e) - p * (((v, s) :: π).length : Int) = q * s - p * (π.length : Int) + (q * w e - p) := by
          simp only [List.length_cons, Int.natCast_add, Int.natCast_one, Int.mul_add, Int.mul_one]
          omega
        rw [e1]
        rfl
      cases ho : ow v with
      | true =>
        simp only [if_true, forall_const, reduceCtorEq, false_implies, and_true, ite_true]
        rw [gm_mx_ge hq hp1]
        constructor
        · rintro ⟨a, h1, h2⟩
          obtain ⟨e, he, rfl⟩ := List.mem_map.mp h1
          exact ⟨e, he, (step e he).mp h2⟩
        · rintro ⟨e, he, h2⟩
          exact ⟨_, List.mem_map.mpr ⟨e, he, rfl⟩, (step e he).mpr h2⟩
      | false =>
        simp only [reduceCtorEq, false_implies, true_and, forall_const, if_false, ite_false, Bool.false_eq_true]
        rw [gm_mn_ge hq hp2]
        constructor
        · intro h e he
          exact (step e he).mp (h _ (List.mem_map.mpr ⟨e, he, rfl⟩))
        · intro h a h1
          obtain ⟨e, he, rfl⟩ := List.mem_map.mp h1
          exact (step e he).mpr (h e he)
/-- the value is p / q or less: the same, the players' places changed -/
theorem gm_pay_le (hn : n ≤ 7) (hT : ∀ v, v < n → ∀ e ∈ adj v, tgt e < n) (hq : 0 < q) (hp1 : -1000000 * q < p * 420) (hp2 : p * 420 < 1000000 * q) : ∀ (k : Nat) (π : List (Nat × Int)) (v : Nat) (s : Int), 8 ≤ k + π.length → gm_ok n π → v < n →
    (gm_pay adj tgt ow w k π v s * q ≤ p * 420 ↔ gm_win adj tgt (fun v => !ow v) (fun e => (-q) * w e - (-p)) k (gm_lift (-p) (-q) π) v ((-q) * s - (-p) * (π.length : Int))) := by
  intro k
  induction k with
  | zero =>
    intro π v s hk hok
    have := gm_ok_len hok
    omega
  | succ k ih =>
    intro π v s hk hok hv
    have hlen := gm_ok_len hok
    cases ha : gm_at π v with
    | some r =>
      obtain ⟨d, s0⟩ := r
      have hd := gm_at_len ha
      rw [gm_win_some (gm_lift_some ha)]
      simp only [gm_pay, ha]
      rw [gm_leaf_le hd.1 (by omega), Int.mul_sub, Int.mul_sub, Int.neg_mul, Int.neg_mul, Int.neg_mul, Int.neg_mul]
      omega
    | none =>
      rw [gm_win_none (gm_lift_none ha)]
      simp only [gm_pay, ha]
      have step : ∀ e ∈ adj v, (gm_pay adj tgt ow w k ((v, s) :: π) (tgt e) (s + w e) * q ≤ p * 420 ↔ gm_win adj tgt (fun v => !ow v) (fun e => (-q) * w e - (-p)) k ((v, (-q) * s - (-p) * (π.length : Int)) :: gm_lift (-p) (-q) π) (tgt e) ((-q) * s - (-p) * (π.length : Int) + ((-q) * w e - (-p)))) := by
        intro e he
        rw [ih ((v, s) :: π) (tgt e) (s + w e) (by simp only [List.length_cons]; omega) (gm_ok_at hok hv ha) (hT v hv e he)]
        have e1 : (-q) * (s + w e) - (-p) * (((v, s) :: π).length : Int) = (-q) * s - (-p) * (π.length : Int) + ((-q) * w e - (-p)) := by
          simp only [List.length_cons, Int.natCast_add, Int.natCast_one, Int.mul_add, Int.mul_one]
          omega
        rw [e1]
        rfl
      cases ho : ow v with
      | true =>
        simp only [if_true, forall_const, reduceCtorEq, false_implies, true_and, ite_true, Bool.not_true, Bool.false_eq_true]
        rw [gm_mx_le hq hp1]
        constructor
        · intro h e he
          exact (step e he).mp (h _ (List.mem_map.mpr ⟨e, he, rfl⟩))
        · intro h a h1
          obtain ⟨e, he, rfl⟩ := List.mem_map.mp h1
          exact (step e he).mpr (h e he)
      | false =>
        simp only [reduceCtorEq, false_implies, and_true, forall_const, if_false, ite_false, Bool.false_eq_true, Bool.not_false]
        rw [gm_mn_le hq hp2]
        constructor
        · rintro ⟨a, h1, h2⟩
          obtain ⟨e, he, rfl⟩ := List.mem_map.mp h1
          exact ⟨e, he, (step e he).mp h2⟩
        · rintro ⟨e, he, h2⟩
          exact ⟨_, List.mem_map.mpr ⟨e, he, rfl⟩, (step e he).mpr h2⟩
/-- the path's sums move by at most 9 an edge -/
def gm_near (π : List (Nat × Int)) (s : Int) : Prop := ∀ (u d : Nat) (s0 : Int), gm_at π u = some (d, s0) → -(9 * (d : Int)) ≤ s - s0 ∧ s - s0 ≤ 9 * (d : Int)
theorem gm_near_push {π : List (Nat × Int)} {v : Nat} {s x : Int} (h : gm_near π s) (h1 : -9 ≤ x) (h2 : x ≤ 9) : gm_near ((v, s) :: π) (s + x) := by
  intro u d s0 hu
  simp only [gm_at] at hu
  by_cases hv : v = u
  · rw [if_pos hv] at hu
    simp only [Option.some.injEq, Prod.mk.injEq] at hu
    obtain ⟨rfl, rfl⟩ := hu
    omega
  · rw [if_neg hv, Option.map_eq_some_iff] at hu
    obtain ⟨⟨d1, s1⟩, h3, h4⟩ := hu
    simp only [Prod.mk.injEq] at h4
    obtain ⟨rfl, rfl⟩ := h4
    have := h u d1 s1 h3
    omega
theorem gm_leaf_bd {d : Nat} {x : Int} (h1 : 1 ≤ d) (h7 : d ≤ 7) (h2 : -(9 * (d : Int)) ≤ x) (h3 : x ≤ 9 * (d : Int)) : -3780 ≤ ((420 / d : Nat) : Int) * x ∧ ((420 / d : Nat) : Int) * x ≤ 3780 := by
  rcases (show d = 1 ∨ d = 2 ∨ d = 3 ∨ d = 4 ∨ d = 5 ∨ d = 6 ∨ d = 7 by omega) with rfl | rfl | rfl | rfl | rfl | rfl | rfl <;> simp only [Nat.reduceDiv] <;> omega
/-- what is paid is the average of a loop -/
theorem gm_pay_form (hn : n ≤ 7) (hA : ∀ v, v < n → adj v ≠ []) (hT : ∀ v, v < n → ∀ e ∈ adj v, tgt e < n) (hW : ∀ v, v < n → ∀ e ∈ adj v, -9 ≤ w e ∧ w e ≤ 9) : ∀ (k : Nat) (π : List (Nat × Int)) (v : Nat) (s : Int), 8 ≤ k + π.length → gm_ok n π → v < n → gm_near π s →
    ∃ (d : Nat) (x : Int), 1 ≤ d ∧ d ≤ n ∧ -(9 * (d : Int)) ≤ x ∧ x ≤ 9 * (d : Int) ∧ gm_pay adj tgt ow w k π v s = ((420 / d : Nat) : Int) * x := by
  intro k
  induction k with
  | zero =>
    intro π v s hk hok
    have := gm_ok_len hok
    omega
  | succ k ih =>
    intro π v s hk hok hv hne
    have hlen := gm_ok_len hok
    cases ha : gm_at π v with
    | some r =>
      obtain ⟨d, s0⟩ := r
      have hd := gm_at_len ha
      have h1 := hne v d s0 ha
      refine ⟨d, s - s0, hd.1, by omega, h1.1, h1.2, ?_⟩
      simp only [gm_pay, ha]
    | none =>
      simp only [gm_pay, ha]
      have step : ∀ e ∈ adj v, ∃ (d : Nat) (x : Int), 1 ≤ d ∧ d ≤ n ∧ -(9 * (d : Int)) ≤ x ∧ x ≤ 9 * (d : Int) ∧ gm_pay adj tgt ow w k ((v, s) :: π) (tgt e) (s + w e) = ((420 / d : Nat) : Int) * x := fun e he =>
        ih ((v, s) :: π) (tgt e) (s + w e) (by simp only [List.length_cons]; omega) (gm_ok_at hok hv ha) (hT v hv e he) (gm_near_push hne (hW v hv e he).1 (hW v hv e he).2)
      obtain ⟨e0, he0⟩ : ∃ e, e ∈ adj v := List.exists_mem_of_ne_nil _ (hA v hv)
      obtain ⟨d0, x0, g1, g2, g3, g4, g5⟩ := step e0 he0
      have hb := gm_leaf_bd g1 (by omega) g3 g4
      rw [← g5] at hb
      split
      · have hin := gm_mx_in (l := (adj v).map (fun e => gm_pay adj tgt ow w k ((v, s) :: π) (tgt e) (s + w e))) ⟨_, List.mem_map.mpr ⟨e0, he0, rfl⟩, by omega⟩
        obtain ⟨e, he, h⟩ := List.mem_map.mp hin
        rw [← h]
        exact step e he
      · have hin := gm_mn_in (l := (adj v).map (fun e => gm_pay adj tgt ow w k ((v, s) :: π) (tgt e) (s + w e))) ⟨_, List.mem_map.mpr ⟨e0, he0, rfl⟩, by omega⟩
        obtain ⟨e, he, h⟩ := List.mem_map.mp hin
        rw [← h]
        exact step e he
theorem gm_pay_bd (hn : n ≤ 7) (hA : ∀ v, v < n → adj v ≠ []) (hT : ∀ v, v < n → ∀ e ∈ adj v, tgt e < n) (hW : ∀ v, v < n → ∀ e ∈ adj v, -9 ≤ w e ∧ w e ≤ 9) {k : Nat} {π : List (Nat × Int)} {v : Nat} {s : Int} (hk : 8 ≤ k + π.length) (hok : gm_ok n π) (hv : v < n) (hne : gm_near π s) :
    -3780 ≤ gm_pay adj tgt ow w k π v s ∧ gm_pay adj tgt ow w k π v s ≤ 3780 := by
  obtain ⟨d, x, h1, h2, h3, h4, h5⟩ := gm_pay_form (ow := ow) hn hA hT hW k π v s hk hok hv hne
  rw [h5]
  exact gm_leaf_bd h1 (by omega) h3 h4
end GV
