section
/-! ===== the theory of the game, over whole numbers: the game that stops when a vertex comes again, and credits ===== -/
theorem gm_len : ∀ (n : Nat) (l : List Nat), l.Nodup → (∀ x ∈ l, x < n) → l.length ≤ n := by
  intro n
  induction n with
  | zero =>
    intro l _ h
    cases l with
    | nil => exact Nat.le_refl 0
    | cons a l => exact absurd (h a List.mem_cons_self) (by omega)
  | succ n ih =>
    intro l hn h
    have h1 : (l.erase n).length ≤ n := by
      refine ih _ (hn.erase n) (fun x hx => ?_)
      have h2 := (hn.mem_erase_iff).mp hx
      have h3 := h x h2.2
      have h4 : x ≠ n := h2.1
      omega
    have h5 := List.length_erase (a := n) (l := l)
    split at h5 <;> omega
/-- the game that stops: the player who spares (ow) wins if the loop's sum is not below 0. The path, newest first: a vertex and the sum when it was entered -/
def gm_win (adj : Nat → List Nat) (tgt : Nat → Nat) (ow : Nat → Bool) (w : Nat → Int) : Nat → List (Nat × Int) → Nat → Int → Prop
  | 0, _, _, _ => False
  | k + 1, π, v, s => match π.lookup v with
    | some s0 => s0 ≤ s
    | none => (ow v = true → ∃ e ∈ adj v, gm_win adj tgt ow w k ((v, s) :: π) (tgt e) (s + w e)) ∧ (ow v = false → ∀ e ∈ adj v, gm_win adj tgt ow w k ((v, s) :: π) (tgt e) (s + w e))
theorem gm_win_some {adj : Nat → List Nat} {tgt : Nat → Nat} {ow : Nat → Bool} {w : Nat → Int} {k : Nat} {π : List (Nat × Int)} {v : Nat} {s s0 : Int} (h : π.lookup v = some s0) : gm_win adj tgt ow w (k + 1) π v s ↔ s0 ≤ s := by
  simp only [gm_win, h]
theorem gm_win_none {adj : Nat → List Nat} {tgt : Nat → Nat} {ow : Nat → Bool} {w : Nat → Int} {k : Nat} {π : List (Nat × Int)} {v : Nat} {s : Int} (h : π.lookup v = none) : gm_win adj tgt ow w (k + 1) π v s ↔ ((ow v = true → ∃ e ∈ adj v, gm_win adj tgt ow w k ((v, s) :: π) (tgt e) (s + w e)) ∧ (ow v = false → ∀ e ∈ adj v, gm_win adj tgt ow w k ((v, s) :: π) (tgt e) (s + w e))) := by
  simp only [gm_win, h]
/-- a path that can be: its vertices are apart and there -/
def gm_ok (n : Nat) (π : List (Nat × Int)) : Prop := (π.map Prod.fst).Nodup ∧ ∀ q ∈ π, q.1 < n
theorem gm_ok_len {n : Nat} {π : List (Nat × Int)} (h : gm_ok n π) : π.length ≤ n := by
  have := gm_len n (π.map Prod.fst) h.1 (fun x hx => by obtain ⟨q, hq, rfl⟩ := List.mem_map.mp hx; exact h.2 q hq)
  simpa using this
theorem gm_lookup_none {π : List (Nat × Int)} {v : Nat} : π.lookup v = none ↔ v ∉ π.map Prod.fst := by
  induction π with
  | nil => simp
  | cons q π ih =>
    obtain ⟨u, su⟩ := q
    rw [List.lookup_cons]
    by_cases h : v = u
    · simp [h]
    · have h1 : (v == u) = false := by simpa using h
      rw [h1]
      simp only [List.map_cons, List.mem_cons, not_or]
      constructor
      · intro h2; exact ⟨h, ih.mp h2⟩
      · intro h2; exact ih.mpr h2.2
theorem gm_lookup_mem {π : List (Nat × Int)} {v : Nat} {s : Int} (h : π.lookup v = some s) : (v, s) ∈ π := by
  induction π with
  | nil => simp at h
  | cons q π ih =>
    obtain ⟨u, su⟩ := q
    rw [List.lookup_cons] at h
    by_cases hv : v = u
    · subst hv
      simp at h
      subst h
      exact List.mem_cons_self
    · have h1 : (v == u) = false := by simpa using hv
      rw [h1] at h
      exact List.mem_cons_of_mem _ (ih h)
theorem gm_ok_push {n : Nat} {π : List (Nat × Int)} {v : Nat} {s : Int} (h : gm_ok n π) (hv : v < n) (hl : π.lookup v = none) : gm_ok n ((v, s) :: π) := by
  refine ⟨?_, ?_⟩
  · simp only [List.map_cons, List.nodup_cons]
    exact ⟨gm_lookup_none.mp hl, h.1⟩
  · intro q hq
    rcases List.mem_cons.mp hq with rfl | hq
    · exact hv
    · exact h.2 q hq
section GM
variable {n : Nat} {adj : Nat → List Nat} {tgt : Nat → Nat} {ow : Nat → Bool} {w : Nat → Int} {M : Int}
/-- who is in a set from which the sparing player loses no more than f gives wins the game that stops -/
theorem gm_fin_win (hn : n ≤ 7) {S : Nat → Prop} {f : Nat → Int} (hS : ∀ v, S v → v < n) (h1 : ∀ v, S v → ow v = true → ∃ e ∈ adj v, S (tgt e) ∧ f (tgt e) ≤ f v + w e) (h2 : ∀ v, S v → ow v = false → ∀ e ∈ adj v, S (tgt e) ∧ f (tgt e) ≤ f v + w e) :
    ∀ (k : Nat) (π : List (Nat × Int)) (v : Nat) (s : Int), 8 ≤ k + π.length → gm_ok n π → S v → (∀ q ∈ π, f v ≤ f q.1 + (s - q.2)) → gm_win adj tgt ow w k π v s := by
  intro k
  induction k with
  | zero =>
    intro π v s hk hok
    have := gm_ok_len hok
    omega
  | succ k ih =>
    intro π v s hk hok hv hf
    cases hl : π.lookup v with
    | some s0 =>
      rw [gm_win_some hl]
      have := hf _ (gm_lookup_mem hl)
      simp only at this
      omega
    | none =>
      rw [gm_win_none hl]
      have step : ∀ e, S (tgt e) ∧ f (tgt e) ≤ f v + w e → gm_win adj tgt ow w k ((v, s) :: π) (tgt e) (s + w e) := by
        intro e he
        refine ih _ _ _ (by simp only [List.length_cons]; omega) (gm_ok_push hok (hS v hv) hl) he.1 ?_
        intro q hq
        rcases List.mem_cons.mp hq with rfl | hq
        · simp only
          omega
        · have := hf q hq
          omega
      refine ⟨fun ho => ?_, fun ho e he => step e (h2 v hv ho e he)⟩
      obtain ⟨e, he, h⟩ := h1 v hv ho
      exact ⟨e, he, step e h⟩
/-- a path on which every position is won -/
def gm_good (n : Nat) (adj : Nat → List Nat) (tgt : Nat → Nat) (ow : Nat → Bool) (w : Nat → Int) (M : Int) : List (Nat × Int) → Prop
  | [] => True
  | q :: π => gm_win adj tgt ow w (8 - π.length) π q.1 q.2 ∧ q.1 < n ∧ π.lookup q.1 = none ∧ -((π.length : Int) * M) ≤ q.2 ∧ gm_good n adj tgt ow w M π
theorem gm_good_ok : ∀ {π : List (Nat × Int)}, gm_good n adj tgt ow w M π → gm_ok n π
  | [], _ => ⟨List.nodup_nil, fun q h => by cases h⟩
  | _ :: _, h => gm_ok_push (gm_good_ok h.2.2.2.2) h.2.1 h.2.2.1
theorem gm_good_at : ∀ {π : List (Nat × Int)} {v : Nat} {s0 : Int}, gm_good n adj tgt ow w M π → π.lookup v = some s0 → ∃ π', gm_good n adj tgt ow w M ((v, s0) :: π')
  | [], v, s0, _, h => by simp at h
  | (u, su) :: π, v, s0, hg, h => by
    rw [List.lookup_cons] at h
    by_cases hv : v = u
    · subst hv
      simp at h
      subst h
      exact ⟨π, hg⟩
    · have h1 : (v == u) = false := by simpa using hv
      rw [h1] at h
      exact gm_good_at hg.2.2.2.2 h
theorem gm_good_next (hn : n ≤ 7) {π : List (Nat × Int)} {u : Nat} {s1 : Int} (hg : gm_good n adj tgt ow w M π) (hu : u < n) (hs : -((π.length : Int) * M) ≤ s1) (hw : gm_win adj tgt ow w (8 - π.length) π u s1) : ∃ s' π', gm_good n adj tgt ow w M ((u, s') :: π') ∧ s' ≤ s1 := by
  cases hl : π.lookup u with
  | some s0 =>
    obtain ⟨π', h⟩ := gm_good_at hg hl
    refine ⟨s0, π', h, ?_⟩
    have hlen := gm_ok_len (gm_good_ok hg)
    obtain ⟨k, hk⟩ : ∃ k, 8 - π.length = k + 1 := ⟨7 - π.length, by omega⟩
    rw [hk, gm_win_some hl] at hw
    exact hw
  | none => exact ⟨s1, π, ⟨hw, hu, hl, hs, hg⟩, Int.le_refl _⟩
theorem gm_good_step (hn : n ≤ 7) (hT : ∀ v, v < n → ∀ e ∈ adj v, tgt e < n) (hM : ∀ v, v < n → ∀ e ∈ adj v, -M ≤ w e) {π : List (Nat × Int)} {v : Nat} {s : Int} (hg : gm_good n adj tgt ow w M ((v, s) :: π)) :
    (ow v = true → ∃ e ∈ adj v, ∃ s' π', gm_good n adj tgt ow w M ((tgt e, s') :: π') ∧ s' ≤ s + w e) ∧ (ow v = false → ∀ e ∈ adj v, ∃ s' π', gm_good n adj tgt ow w M ((tgt e, s') :: π') ∧ s' ≤ s + w e) := by
  have hlen := gm_ok_len (gm_good_ok hg)
  simp only [List.length_cons] at hlen
  obtain ⟨hw, hv, hl, hs, hgr⟩ := id hg
  simp only at hw hv hl hs
  obtain ⟨k, hk⟩ : ∃ k, 8 - π.length = k + 1 := ⟨7 - π.length, by omega⟩
  have hk2 : k = 8 - ((v, s) :: π).length := by simp only [List.length_cons]; omega
  rw [hk, gm_win_none hl, hk2] at hw
  have step : ∀ e ∈ adj v, gm_win adj tgt ow w (8 - ((v, s) :: π).length) ((v, s) :: π) (tgt e) (s + w e) → ∃ s' π', gm_good n adj tgt ow w M ((tgt e, s') :: π') ∧ s' ≤ s + w e := by
    intro e he h
    refine gm_good_next hn hg (hT v hv e he) ?_ h
    have h1 := hM v hv e he
    have h2 : (((v, s) :: π).length : Int) * M = (π.length : Int) * M + M := by
      simp only [List.length_cons, Int.natCast_add, Int.natCast_one, Int.add_mul, Int.one_mul]
    rw [h2]
    omega
  refine ⟨fun ho => ?_, fun ho e he => step e he (hw.2 ho e he)⟩
  obtain ⟨e, he, h⟩ := hw.1 ho
  exact ⟨e, he, step e he h⟩
theorem gm_least (P : Nat → Prop) (h : ∃ k, P k) : ∃ k, P k ∧ ∀ j, P j → k ≤ j := by
  obtain ⟨k, hk⟩ := h
  have key : ∀ m, (∃ j, j ≤ m ∧ P j) → ∃ k, P k ∧ ∀ j, P j → k ≤ j := by
    intro m
    induction m with
    | zero =>
      rintro ⟨j, hj, hp⟩
      exact ⟨0, by rwa [show j = 0 by omega] at hp, fun _ _ => Nat.zero_le _⟩
    | succ m ih =>
      rintro ⟨j, hj, hp⟩
      by_cases hq : ∃ i, i ≤ m ∧ P i
      · exact ih hq
      · refine ⟨j, hp, fun i hi => ?_⟩
        rcases Nat.lt_or_ge i j with h | h
        · exact absurd ⟨i, by omega, hi⟩ hq
        · exact h
  exact key k ⟨k, Nat.le_refl k, hk⟩
/-- the won vertices have credits of at most (n - 1) * M that are enough -/
theorem gm_main (hn : n ≤ 7) (h0 : 0 ≤ M) (hT : ∀ v, v < n → ∀ e ∈ adj v, tgt e < n) (hM : ∀ v, v < n → ∀ e ∈ adj v, -M ≤ w e) :
    ∃ f : Nat → Int, ∀ v, v < n → gm_win adj tgt ow w 8 [] v 0 → (0 ≤ f v ∧ f v ≤ ((n : Int) - 1) * M) ∧ (ow v = true → ∃ e ∈ adj v, gm_win adj tgt ow w 8 [] (tgt e) 0 ∧ f (tgt e) ≤ f v + w e) ∧ (ow v = false → ∀ e ∈ adj v, gm_win adj tgt ow w 8 [] (tgt e) 0 ∧ f (tgt e) ≤ f v + w e) := by
  -- R v c: a good path ends in v with the sum c - C
  have hpos : ∀ v s π, gm_good n adj tgt ow w M ((v, s) :: π) → 0 ≤ s + ((n : Int) - 1) * M := by
    intro v s π hg
    have hlen := gm_ok_len (gm_good_ok hg)
    simp only [List.length_cons] at hlen
    have h1 : -((π.length : Int) * M) ≤ s := hg.2.2.2.1
    have h2 : (π.length : Int) * M ≤ ((n : Int) - 1) * M := Int.mul_le_mul_of_nonneg_right (by omega) h0
    omega
  let R : Nat → Nat → Prop := fun v c => ∃ s π, gm_good n adj tgt ow w M ((v, s) :: π) ∧ (c : Int) = s + ((n : Int) - 1) * M
  have hR : ∀ v s π, gm_good n adj tgt ow w M ((v, s) :: π) → R v (s + ((n : Int) - 1) * M).toNat := by
    intro v s π hg
    exact ⟨s, π, hg, Int.toNat_of_nonneg (hpos v s π hg)⟩
  have hex : ∀ v, ∃ c : Nat, (∃ c, R v c) → R v c ∧ ∀ j, R v j → c ≤ j := by
    intro v
    by_cases h : ∃ c, R v c
    · obtain ⟨c, h1, h2⟩ := gm_least (R v) h
      exact ⟨c, fun _ => ⟨h1, h2⟩⟩
    · exact ⟨0, fun h' => absurd h' h⟩
  obtain ⟨g, hg⟩ : ∃ g : Nat → Nat, ∀ v, (∃ c, R v c) → R v (g v) ∧ ∀ j, R v j → g v ≤ j := ⟨fun v => (hex v).choose, fun v => (hex v).choose_spec⟩
  have hnext : ∀ v e, (∃ c, R v c) → (∀ s π, gm_good n adj tgt ow w M ((v, s) :: π) → (s : Int) + ((n : Int) - 1) * M = g v → ∃ s' π', gm_good n adj tgt ow w M ((tgt e, s') :: π') ∧ s' ≤ s + w e) → (∃ c, R (tgt e) c) ∧ (g (tgt e) : Int) ≤ g v + w e := by
    intro v e hv h
    obtain ⟨⟨s, π, h1, h2⟩, h3⟩ := hg v hv
    obtain ⟨s', π', h4, h5⟩ := h s π h1 h2.symm
    have h6 := hR _ _ _ h4
    refine ⟨⟨_, h6⟩, ?_⟩
    have h7 := (hg (tgt e) ⟨_, h6⟩).2 _ h6
    have h8 := Int.toNat_of_nonneg (hpos _ _ _ h4)
    omega
  have hown : ∀ v, (∃ c, R v c) → ow v = true → ∃ e ∈ adj v, (∃ c, R (tgt e) c) ∧ (g (tgt e) : Int) ≤ g v + w e := by
    intro v hv ho
    obtain ⟨⟨s, π, h1, h2⟩, h3⟩ := hg v hv
    obtain ⟨e, he, s', π', h4, h5⟩ := (gm_good_step hn hT hM h1).1 ho
    have h6 := hR _ _ _ h4
    refine ⟨e, he, ⟨_, h6⟩, ?_⟩
    have h7 := (hg (tgt e) ⟨_, h6⟩).2 _ h6
    have h8 := Int.toNat_of_nonneg (hpos _ _ _ h4)
    omega
  have hopp : ∀ v, (∃ c, R v c) → ow v = false → ∀ e ∈ adj v, (∃ c, R (tgt e) c) ∧ (g (tgt e) : Int) ≤ g v + w e := by
    intro v hv ho e he
    exact hnext v e hv (fun s π h1 _ => (gm_good_step hn hT hM h1).2 ho e he)
  have hlt : ∀ v, (∃ c, R v c) → v < n := by
    rintro v ⟨c, s, π, h, -⟩
    exact h.2.1
  have hwin : ∀ v, (∃ c, R v c) → gm_win adj tgt ow w 8 [] v 0 := by
    intro v hv
    exact gm_fin_win hn (S := fun v => ∃ c, R v c) (f := fun v => (g v : Int)) hlt hown hopp 8 [] v 0 (by simp) ⟨List.nodup_nil, fun q h => by cases h⟩ hv (fun q h => by cases h)
  have hgd : ∀ v, v < n → gm_win adj tgt ow w 8 [] v 0 → R v (0 + ((n : Int) - 1) * M).toNat := by
    intro v hv hw
    exact hR v 0 [] ⟨hw, hv, rfl, by simp, trivial⟩
  refine ⟨fun v => (g v : Int), fun v hv hw => ?_⟩
  have hRv : ∃ c, R v c := ⟨_, hgd v hv hw⟩
  refine ⟨⟨by simp only; omega, ?_⟩, fun ho => ?_, fun ho e he => ?_⟩
  · have h1 := (hg v hRv).2 _ (hgd v hv hw)
    have h2 : 0 ≤ ((n : Int) - 1) * M := Int.mul_nonneg (by omega) h0
    simp only
    omega
  · obtain ⟨e, he, h1, h2⟩ := hown v hRv ho
    exact ⟨e, he, hwin _ h1, h2⟩
  · obtain ⟨h1, h2⟩ := hopp v hRv ho e he
    exact ⟨hwin _ h1, h2⟩
end GM
end
section
/-! ===== the value, in parts of 1/420: what the game that stops pays ===== -/
def gm_at : List (Nat × Int) → Nat → Option (Nat × Int)
  | [], _ => none
  | q :: π, v => if q.1 = v then some (1, q.2) else (gm_at π v).map (fun r => (r.1 + 1, r.2))
def gm_mx : List Int → Int
  | [] => -1000000
  | a :: l => max a (gm_mx l)
def gm_mn : List Int → Int
  | [] => 1000000
  | a :: l => min a (gm_mn l)
theorem gm_mx_mem : ∀ {l : List Int} {a : Int}, a ∈ l → a ≤ gm_mx l
  | [], a, h => by cases h
  | b :: l, a, h => by
    simp only [gm_mx]
    rcases List.mem_cons.mp h with rfl | h
    · omega
    · have := gm_mx_mem h
      omega
theorem gm_mn_mem : ∀ {l : List Int} {a : Int}, a ∈ l → gm_mn l ≤ a
  | [], a, h => by cases h
  | b :: l, a, h => by
    simp only [gm_mn]
    rcases List.mem_cons.mp h with rfl | h
    · omega
    · have := gm_mn_mem h
      omega
theorem gm_mx_or : ∀ (l : List Int), gm_mx l = -1000000 ∨ gm_mx l ∈ l
  | [] => Or.inl rfl
  | b :: l => by
    simp only [gm_mx]
    rcases Int.le_total b (gm_mx l) with h | h
    · rw [Int.max_eq_right h]
      rcases gm_mx_or l with h2 | h2
      · exact Or.inl h2
      · exact Or.inr (List.mem_cons_of_mem _ h2)
    · rw [Int.max_eq_left h]
      exact Or.inr List.mem_cons_self
theorem gm_mn_or : ∀ (l : List Int), gm_mn l = 1000000 ∨ gm_mn l ∈ l
  | [] => Or.inl rfl
  | b :: l => by
    simp only [gm_mn]
    rcases Int.le_total b (gm_mn l) with h | h
    · rw [Int.min_eq_left h]
      exact Or.inr List.mem_cons_self
    · rw [Int.min_eq_right h]
      rcases gm_mn_or l with h2 | h2
      · exact Or.inl h2
      · exact Or.inr (List.mem_cons_of_mem _ h2)
theorem gm_mx_in {l : List Int} (h : ∃ a ∈ l, -1000000 ≤ a) : gm_mx l ∈ l := by
  obtain ⟨a, h1, h2⟩ := h
  rcases gm_mx_or l with h3 | h3
  · have h4 := gm_mx_mem h1
    have h5 : a = gm_mx l := by omega
    rw [← h5]
    exact h1
  · exact h3
theorem gm_mn_in {l : List Int} (h : ∃ a ∈ l, a ≤ 1000000) : gm_mn l ∈ l := by
  obtain ⟨a, h1, h2⟩ := h
  rcases gm_mn_or l with h3 | h3
  · have h4 := gm_mn_mem h1
    have h5 : a = gm_mn l := by omega
    rw [← h5]
    exact h1
  · exact h3
def gm_pay (adj : Nat → List Nat) (tgt : Nat → Nat) (ow : Nat → Bool) (w : Nat → Int) : Nat → List (Nat × Int) → Nat → Int → Int
  | 0, _, _, _ => 0
  | k + 1, π, v, s => match gm_at π v with
    | some r => ((420 / r.1 : Nat) : Int) * (s - r.2)
    | none => if ow v = true then gm_mx ((adj v).map (fun e => gm_pay adj tgt ow w k ((v, s) :: π) (tgt e) (s + w e))) else gm_mn ((adj v).map (fun e => gm_pay adj tgt ow w k ((v, s) :: π) (tgt e) (s + w e)))
theorem gm_at_none {π : List (Nat × Int)} {v : Nat} : gm_at π v = none ↔ v ∉ π.map Prod.fst := by
  induction π with
  | nil => simp [gm_at]
  | cons q π ih =>
    simp only [gm_at, List.map_cons, List.mem_cons, not_or]
    by_cases h : q.1 = v
    · rw [if_pos h]
      simp [h]
    · rw [if_neg h, Option.map_eq_none_iff, ih]
      constructor
      · intro h2; exact ⟨fun h3 => h h3.symm, h2⟩
      · intro h2; exact h2.2
theorem gm_at_len : ∀ {π : List (Nat × Int)} {v d : Nat} {s0 : Int}, gm_at π v = some (d, s0) → 1 ≤ d ∧ d ≤ π.length
  | [], v, d, s0, h => by simp [gm_at] at h
  | q :: π, v, d, s0, h => by
    simp only [gm_at] at h
    by_cases hv : q.1 = v
    · rw [if_pos hv] at h
      simp only [Option.some.injEq, Prod.mk.injEq] at h
      simp only [List.length_cons]
      omega
    · rw [if_neg hv, Option.map_eq_some_iff] at h
      obtain ⟨⟨d1, s1⟩, h1, h2⟩ := h
      have := gm_at_len h1
      simp only [Prod.mk.injEq] at h2
      simp only [List.length_cons]
      omega
/-- the path in the game with the weights q * w - p -/
def gm_lift (p q : Int) : List (Nat × Int) → List (Nat × Int)
  | [] => []
  | x :: π => (x.1, q * x.2 - p * (π.length : Int)) :: gm_lift p q π
theorem gm_lift_len {p q : Int} : ∀ (π : List (Nat × Int)), (gm_lift p q π).length = π.length
  | [] => rfl
  | x :: π => by simp only [gm_lift, List.length_cons, gm_lift_len π]
theorem gm_lift_fst {p q : Int} : ∀ (π : List (Nat × Int)), (gm_lift p q π).map Prod.fst = π.map Prod.fst
  | [] => rfl
  | x :: π => by simp only [gm_lift, List.map_cons, gm_lift_fst π]
theorem gm_lift_none {p q : Int} {π : List (Nat × Int)} {v : Nat} (h : gm_at π v = none) : (gm_lift p q π).lookup v = none := by
  rw [gm_lookup_none, gm_lift_fst]
  exact gm_at_none.mp h
theorem gm_lift_some {p q : Int} : ∀ {π : List (Nat × Int)} {v d : Nat} {s0 : Int}, gm_at π v = some (d, s0) → (gm_lift p q π).lookup v = some (q * s0 - p * ((π.length : Int) - d))
  | [], v, d, s0, h => by simp [gm_at] at h
  | x :: π, v, d, s0, h => by
    simp only [gm_at] at h
    simp only [gm_lift, List.lookup_cons]
    by_cases hv : x.1 = v
    · rw [if_pos hv] at h
      simp only [Option.some.injEq, Prod.mk.injEq] at h
      obtain ⟨rfl, rfl⟩ := h
      have h1 : (v == x.1) = true := by simp [hv]
      rw [h1]
      simp only [List.length_cons]
      congr 1
      congr 2
      omega
    · rw [if_neg hv, Option.map_eq_some_iff] at h
      obtain ⟨⟨d1, s1⟩, h1, h2⟩ := h
      simp only [Prod.mk.injEq] at h2
      obtain ⟨rfl, rfl⟩ := h2
      have h3 : (v == x.1) = false := by simpa using fun h => hv h.symm
      rw [h3]
      simp only
      rw [gm_lift_some h1]
      simp only [List.length_cons]
      congr 1
      congr 2
      omega
theorem gm_ok_at {n : Nat} {π : List (Nat × Int)} {v : Nat} {s : Int} (h : gm_ok n π) (hv : v < n) (hl : gm_at π v = none) : gm_ok n ((v, s) :: π) := gm_ok_push h hv (gm_lookup_none.mpr (gm_at_none.mp hl))
theorem gm_mulq {a b q : Int} (hq : 0 < q) (h : a ≤ b) : a * q ≤ b * q := Int.mul_le_mul_of_nonneg_right h (by omega)
theorem gm_mx_ge {l : List Int} {t q : Int} (hq : 0 < q) (ht : -1000000 * q < t) : t ≤ gm_mx l * q ↔ ∃ a ∈ l, t ≤ a * q := by
  constructor
  · intro h
    rcases gm_mx_or l with h1 | h1
    · rw [h1] at h
      omega
    · exact ⟨_, h1, h⟩
  · rintro ⟨a, h1, h2⟩
    exact Int.le_trans h2 (gm_mulq hq (gm_mx_mem h1))
theorem gm_mn_ge {l : List Int} {t q : Int} (hq : 0 < q) (ht : t < 1000000 * q) : t ≤ gm_mn l * q ↔ ∀ a ∈ l, t ≤ a * q := by
  constructor
  · intro h a h1
    exact Int.le_trans h (gm_mulq hq (gm_mn_mem h1))
  · intro h
    rcases gm_mn_or l with h1 | h1
    · rw [h1]
      omega
    · exact h _ h1
theorem gm_mx_le {l : List Int} {t q : Int} (hq : 0 < q) (ht : -1000000 * q < t) : gm_mx l * q ≤ t ↔ ∀ a ∈ l, a * q ≤ t := by
  constructor
  · intro h a h1
    exact Int.le_trans (gm_mulq hq (gm_mx_mem h1)) h
  · intro h
    rcases gm_mx_or l with h1 | h1
    · rw [h1]
      omega
    · exact h _ h1
theorem gm_mn_le {l : List Int} {t q : Int} (hq : 0 < q) (ht : t < 1000000 * q) : gm_mn l * q ≤ t ↔ ∃ a ∈ l, a * q ≤ t := by
  constructor
  · intro h
    rcases gm_mn_or l with h1 | h1
    · rw [h1] at h
      omega
    · exact ⟨_, h1, h⟩
  · rintro ⟨a, h1, h2⟩
    exact Int.le_trans (gm_mulq hq (gm_mn_mem h1)) h2
theorem gm_leaf_ge {d : Nat} {p q x : Int} (h1 : 1 ≤ d) (h7 : d ≤ 7) : p * 420 ≤ ((420 / d : Nat) : Int) * x * q ↔ p * d ≤ q * x := by
  have e : ((420 / d : Nat) : Int) * x * q = ((420 / d : Nat) : Int) * (q * x) := by rw [Int.mul_assoc, Int.mul_comm x q]
  rw [e]
  generalize q * x = X
  rcases (show d = 1 ∨ d = 2 ∨ d = 3 ∨ d = 4 ∨ d = 5 ∨ d = 6 ∨ d = 7 by omega) with rfl | rfl | rfl | rfl | rfl | rfl | rfl <;> simp only [Nat.reduceDiv] <;> omega
theorem gm_leaf_le {d : Nat} {p q x : Int} (h1 : 1 ≤ d) (h7 : d ≤ 7) : ((420 / d : Nat) : Int) * x * q ≤ p * 420 ↔ q * x ≤ p * d := by
  have e : ((420 / d : Nat) : Int) * x * q = ((420 / d : Nat) : Int) * (q * x) := by rw [Int.mul_assoc, Int.mul_comm x q]
  rw [e]
  generalize q * x = X
  rcases (show d = 1 ∨ d = 2 ∨ d = 3 ∨ d = 4 ∨ d = 5 ∨ d = 6 ∨ d = 7 by omega) with rfl | rfl | rfl | rfl | rfl | rfl | rfl <;> simp only [Nat.reduceDiv] <;> omega
section GV
variable {n : Nat} {adj : Nat → List Nat} {tgt : Nat → Nat} {ow : Nat → Bool} {w : Nat → Int} {p q : Int}
/-- the value is p / q or more: the game with the weights q * w - p is won -/
theorem gm_pay_ge (hn : n ≤ 7) (hT : ∀ v, v < n → ∀ e ∈ adj v, tgt e < n) (hq : 0 < q) (hp1 : -1000000 * q < p * 420) (hp2 : p * 420 < 1000000 * q) : ∀ (k : Nat) (π : List (Nat × Int)) (v : Nat) (s : Int), 8 ≤ k + π.length → gm_ok n π → v < n →
    (p * 420 ≤ gm_pay adj tgt ow w k π v s * q ↔ gm_win adj tgt ow (fun e => q * w e - p) k (gm_lift p q π) v (q * s - p * (π.length : Int))) := by
  intro k
  induction k with
  | zero =>
    intro π v s hk hok
    have := gm_ok_len hok
    omega
  | succ k ih =>
    intro π v s hk hok hv
    have hlen := gm_ok_len hok
    cases ha : gm_at π v with
    | some r =>
      obtain ⟨d, s0⟩ := r
      have hd := gm_at_len ha
      rw [gm_win_some (gm_lift_some ha)]
      simp only [gm_pay, ha]
      rw [gm_leaf_ge hd.1 (by omega), Int.mul_sub, Int.mul_sub]
      omega
    | none =>
      rw [gm_win_none (gm_lift_none ha)]
      simp only [gm_pay, ha]
      have step : ∀ e ∈ adj v, (p * 420 ≤ gm_pay adj tgt ow w k ((v, s) :: π) (tgt e) (s + w e) * q ↔ gm_win adj tgt ow (fun e => q * w e - p) k ((v, q * s - p * (π.length : Int)) :: gm_lift p q π) (tgt e) (q * s - p * (π.length : Int) + (q * w e - p))) := by
        intro e he
        rw [ih ((v, s) :: π) (tgt e) (s + w e) (by simp only [List.length_cons]; omega) (gm_ok_at hok hv ha) (hT v hv e he)]
        have e1 : q * (s + w e) - p * (((v, s) :: π).length : Int) = q * s - p * (π.length : Int) + (q * w e - p) := by
          simp only [List.length_cons, Int.natCast_add, Int.natCast_one, Int.mul_add, Int.mul_one]
          omega
        rw [e1]
        rfl
      cases ho : ow v with
      | true =>
        simp only [if_true, forall_const, reduceCtorEq, false_implies, and_true, ite_true]
        rw [gm_mx_ge hq hp1]
        constructor
        · rintro ⟨a, h1, h2⟩
          obtain ⟨e, he, rfl⟩ := List.mem_map.mp h1
          exact ⟨e, he, (step e he).mp h2⟩
        · rintro ⟨e, he, h2⟩
          exact ⟨_, List.mem_map.mpr ⟨e, he, rfl⟩, (step e he).mpr h2⟩
      | false =>
        simp only [reduceCtorEq, false_implies, true_and, forall_const, if_false, ite_false, Bool.false_eq_true]
        rw [gm_mn_ge hq hp2]
        constructor
        · intro h e he
          exact (step e he).mp (h _ (List.mem_map.mpr ⟨e, he, rfl⟩))
        · intro h a h1
          obtain ⟨e, he, rfl⟩ := List.mem_map.mp h1
          exact (step e he).mpr (h e he)
/-- the value is p / q or less: the same, the players' places changed -/
theorem gm_pay_le (hn : n ≤ 7) (hT : ∀ v, v < n → ∀ e ∈ adj v, tgt e < n) (hq : 0 < q) (hp1 : -1000000 * q < p * 420) (hp2 : p * 420 < 1000000 * q) : ∀ (k : Nat) (π : List (Nat × Int)) (v : Nat) (s : Int), 8 ≤ k + π.length → gm_ok n π → v < n →
    (gm_pay adj tgt ow w k π v s * q ≤ p * 420 ↔ gm_win adj tgt (fun v => !ow v) (fun e => (-q) * w e - (-p)) k (gm_lift (-p) (-q) π) v ((-q) * s - (-p) * (π.length : Int))) := by
  intro k
  induction k with
  | zero =>
    intro π v s hk hok
    have := gm_ok_len hok
    omega
  | succ k ih =>
    intro π v s hk hok hv
    have hlen := gm_ok_len hok
    cases ha : gm_at π v with
    | some r =>
      obtain ⟨d, s0⟩ := r
      have hd := gm_at_len ha
      rw [gm_win_some (gm_lift_some ha)]
      simp only [gm_pay, ha]
      rw [gm_leaf_le hd.1 (by omega), Int.mul_sub, Int.mul_sub, Int.neg_mul, Int.neg_mul, Int.neg_mul, Int.neg_mul]
      omega
    | none =>
      rw [gm_win_none (gm_lift_none ha)]
      simp only [gm_pay, ha]
      have step : ∀ e ∈ adj v, (gm_pay adj tgt ow w k ((v, s) :: π) (tgt e) (s + w e) * q ≤ p * 420 ↔ gm_win adj tgt (fun v => !ow v) (fun e => (-q) * w e - (-p)) k ((v, (-q) * s - (-p) * (π.length : Int)) :: gm_lift (-p) (-q) π) (tgt e) ((-q) * s - (-p) * (π.length : Int) + ((-q) * w e - (-p)))) := by
        intro e he
        rw [ih ((v, s) :: π) (tgt e) (s + w e) (by simp only [List.length_cons]; omega) (gm_ok_at hok hv ha) (hT v hv e he)]
        have e1 : (-q) * (s + w e) - (-p) * (((v, s) :: π).length : Int) = (-q) * s - (-p) * (π.length : Int) + ((-q) * w e - (-p)) := by
          simp only [List.length_cons, Int.natCast_add, Int.natCast_one, Int.mul_add, Int.mul_one]
          omega
        rw [e1]
        rfl
      cases ho : ow v with
      | true =>
        simp only [if_true, forall_const, reduceCtorEq, false_implies, true_and, ite_true, Bool.not_true, Bool.false_eq_true]
        rw [gm_mx_le hq hp1]
        constructor
        · intro h e he
          exact (step e he).mp (h _ (List.mem_map.mpr ⟨e, he, rfl⟩))
        · intro h a h1
          obtain ⟨e, he, rfl⟩ := List.mem_map.mp h1
          exact (step e he).mpr (h e he)
      | false =>
        simp only [reduceCtorEq, false_implies, and_true, forall_const, if_false, ite_false, Bool.false_eq_true, Bool.not_false]
        rw [gm_mn_le hq hp2]
        constructor
        · rintro ⟨a, h1, h2⟩
          obtain ⟨e, he, rfl⟩ := List.mem_map.mp h1
          exact ⟨e, he, (step e he).mp h2⟩
        · rintro ⟨e, he, h2⟩
          exact ⟨_, List.mem_map.mpr ⟨e, he, rfl⟩, (step e he).mpr h2⟩
/-- the path's sums move by at most 9 an edge -/
def gm_near (π : List (Nat × Int)) (s : Int) : Prop := ∀ (u d : Nat) (s0 : Int), gm_at π u = some (d, s0) → -(9 * (d : Int)) ≤ s - s0 ∧ s - s0 ≤ 9 * (d : Int)
theorem gm_near_push {π : List (Nat × Int)} {v : Nat} {s x : Int} (h : gm_near π s) (h1 : -9 ≤ x) (h2 : x ≤ 9) : gm_near ((v, s) :: π) (s + x) := by
  intro u d s0 hu
  simp only [gm_at] at hu
  by_cases hv : v = u
  · rw [if_pos hv] at hu
    simp only [Option.some.injEq, Prod.mk.injEq] at hu
    obtain ⟨rfl, rfl⟩ := hu
    omega
  · rw [if_neg hv, Option.map_eq_some_iff] at hu
    obtain ⟨⟨d1, s1⟩, h3, h4⟩ := hu
    simp only [Prod.mk.injEq] at h4
    obtain ⟨rfl, rfl⟩ := h4
    have := h u d1 s1 h3
    omega
theorem gm_leaf_bd {d : Nat} {x : Int} (h1 : 1 ≤ d) (h7 : d ≤ 7) (h2 : -(9 * (d : Int)) ≤ x) (h3 : x ≤ 9 * (d : Int)) : -3780 ≤ ((420 / d : Nat) : Int) * x ∧ ((420 / d : Nat) : Int) * x ≤ 3780 := by
  rcases (show d = 1 ∨ d = 2 ∨ d = 3 ∨ d = 4 ∨ d = 5 ∨ d = 6 ∨ d = 7 by omega) with rfl | rfl | rfl | rfl | rfl | rfl | rfl <;> simp only [Nat.reduceDiv] <;> omega
/-- what is paid is the average of a loop -/
theorem gm_pay_form (hn : n ≤ 7) (hA : ∀ v, v < n → adj v ≠ []) (hT : ∀ v, v < n → ∀ e ∈ adj v, tgt e < n) (hW : ∀ v, v < n → ∀ e ∈ adj v, -9 ≤ w e ∧ w e ≤ 9) : ∀ (k : Nat) (π : List (Nat × Int)) (v : Nat) (s : Int), 8 ≤ k + π.length → gm_ok n π → v < n → gm_near π s →
    ∃ (d : Nat) (x : Int), 1 ≤ d ∧ d ≤ n ∧ -(9 * (d : Int)) ≤ x ∧ x ≤ 9 * (d : Int) ∧ gm_pay adj tgt ow w k π v s = ((420 / d : Nat) : Int) * x := by
  intro k
  induction k with
  | zero =>
    intro π v s hk hok
    have := gm_ok_len hok
    omega
  | succ k ih =>
    intro π v s hk hok hv hne
    have hlen := gm_ok_len hok
    cases ha : gm_at π v with
    | some r =>
      obtain ⟨d, s0⟩ := r
      have hd := gm_at_len ha
      have h1 := hne v d s0 ha
      refine ⟨d, s - s0, hd.1, by omega, h1.1, h1.2, ?_⟩
      simp only [gm_pay, ha]
    | none =>
      simp only [gm_pay, ha]
      have step : ∀ e ∈ adj v, ∃ (d : Nat) (x : Int), 1 ≤ d ∧ d ≤ n ∧ -(9 * (d : Int)) ≤ x ∧ x ≤ 9 * (d : Int) ∧ gm_pay adj tgt ow w k ((v, s) :: π) (tgt e) (s + w e) = ((420 / d : Nat) : Int) * x := fun e he =>
        ih ((v, s) :: π) (tgt e) (s + w e) (by simp only [List.length_cons]; omega) (gm_ok_at hok hv ha) (hT v hv e he) (gm_near_push hne (hW v hv e he).1 (hW v hv e he).2)
      obtain ⟨e0, he0⟩ : ∃ e, e ∈ adj v := List.exists_mem_of_ne_nil _ (hA v hv)
      obtain ⟨d0, x0, g1, g2, g3, g4, g5⟩ := step e0 he0
      have hb := gm_leaf_bd g1 (by omega) g3 g4
      rw [← g5] at hb
      split
      · have hin := gm_mx_in (l := (adj v).map (fun e => gm_pay adj tgt ow w k ((v, s) :: π) (tgt e) (s + w e))) ⟨_, List.mem_map.mpr ⟨e0, he0, rfl⟩, by omega⟩
        obtain ⟨e, he, h⟩ := List.mem_map.mp hin
        rw [← h]
        exact step e he
      · have hin := gm_mn_in (l := (adj v).map (fun e => gm_pay adj tgt ow w k ((v, s) :: π) (tgt e) (s + w e))) ⟨_, List.mem_map.mpr ⟨e0, he0, rfl⟩, by omega⟩
        obtain ⟨e, he, h⟩ := List.mem_map.mp hin
        rw [← h]
        exact step e he
theorem gm_pay_bd (hn : n ≤ 7) (hA : ∀ v, v < n → adj v ≠ []) (hT : ∀ v, v < n → ∀ e ∈ adj v, tgt e < n) (hW : ∀ v, v < n → ∀ e ∈ adj v, -9 ≤ w e ∧ w e ≤ 9) {k : Nat} {π : List (Nat × Int)} {v : Nat} {s : Int} (hk : 8 ≤ k + π.length) (hok : gm_ok n π) (hv : v < n) (hne : gm_near π s) :
    -3780 ≤ gm_pay adj tgt ow w k π v s ∧ gm_pay adj tgt ow w k π v s ≤ 3780 := by
  obtain ⟨d, x, h1, h2, h3, h4, h5⟩ := gm_pay_form (ow := ow) hn hA hT hW k π v s hk hok hv hne
  rw [h5]
  exact gm_leaf_bd h1 (by omega) h3 h4
end GV
end
section
/-! ===== k moves: the sum of the weights stays near k times the value; the nearest fraction ===== -/
/-- what k moves bring -/
def gm_vi (adj : Nat → List Nat) (tgt : Nat → Nat) (ow : Nat → Bool) (w : Nat → Int) : Nat → Nat → Int
  | 0, _ => 0
  | k + 1, v => if ow v = true then gm_mx ((adj v).map (fun e => w e + gm_vi adj tgt ow w k (tgt e))) else gm_mn ((adj v).map (fun e => w e + gm_vi adj tgt ow w k (tgt e)))
section GB
variable {n : Nat} {adj : Nat → List Nat} {tgt : Nat → Nat} {ow : Nat → Bool} {w : Nat → Int}
theorem gm_vi_bd (hA : ∀ v, v < n → adj v ≠ []) (hT : ∀ v, v < n → ∀ e ∈ adj v, tgt e < n) (hW : ∀ v, v < n → ∀ e ∈ adj v, -9 ≤ w e ∧ w e ≤ 9) : ∀ (k : Nat), k ≤ 100000 → ∀ v, v < n → -(9 * (k : Int)) ≤ gm_vi adj tgt ow w k v ∧ gm_vi adj tgt ow w k v ≤ 9 * (k : Int) := by
  intro k
  induction k with
  | zero => intro _ v _; simp [gm_vi]
  | succ k ih =>
    intro hk v hv
    have step : ∀ e ∈ adj v, -(9 * ((k + 1 : Nat) : Int)) ≤ w e + gm_vi adj tgt ow w k (tgt e) ∧ w e + gm_vi adj tgt ow w k (tgt e) ≤ 9 * ((k + 1 : Nat) : Int) := by
      intro e he
      have h1 := ih (by omega) (tgt e) (hT v hv e he)
      have h2 := hW v hv e he
      omega
    obtain ⟨e0, he0⟩ : ∃ e, e ∈ adj v := List.exists_mem_of_ne_nil _ (hA v hv)
    have h0 := step e0 he0
    simp only [gm_vi]
    split
    · have hin := gm_mx_in (l := (adj v).map (fun e => w e + gm_vi adj tgt ow w k (tgt e))) ⟨_, List.mem_map.mpr ⟨e0, he0, rfl⟩, by omega⟩
      obtain ⟨e, he, h⟩ := List.mem_map.mp hin
      rw [← h]
      exact step e he
    · have hin := gm_mn_in (l := (adj v).map (fun e => w e + gm_vi adj tgt ow w k (tgt e))) ⟨_, List.mem_map.mpr ⟨e0, he0, rfl⟩, by omega⟩
      obtain ⟨e, he, h⟩ := List.mem_map.mp hin
      rw [← h]
      exact step e he
theorem gm_vi_in (hA : ∀ v, v < n → adj v ≠ []) (hT : ∀ v, v < n → ∀ e ∈ adj v, tgt e < n) (hW : ∀ v, v < n → ∀ e ∈ adj v, -9 ≤ w e ∧ w e ≤ 9) {k : Nat} (hk : k < 100000) {v : Nat} (hv : v < n) : ∃ e ∈ adj v, gm_vi adj tgt ow w (k + 1) v = w e + gm_vi adj tgt ow w k (tgt e) := by
  obtain ⟨e0, he0⟩ : ∃ e, e ∈ adj v := List.exists_mem_of_ne_nil _ (hA v hv)
  have h1 := gm_vi_bd (ow := ow) hA hT hW k (by omega) (tgt e0) (hT v hv e0 he0)
  have h2 := hW v hv e0 he0
  simp only [gm_vi]
  split
  · have hin := gm_mx_in (l := (adj v).map (fun e => w e + gm_vi adj tgt ow w k (tgt e))) ⟨_, List.mem_map.mpr ⟨e0, he0, rfl⟩, by omega⟩
    obtain ⟨e, he, h⟩ := List.mem_map.mp hin
    exact ⟨e, he, h.symm⟩
  · have hin := gm_mn_in (l := (adj v).map (fun e => w e + gm_vi adj tgt ow w k (tgt e))) ⟨_, List.mem_map.mpr ⟨e0, he0, rfl⟩, by omega⟩
    obtain ⟨e, he, h⟩ := List.mem_map.mp hin
    exact ⟨e, he, h.symm⟩
/-- from a vertex that is won at p / q, k moves bring no less than k * p / q, but for what its credit takes -/
theorem gm_vi_low (hA : ∀ v, v < n → adj v ≠ []) (hT : ∀ v, v < n → ∀ e ∈ adj v, tgt e < n) (hW : ∀ v, v < n → ∀ e ∈ adj v, -9 ≤ w e ∧ w e ≤ 9) {p q : Int} (hq : 0 < q) {S : Nat → Prop} {f : Nat → Int} (hf0 : ∀ v, v < n → S v → 0 ≤ f v)
    (h1 : ∀ v, v < n → S v → ow v = true → ∃ e ∈ adj v, S (tgt e) ∧ f (tgt e) ≤ f v + (q * w e - p)) (h2 : ∀ v, v < n → S v → ow v = false → ∀ e ∈ adj v, S (tgt e) ∧ f (tgt e) ≤ f v + (q * w e - p)) :
    ∀ k, k ≤ 100000 → ∀ v, v < n → S v → -(f v) ≤ q * gm_vi adj tgt ow w k v - p * (k : Int) := by
  intro k
  induction k with
  | zero =>
    intro _ v hv hS
    have := hf0 v hv hS
    simp only [gm_vi]
    omega
  | succ k ih =>
    intro hk v hv hS
    have step : ∀ e ∈ adj v, S (tgt e) ∧ f (tgt e) ≤ f v + (q * w e - p) → -(f v) ≤ q * (w e + gm_vi adj tgt ow w k (tgt e)) - p * ((k + 1 : Nat) : Int) := by
      intro e he h
      have h3 := ih (by omega) (tgt e) (hT v hv e he) h.1
      have e1 : p * ((k + 1 : Nat) : Int) = p * (k : Int) + p := by simp only [Int.natCast_add, Int.natCast_one, Int.mul_add, Int.mul_one]
      rw [e1, Int.mul_add]
      omega
    cases ho : ow v with
    | true =>
      obtain ⟨e, he, h⟩ := h1 v hv hS ho
      have h3 := step e he h
      have h4 : w e + gm_vi adj tgt ow w k (tgt e) ≤ gm_vi adj tgt ow w (k + 1) v := by
        simp only [gm_vi, ho, if_true]
        exact gm_mx_mem (List.mem_map.mpr ⟨e, he, rfl⟩)
      have h5 := Int.mul_le_mul_of_nonneg_left h4 (show 0 ≤ q by omega)
      omega
    | false =>
      obtain ⟨e, he, h⟩ := gm_vi_in (ow := ow) hA hT hW (k := k) (by omega) hv
      rw [h]
      exact step e he (h2 v hv hS ho e he)
theorem gm_vi_up (hA : ∀ v, v < n → adj v ≠ []) (hT : ∀ v, v < n → ∀ e ∈ adj v, tgt e < n) (hW : ∀ v, v < n → ∀ e ∈ adj v, -9 ≤ w e ∧ w e ≤ 9) {p q : Int} (hq : 0 < q) {S : Nat → Prop} {f : Nat → Int} (hf0 : ∀ v, v < n → S v → 0 ≤ f v)
    (h1 : ∀ v, v < n → S v → ow v = false → ∃ e ∈ adj v, S (tgt e) ∧ f (tgt e) ≤ f v + ((-q) * w e - (-p))) (h2 : ∀ v, v < n → S v → ow v = true → ∀ e ∈ adj v, S (tgt e) ∧ f (tgt e) ≤ f v + ((-q) * w e - (-p))) :
    ∀ k, k ≤ 100000 → ∀ v, v < n → S v → q * gm_vi adj tgt ow w k v - p * (k : Int) ≤ f v := by
  intro k
  induction k with
  | zero =>
    intro _ v hv hS
    have := hf0 v hv hS
    simp only [gm_vi]
    omega
  | succ k ih =>
    intro hk v hv hS
    have step : ∀ e ∈ adj v, S (tgt e) ∧ f (tgt e) ≤ f v + ((-q) * w e - (-p)) → q * (w e + gm_vi adj tgt ow w k (tgt e)) - p * ((k + 1 : Nat) : Int) ≤ f v := by
      intro e he h
      have h3 := ih (by omega) (tgt e) (hT v hv e he) h.1
      have h4 := h.2
      rw [Int.neg_mul] at h4
      have e1 : p * ((k + 1 : Nat) : Int) = p * (k : Int) + p := by simp only [Int.natCast_add, Int.natCast_one, Int.mul_add, Int.mul_one]
      rw [e1, Int.mul_add]
      omega
    cases ho : ow v with
    | false =>
      obtain ⟨e, he, h⟩ := h1 v hv hS ho
      have h3 := step e he h
      have h4 : gm_vi adj tgt ow w (k + 1) v ≤ w e + gm_vi adj tgt ow w k (tgt e) := by
        simp only [gm_vi, ho, Bool.false_eq_true, if_false]
        exact gm_mn_mem (List.mem_map.mpr ⟨e, he, rfl⟩)
      have h5 := Int.mul_le_mul_of_nonneg_left h4 (show 0 ≤ q by omega)
      omega
    | true =>
      obtain ⟨e, he, h⟩ := gm_vi_in (ow := ow) hA hT hW (k := k) (by omega) hv
      rw [h]
      exact step e he (h2 v hv hS ho e he)
theorem gm_bnot_t {b : Bool} (h : (!b) = true) : b = false := by cases b <;> simp_all
theorem gm_bnot_f {b : Bool} (h : (!b) = false) : b = true := by cases b <;> simp_all
/-- k moves bring k times the value, but for 18 * (n - 1) -/
theorem gm_vi_near (hn : n ≤ 7) (hA : ∀ v, v < n → adj v ≠ []) (hT : ∀ v, v < n → ∀ e ∈ adj v, tgt e < n) (hW : ∀ v, v < n → ∀ e ∈ adj v, -9 ≤ w e ∧ w e ≤ 9) {k : Nat} (hk : k ≤ 100000) {v : Nat} (hv : v < n) :
    -(((n : Int) - 1) * 7560) ≤ 420 * gm_vi adj tgt ow w k v - gm_pay adj tgt ow w 8 [] v 0 * (k : Int) ∧ 420 * gm_vi adj tgt ow w k v - gm_pay adj tgt ow w 8 [] v 0 * (k : Int) ≤ ((n : Int) - 1) * 7560 := by
  have hok : gm_ok n [] := ⟨List.nodup_nil, fun q h => by cases h⟩
  have hb := gm_pay_bd (ow := ow) (k := 8) (π := []) (s := 0) hn hA hT hW (by simp) hok hv (fun u d s0 h => by simp [gm_at] at h)
  generalize hP : gm_pay adj tgt ow w 8 [] v 0 = P at hb ⊢
  constructor
  · have hwin := (gm_pay_ge (ow := ow) (w := w) (p := P) (q := 420) hn hT (by omega) (by omega) (by omega) 8 [] v 0 (by simp) hok hv).mp (by rw [hP]; omega)
    have hwin : gm_win adj tgt ow (fun e => 420 * w e - P) 8 [] v 0 := by simpa [gm_lift] using hwin
    obtain ⟨f, hf⟩ := gm_main (ow := ow) (w := fun e => 420 * w e - P) (M := 7560) hn (by omega) hT (fun v hv e he => by have := hW v hv e he; omega)
    have h3 := gm_vi_low (ow := ow) hA hT hW (p := P) (q := 420) (by omega) (S := fun u => gm_win adj tgt ow (fun e => 420 * w e - P) 8 [] u 0) (f := f) (fun u hu hS => (hf u hu hS).1.1) (fun u hu hS => (hf u hu hS).2.1) (fun u hu hS => (hf u hu hS).2.2) k hk v hv hwin
    have h4 := (hf v hv hwin).1.2
    omega
  · have hwin := (gm_pay_le (ow := ow) (w := w) (p := P) (q := 420) hn hT (by omega) (by omega) (by omega) 8 [] v 0 (by simp) hok hv).mp (by rw [hP]; omega)
    have hwin : gm_win adj tgt (fun v => !ow v) (fun e => (-420) * w e - (-P)) 8 [] v 0 := by simpa [gm_lift] using hwin
    obtain ⟨f, hf⟩ := gm_main (ow := fun v => !ow v) (w := fun e => (-420) * w e - (-P)) (M := 7560) hn (by omega) hT (fun v hv e he => by have := hW v hv e he; omega)
    have h3 := gm_vi_up (ow := ow) hA hT hW (p := P) (q := 420) (by omega) (S := fun u => gm_win adj tgt (fun v => !ow v) (fun e => (-420) * w e - (-P)) 8 [] u 0) (f := f) (fun u hu hS => (hf u hu hS).1.1) (fun u hu hS ho => (hf u hu hS).2.1 (by simp [ho])) (fun u hu hS ho => (hf u hu hS).2.2 (by simp [ho])) k hk v hv hwin
    have h4 := (hf v hv hwin).1.2
    omega
end GB
/-- a fraction of the right kind lies nearest: |p * st - V * q| / q is least at p0 / q0 alone -/
theorem gm_nearest {n st : Nat} {V P p0 p : Int} {q0 q : Nat} (hn : 1 ≤ n) (hst : st = 36 * n * n * n + 1) (h1 : -(((n : Int) - 1) * 7560) ≤ 420 * V - P * (st : Int)) (h2 : 420 * V - P * (st : Int) ≤ ((n : Int) - 1) * 7560)
    (hq0 : 1 ≤ q0) (hq0n : q0 ≤ n) (hP : P * (q0 : Int) = 420 * p0) (hq : 1 ≤ q) (hqn : q ≤ n) (hne : p * (q0 : Int) ≠ p0 * (q : Int)) :
    ((p0 * (st : Int) - V * (q0 : Int)).natAbs : Int) * (q : Int) < ((p * (st : Int) - V * (q : Int)).natAbs : Int) * (q0 : Int) := by
  -- off0 = p0 * st - V * q0, |off0| ≤ q0 * (n - 1) * 18
  have e0 : 420 * (p0 * (st : Int) - V * (q0 : Int)) = -((420 * V - P * (st : Int)) * (q0 : Int)) := by
    have : 420 * (p0 * (st : Int)) = P * (q0 : Int) * (st : Int) := by rw [hP, Int.mul_assoc]
    rw [Int.mul_sub, this, Int.sub_mul]
    have e2 : P * (st : Int) * (q0 : Int) = P * (q0 : Int) * (st : Int) := by rw [Int.mul_assoc, Int.mul_comm (st : Int), ← Int.mul_assoc]
    have e4 : 420 * V * (q0 : Int) = 420 * (V * (q0 : Int)) := Int.mul_assoc _ _ _
    rw [e2, e4]
    omega
  generalize hD : 420 * V - P * (st : Int) = D at e0 h1 h2
  have hq0' : (0 : Int) ≤ (q0 : Int) := by omega
  have b1 : -(((n : Int) - 1) * 7560) * (q0 : Int) ≤ D * (q0 : Int) := Int.mul_le_mul_of_nonneg_right h1 hq0'
  have b2 : D * (q0 : Int) ≤ ((n : Int) - 1) * 7560 * (q0 : Int) := Int.mul_le_mul_of_nonneg_right h2 hq0'
  have e3 : ((n : Int) - 1) * 7560 * (q0 : Int) = 7560 * (((n : Int) - 1) * (q0 : Int)) := by
    rw [Int.mul_comm ((n : Int) - 1) 7560, Int.mul_assoc]
  rw [Int.neg_mul, e3] at b1
  rw [e3] at b2
  generalize hX : ((n : Int) - 1) * (q0 : Int) = X at b1 b2
  generalize hO : p0 * (st : Int) - V * (q0 : Int) = O at e0 ⊢
  have c1 : -(18 * X) ≤ O := by omega
  have c2 : O ≤ 18 * X := by omega
  -- the other one
  have e5 : (p * (st : Int) - V * (q : Int)) * (q0 : Int) = (st : Int) * (p * (q0 : Int) - p0 * (q : Int)) + O * (q : Int) := by
    rw [← hO]
    simp only [Int.sub_mul, Int.mul_sub]
    have a1 : p * (st : Int) * (q0 : Int) = (st : Int) * (p * (q0 : Int)) := by rw [Int.mul_comm p, Int.mul_assoc]
    have a2 : V * (q : Int) * (q0 : Int) = V * (q0 : Int) * (q : Int) := by rw [Int.mul_assoc, Int.mul_comm (q : Int), ← Int.mul_assoc]
    have a3 : p0 * (st : Int) * (q : Int) = (st : Int) * (p0 * (q : Int)) := by rw [Int.mul_comm p0, Int.mul_assoc]
    rw [a1, a2, a3]
    omega
  have hq' : (0 : Int) ≤ (q : Int) := by omega
  have d1 : -(18 * X) * (q : Int) ≤ O * (q : Int) := Int.mul_le_mul_of_nonneg_right c1 hq'
  have d2 : O * (q : Int) ≤ 18 * X * (q : Int) := Int.mul_le_mul_of_nonneg_right c2 hq'
  have e6 : 18 * X * (q : Int) = 18 * (X * (q : Int)) := Int.mul_assoc _ _ _
  rw [Int.neg_mul, e6] at d1
  rw [e6] at d2
  -- X * q ≤ (n - 1) * n * n
  have hXq : X * (q : Int) ≤ ((n : Int) - 1) * (n : Int) * (n : Int) := by
    rw [← hX]
    have f1 : ((n : Int) - 1) * (q0 : Int) ≤ ((n : Int) - 1) * (n : Int) := Int.mul_le_mul_of_nonneg_left (by omega) (by omega)
    have f2 : ((n : Int) - 1) * (q0 : Int) * (q : Int) ≤ ((n : Int) - 1) * (n : Int) * (q : Int) := Int.mul_le_mul_of_nonneg_right f1 hq'
    have f3 : ((n : Int) - 1) * (n : Int) * (q : Int) ≤ ((n : Int) - 1) * (n : Int) * (n : Int) := Int.mul_le_mul_of_nonneg_left (by omega) (Int.mul_nonneg (by omega) (by omega))
    omega
  have hst' : (st : Int) = 36 * ((n : Int) * (n : Int) * (n : Int)) + 1 := by
    rw [hst]
    simp only [Int.natCast_add, Int.natCast_mul, Int.natCast_one, Int.mul_assoc]
    rfl
  have hnn : ((n : Int) - 1) * (n : Int) * (n : Int) ≤ (n : Int) * (n : Int) * (n : Int) := by
    have g1 : ((n : Int) - 1) * (n : Int) ≤ (n : Int) * (n : Int) := Int.mul_le_mul_of_nonneg_right (by omega) (by omega)
    exact Int.mul_le_mul_of_nonneg_right g1 (by omega)
  generalize X * (q : Int) = Y at d1 d2 hXq
  generalize (n : Int) * (n : Int) * (n : Int) = N3 at hst' hnn
  have hY : 36 * Y < (st : Int) := by omega
  -- |st * z| ≥ st
  have hz : p * (q0 : Int) - p0 * (q : Int) ≠ 0 := fun h => hne (by omega)
  generalize p * (q0 : Int) - p0 * (q : Int) = z at hz e5
  have hstz : (st : Int) ≤ (st : Int) * z ∨ (st : Int) * z ≤ -(st : Int) := by
    rcases Int.lt_or_gt_of_ne hz with h | h
    · right
      have : (st : Int) * z ≤ (st : Int) * (-1) := Int.mul_le_mul_of_nonneg_left (by omega) (by omega)
      omega
    · left
      have : (st : Int) * 1 ≤ (st : Int) * z := Int.mul_le_mul_of_nonneg_left (by omega) (by omega)
      omega
  generalize (st : Int) * z = Z at e5 hstz
  have m1 : ((O.natAbs : Nat) : Int) * (q : Int) = ((O * (q : Int)).natAbs : Int) := by
    rw [Int.natAbs_mul, Int.natCast_mul, Int.natAbs_natCast]
  have m2 : ((p * (st : Int) - V * (q : Int)).natAbs : Int) * (q0 : Int) = (((p * (st : Int) - V * (q : Int)) * (q0 : Int)).natAbs : Int) := by
    rw [Int.natAbs_mul, Int.natCast_mul, Int.natAbs_natCast]
  rw [m1, m2, e5]
  generalize O * (q : Int) = U at d1 d2 ⊢
  omega
end
section
/-! ===== credits: the least numbers that are enough ===== -/
/-- f is enough, on the won vertices -/
def gm_pre (n : Nat) (adj : Nat → List Nat) (tgt : Nat → Nat) (ow : Nat → Bool) (w : Nat → Int) (f : Nat → Int) : Prop :=
  ∀ v, v < n → gm_win adj tgt ow w 8 [] v 0 → 0 ≤ f v ∧ (ow v = true → ∃ e ∈ adj v, gm_win adj tgt ow w 8 [] (tgt e) 0 ∧ f (tgt e) ≤ f v + w e) ∧ (ow v = false → ∀ e ∈ adj v, gm_win adj tgt ow w 8 [] (tgt e) 0 → f (tgt e) ≤ f v + w e)
/-- f is the credit: -1 where there is none -/
def gm_isCr (n : Nat) (adj : Nat → List Nat) (tgt : Nat → Nat) (ow : Nat → Bool) (w : Nat → Int) (f : Nat → Int) : Prop :=
  (∀ v, v < n → ¬ gm_win adj tgt ow w 8 [] v 0 → f v = -1) ∧ gm_pre n adj tgt ow w f ∧ ∀ f', gm_pre n adj tgt ow w f' → ∀ v, v < n → gm_win adj tgt ow w 8 [] v 0 → f v ≤ f' v
theorem gm_isCr_uniq {n : Nat} {adj : Nat → List Nat} {tgt : Nat → Nat} {ow : Nat → Bool} {w f g : Nat → Int} (hf : gm_isCr n adj tgt ow w f) (hg : gm_isCr n adj tgt ow w g) {v : Nat} (hv : v < n) : f v = g v := by
  by_cases h : gm_win adj tgt ow w 8 [] v 0
  · have h1 := hf.2.2 g hg.2.1 v hv h
    have h2 := hg.2.2 f hf.2.1 v hv h
    omega
  · rw [hf.1 v hv h, hg.1 v hv h]
section GC
variable {n : Nat} {adj : Nat → List Nat} {tgt : Nat → Nat} {ow : Nat → Bool} {w : Nat → Int} {M : Int}
/-- there is a bounded one, and with it every won vertex of the other player leads to won ones alone -/
theorem gm_pre_ex (hn : n ≤ 7) (h0 : 0 ≤ M) (hT : ∀ v, v < n → ∀ e ∈ adj v, tgt e < n) (hM : ∀ v, v < n → ∀ e ∈ adj v, -M ≤ w e) :
    ∃ f, gm_pre n adj tgt ow w f ∧ (∀ v, v < n → gm_win adj tgt ow w 8 [] v 0 → f v ≤ ((n : Int) - 1) * M) ∧ ∀ v, v < n → gm_win adj tgt ow w 8 [] v 0 → ow v = false → ∀ e ∈ adj v, gm_win adj tgt ow w 8 [] (tgt e) 0 := by
  obtain ⟨f, hf⟩ := gm_main (ow := ow) hn h0 hT hM
  refine ⟨f, fun v hv hw => ⟨(hf v hv hw).1.1, (hf v hv hw).2.1, fun ho e he _ => ((hf v hv hw).2.2 ho e he).2⟩, fun v hv hw => (hf v hv hw).1.2, fun v hv hw ho e he => ((hf v hv hw).2.2 ho e he).1⟩
theorem gm_isCr_bd (hn : n ≤ 7) (h0 : 0 ≤ M) (hT : ∀ v, v < n → ∀ e ∈ adj v, tgt e < n) (hM : ∀ v, v < n → ∀ e ∈ adj v, -M ≤ w e) {f : Nat → Int} (hf : gm_isCr n adj tgt ow w f) {v : Nat} (hv : v < n) : -1 ≤ f v ∧ f v ≤ ((n : Int) - 1) * M := by
  obtain ⟨g, h1, h2, -⟩ := gm_pre_ex (ow := ow) hn h0 hT hM
  have h3 : 0 ≤ ((n : Int) - 1) * M := Int.mul_nonneg (by omega) h0
  by_cases h : gm_win adj tgt ow w 8 [] v 0
  · have := hf.2.2 g h1 v hv h
    have := h2 v hv h
    have := (hf.2.1 v hv h).1
    omega
  · rw [hf.1 v hv h]
    omega
/-- the smaller of two that are enough is enough -/
theorem gm_pre_min {f g : Nat → Int} (hf : gm_pre n adj tgt ow w f) (hg : gm_pre n adj tgt ow w g) : gm_pre n adj tgt ow w (fun v => min (f v) (g v)) := by
  intro v hv hw
  obtain ⟨a1, a2, a3⟩ := hf v hv hw
  obtain ⟨b1, b2, b3⟩ := hg v hv hw
  refine ⟨by simp only; omega, fun ho => ?_, fun ho e he h => ?_⟩
  · rcases Int.le_total (f v) (g v) with h | h
    · obtain ⟨e, he, h1, h2⟩ := a2 ho
      exact ⟨e, he, h1, by simp only; omega⟩
    · obtain ⟨e, he, h1, h2⟩ := b2 ho
      exact ⟨e, he, h1, by simp only; omega⟩
  · have := a3 ho e he h
    have := b3 ho e he h
    simp only
    omega
/-- numbers that grow from 0, never beyond what is enough, until they are enough -/
theorem gm_cr_up {f : Nat → Int} (h1 : ∀ v, v < n → ¬ gm_win adj tgt ow w 8 [] v 0 → f v = -1) (h2 : gm_pre n adj tgt ow w f) (h3 : ∀ f', gm_pre n adj tgt ow w f' → ∀ v, v < n → gm_win adj tgt ow w 8 [] v 0 → f v ≤ f' v) : gm_isCr n adj tgt ow w f := ⟨h1, h2, h3⟩
/-- what is needed in front of an edge, 1000000 for endless -/
def gm_ce (tgt : Nat → Nat) (w : Nat → Int) (g : Nat → Int) (e : Nat) : Int := if g (tgt e) = 1000000 then 1000000 else max 0 (g (tgt e) - w e)
def gm_nd (adj : Nat → List Nat) (tgt : Nat → Nat) (ow : Nat → Bool) (w : Nat → Int) (g : Nat → Int) (v : Nat) : Int := if ow v = true then gm_mn ((adj v).map (gm_ce tgt w g)) else gm_mx ((adj v).map (gm_ce tgt w g))
def gm_tt (cap : Int) (adj : Nat → List Nat) (tgt : Nat → Nat) (ow : Nat → Bool) (w : Nat → Int) (g : Nat → Int) (v : Nat) : Int := if cap < gm_nd adj tgt ow w g v then 1000000 else gm_nd adj tgt ow w g v
/-- what the numbers of the rounds are -/
def gm_rng (n : Nat) (cap : Int) (g : Nat → Int) : Prop := ∀ v, v < n → 0 ≤ g v ∧ (g v ≤ cap ∨ g v = 1000000)
theorem gm_ce_bd {cap : Int} {g : Nat → Int} {e : Nat} (hc : cap ≤ 100000) (hg : 0 ≤ g (tgt e) ∧ (g (tgt e) ≤ cap ∨ g (tgt e) = 1000000)) (hw : -100000 ≤ w e) : 0 ≤ gm_ce tgt w g e ∧ gm_ce tgt w g e ≤ 1000000 := by
  unfold gm_ce
  split <;> omega
theorem gm_nd_in (hA : ∀ v, v < n → adj v ≠ []) (hT : ∀ v, v < n → ∀ e ∈ adj v, tgt e < n) {cap : Int} (hc : cap ≤ 100000) (hw : ∀ v, v < n → ∀ e ∈ adj v, -100000 ≤ w e) {g : Nat → Int} (hg : gm_rng n cap g) {v : Nat} (hv : v < n) : ∃ e ∈ adj v, gm_nd adj tgt ow w g v = gm_ce tgt w g e := by
  obtain ⟨e0, he0⟩ : ∃ e, e ∈ adj v := List.exists_mem_of_ne_nil _ (hA v hv)
  have hb := gm_ce_bd hc (hg _ (hT v hv e0 he0)) (hw v hv e0 he0)
  unfold gm_nd
  split
  · have hin := gm_mn_in (l := (adj v).map (gm_ce tgt w g)) ⟨_, List.mem_map.mpr ⟨e0, he0, rfl⟩, by omega⟩
    obtain ⟨e, he, h⟩ := List.mem_map.mp hin
    exact ⟨e, he, h.symm⟩
  · have hin := gm_mx_in (l := (adj v).map (gm_ce tgt w g)) ⟨_, List.mem_map.mpr ⟨e0, he0, rfl⟩, by omega⟩
    obtain ⟨e, he, h⟩ := List.mem_map.mp hin
    exact ⟨e, he, h.symm⟩
theorem gm_tt_rng (hA : ∀ v, v < n → adj v ≠ []) (hT : ∀ v, v < n → ∀ e ∈ adj v, tgt e < n) {cap : Int} (hc : cap ≤ 100000) (hw : ∀ v, v < n → ∀ e ∈ adj v, -100000 ≤ w e) {g : Nat → Int} (hg : gm_rng n cap g) : gm_rng n cap (gm_tt cap adj tgt ow w g) := by
  intro v hv
  obtain ⟨e, he, h⟩ := gm_nd_in (ow := ow) hA hT hc hw hg hv
  have hb := gm_ce_bd hc (hg _ (hT v hv e he)) (hw v hv e he)
  unfold gm_tt
  rw [h]
  split <;> omega
theorem gm_nd_mono (hA : ∀ v, v < n → adj v ≠ []) (hT : ∀ v, v < n → ∀ e ∈ adj v, tgt e < n) {cap : Int} (hc : cap ≤ 100000) (hw : ∀ v, v < n → ∀ e ∈ adj v, -100000 ≤ w e) {g g' : Nat → Int} (hg : gm_rng n cap g) (hg' : gm_rng n cap g') (hle : ∀ v, v < n → g v ≤ g' v) {v : Nat} (hv : v < n) : gm_nd adj tgt ow w g v ≤ gm_nd adj tgt ow w g' v := by
  have hce : ∀ e ∈ adj v, gm_ce tgt w g e ≤ gm_ce tgt w g' e := by
    intro e he
    have h1 := hle _ (hT v hv e he)
    have h2 := hg _ (hT v hv e he)
    have h3 := hg' _ (hT v hv e he)
    have h4 := hw v hv e he
    unfold gm_ce
    split <;> split <;> omega
  cases ho : ow v with
  | true =>
    obtain ⟨e, he, h⟩ := gm_nd_in (ow := ow) hA hT hc hw hg' hv
    rw [h]
    refine Int.le_trans ?_ (hce e he)
    unfold gm_nd
    rw [if_pos ho]
    exact gm_mn_mem (List.mem_map.mpr ⟨e, he, rfl⟩)
  | false =>
    obtain ⟨e, he, h⟩ := gm_nd_in (ow := ow) hA hT hc hw hg hv
    rw [h]
    refine Int.le_trans (hce e he) ?_
    unfold gm_nd
    rw [if_neg (by simp [ho])]
    exact gm_mx_mem (List.mem_map.mpr ⟨e, he, rfl⟩)
theorem gm_tt_mono (hA : ∀ v, v < n → adj v ≠ []) (hT : ∀ v, v < n → ∀ e ∈ adj v, tgt e < n) {cap : Int} (hc : cap ≤ 100000) (hw : ∀ v, v < n → ∀ e ∈ adj v, -100000 ≤ w e) {g g' : Nat → Int} (hg : gm_rng n cap g) (hg' : gm_rng n cap g') (hle : ∀ v, v < n → g v ≤ g' v) {v : Nat} (hv : v < n) : gm_tt cap adj tgt ow w g v ≤ gm_tt cap adj tgt ow w g' v := by
  have h1 := gm_nd_mono (ow := ow) hA hT hc hw hg hg' hle hv
  obtain ⟨e, he, h⟩ := gm_nd_in (ow := ow) hA hT hc hw hg hv
  have hb := gm_ce_bd hc (hg _ (hT v hv e he)) (hw v hv e he)
  rw [← h] at hb
  unfold gm_tt
  split <;> split <;> omega
/-- a round keeps below what is enough -/
theorem gm_tt_below (hA : ∀ v, v < n → adj v ≠ []) {cap : Int} (hT : ∀ v, v < n → ∀ e ∈ adj v, tgt e < n) (hwt : ∀ v, v < n → gm_win adj tgt ow w 8 [] v 0 → ow v = false → ∀ e ∈ adj v, gm_win adj tgt ow w 8 [] (tgt e) 0) (hc : cap ≤ 100000) {g f' : Nat → Int} (hf : gm_pre n adj tgt ow w f') (hfc : ∀ v, v < n → gm_win adj tgt ow w 8 [] v 0 → f' v ≤ cap) (hg : ∀ v, v < n → gm_win adj tgt ow w 8 [] v 0 → g v ≤ f' v) {v : Nat} (hv : v < n) (hw : gm_win adj tgt ow w 8 [] v 0) : gm_tt cap adj tgt ow w g v ≤ f' v := by
  have hce : ∀ e ∈ adj v, gm_win adj tgt ow w 8 [] (tgt e) 0 → f' (tgt e) ≤ f' v + w e → gm_ce tgt w g e ≤ f' v := by
    intro e he h1 h2
    have h3 := hg _ (hT v hv e he) h1
    have h4 := hfc _ (hT v hv e he) h1
    have h5 := (hf v hv hw).1
    unfold gm_ce
    split <;> omega
  have hnd : gm_nd adj tgt ow w g v ≤ f' v := by
    unfold gm_nd
    split
    · rename_i ho
      obtain ⟨e, he, h1, h2⟩ := (hf v hv hw).2.1 ho
      exact Int.le_trans (gm_mn_mem (List.mem_map.mpr ⟨e, he, rfl⟩)) (hce e he h1 h2)
    · rename_i ho
      have ho : ow v = false := by cases h : ow v <;> simp_all
      rcases gm_mx_or ((adj v).map (gm_ce tgt w g)) with h | h
      · rw [h]
        have := (hf v hv hw).1
        omega
      · obtain ⟨e, he, h3⟩ := List.mem_map.mp h
        rw [← h3]
        have hwe := hwt v hv hw ho e he
        exact hce e he hwe ((hf v hv hw).2.2 ho e he hwe)
  have := hfc v hv hw
  unfold gm_tt
  split <;> omega
/-- what the rounds end in is the credit -/
theorem gm_cr_model (hn : n ≤ 7) (h0 : 0 ≤ M) (hA : ∀ v, v < n → adj v ≠ []) (hT : ∀ v, v < n → ∀ e ∈ adj v, tgt e < n) (hM : ∀ v, v < n → ∀ e ∈ adj v, -M ≤ w e) {cap : Int} (hcap : cap = (n : Int) * M) (hc : cap ≤ 100000) (hM2 : M ≤ 100000) {g : Nat → Int} (hg : gm_rng n cap g)
    (hfix : ∀ v, v < n → gm_tt cap adj tgt ow w g v = g v) (hleast : ∀ f', gm_pre n adj tgt ow w f' → (∀ v, v < n → gm_win adj tgt ow w 8 [] v 0 → f' v ≤ cap) → ∀ v, v < n → gm_win adj tgt ow w 8 [] v 0 → g v ≤ f' v) :
    gm_isCr n adj tgt ow w (fun v => if g v = 1000000 then -1 else g v) := by
  have hw' : ∀ v, v < n → ∀ e ∈ adj v, -100000 ≤ w e := fun v hv e he => by have := hM v hv e he; omega
  obtain ⟨fm, hm1, hm2, hm3⟩ := gm_pre_ex (ow := ow) hn h0 hT hM
  have hcm : ∀ v, v < n → gm_win adj tgt ow w 8 [] v 0 → fm v ≤ cap := by
    intro v hv hw
    have h1 := hm2 v hv hw
    have h2 : ((n : Int) - 1) * M ≤ (n : Int) * M := Int.mul_le_mul_of_nonneg_right (by omega) h0
    omega
  have hwg : ∀ v, v < n → gm_win adj tgt ow w 8 [] v 0 → g v ≤ cap := fun v hv hw => Int.le_trans (hleast fm hm1 hcm v hv hw) (hcm v hv hw)
  -- the finite ones are enough
  have hown : ∀ v, v < n → g v ≤ cap → ow v = true → ∃ e ∈ adj v, g (tgt e) ≤ cap ∧ g (tgt e) ≤ g v + w e := by
    intro v hv hgv ho
    obtain ⟨e, he, h⟩ := gm_nd_in (ow := ow) hA hT hc hw' hg hv
    have h1 := hfix v hv
    have h2 := hg _ (hT v hv e he)
    refine ⟨e, he, ?_⟩
    unfold gm_tt at h1
    rw [h] at h1
    unfold gm_ce at h1
    split at h1
    · omega
    · split at h1 <;> omega
  have hopp : ∀ v, v < n → g v ≤ cap → ow v = false → ∀ e ∈ adj v, g (tgt e) ≤ cap ∧ g (tgt e) ≤ g v + w e := by
    intro v hv hgv ho e he
    have h1 := hfix v hv
    have h2 := hg _ (hT v hv e he)
    have h3 : gm_ce tgt w g e ≤ gm_nd adj tgt ow w g v := by
      unfold gm_nd
      rw [if_neg (by simp [ho])]
      exact gm_mx_mem (List.mem_map.mpr ⟨e, he, rfl⟩)
    unfold gm_tt at h1
    unfold gm_ce at h3
    split at h1
    · omega
    · split at h3 <;> omega
  have hfin : ∀ v, v < n → g v ≤ cap → gm_win adj tgt ow w 8 [] v 0 := by
    intro v hv hgv
    exact gm_fin_win hn (S := fun v => v < n ∧ g v ≤ cap) (f := g) (fun v h => h.1)
      (fun v h ho => by obtain ⟨e, he, h1, h2⟩ := hown v h.1 h.2 ho; exact ⟨e, he, ⟨hT v h.1 e he, h1⟩, h2⟩)
      (fun v h ho e he => by obtain ⟨h1, h2⟩ := hopp v h.1 h.2 ho e he; exact ⟨⟨hT v h.1 e he, h1⟩, h2⟩)
      8 [] v 0 (by simp) ⟨List.nodup_nil, fun q h => by cases h⟩ ⟨hv, hgv⟩ (fun q h => by cases h)
  have hif : ∀ v, v < n → gm_win adj tgt ow w 8 [] v 0 → (if g v = 1000000 then (-1 : Int) else g v) = g v := by
    intro v hv hw
    have := hwg v hv hw
    rw [if_neg (by omega)]
  refine ⟨fun v hv hw => ?_, fun v hv hw => ⟨?_, fun ho => ?_, fun ho e he hwe => ?_⟩, fun f' hf' v hv hw => ?_⟩
  · rcases (hg v hv).2 with h | h
    · exact absurd (hfin v hv h) hw
    · simp only
      rw [if_pos h]
  · simp only
    rw [hif v hv hw]
    exact (hg v hv).1
  · obtain ⟨e, he, h1, h2⟩ := hown v hv (hwg v hv hw) ho
    have hwe := hfin _ (hT v hv e he) h1
    refine ⟨e, he, hwe, ?_⟩
    simp only
    rw [hif _ (hT v hv e he) hwe, hif v hv hw]
    exact h2
  · obtain ⟨h1, h2⟩ := hopp v hv (hwg v hv hw) ho e he
    simp only
    rw [hif _ (hT v hv e he) hwe, hif v hv hw]
    exact h2
  · simp only
    rw [hif v hv hw]
    have h1 := hleast _ (gm_pre_min hf' hm1) (fun u hu hwu => by have := hcm u hu hwu; omega) v hv hw
    omega
/-- a vertex with a credit has an edge that its credit allows -/
theorem gm_cr_edge {f : Nat → Int} (hf : gm_isCr n adj tgt ow w f) {v : Nat} (hv : v < n) (hw : gm_win adj tgt ow w 8 [] v 0) (ho : ow v = true) : ∃ e ∈ adj v, gm_win adj tgt ow w 8 [] (tgt e) 0 ∧ f (tgt e) ≤ f v + w e := (hf.2.1 v hv hw).2.1 ho
theorem gm_cr_win {f : Nat → Int} (hf : gm_isCr n adj tgt ow w f) {v : Nat} (hv : v < n) : gm_win adj tgt ow w 8 [] v 0 ↔ 0 ≤ f v := by
  constructor
  · intro h
    exact (hf.2.1 v hv h).1
  · intro h
    by_cases hw : gm_win adj tgt ow w 8 [] v 0
    · exact hw
    · have := hf.1 v hv hw
      omega
end GC
end
