/-! ===== the theory of the game, over whole numbers: the game that stops when a vertex comes again, and credits ===== -/
theorem gm_len : ∀ (n : Nat) (l : List Nat), l.Nodup → (∀ x ∈ l, x < n) → l.length ≤ n := by
  intro n
  induction n with
  | zero =>
    intro l _ h
    cases l with
    | nil => exact Nat.le_refl 0
    | cons a l => exact absurd (h a List.mem_cons_self) (by omega)
  | succ n ih =>
    intro l hn h
    have h1 : (l.erase n).length ≤ n := by
      refine ih _ (hn.erase n) (fun x hx => ?_)
      have h2 := (hn.mem_erase_iff).mp hx
      have h3 := h x h2.2
      have h4 : x ≠ n := h2.1
      omega
    have h5 := List.length_erase (a := n) (l := l)
    split at h5 <;> omega
/-- the game that stops: the player who spares (ow) wins if the loop's sum is not below 0. The path, newest first: a vertex and the sum when it was entered -/
def gm_win (adj : Nat → List Nat) (tgt : Nat → Nat) (ow : Nat → Bool) (w : Nat → Int) : Nat → List (Nat × Int) → Nat → Int → Prop
  | 0, _, _, _ => False
  | k + 1, π, v, s => match π.lookup v with
    | some s0 => s0 ≤ s
    | none => (ow v = true → ∃ e ∈ adj v, gm_win adj tgt ow w k ((v, s) :: π) (tgt e) (s + w e)) ∧ (ow v = false → ∀ e ∈ adj v, gm_win adj tgt ow w k ((v, s) :: π) (tgt e) (s + w e))
theorem gm_win_some {adj : Nat → List Nat} {tgt : Nat → Nat} {ow : Nat → Bool} {w : Nat → Int} {k : Nat} {π : List (Nat × Int)} {v : Nat} {s s0 : Int} (h : π.lookup v = some s0) : gm_win adj tgt ow w (k + 1) π v s ↔ s0 ≤ s := by
  simp only [gm_win, h]
theorem gm_win_none {adj : Nat → List Nat} {tgt : Nat → Nat} {ow : Nat → Bool} {w : Nat → Int} {k : Nat} {π : List (Nat × Int)} {v : Nat} {s : Int} (h : π.lookup v = none) : gm_win adj tgt ow w (k + 1) π v s ↔ ((ow v = true → ∃ e ∈ adj v, gm_win adj tgt ow w k ((v, s) :: π) (tgt e) (s + w e)) ∧ (ow v = false → ∀ e ∈ adj v, gm_win adj tgt ow w k ((v, s) :: π) (tgt e) (s + w e))) := by
  simp only [gm_win, h]
/-- a path that can be: its vertices are apart and there -/
def gm_ok (n : Nat) (π : List (Nat × Int)) : Prop := (π.map Prod.fst).Nodup ∧ ∀ q ∈ π, q.1 < n
theorem gm_ok_len {n : Nat} {π : List (Nat × Int)} (h : gm_ok n π) : π.length ≤ n := by
  have := gm_len n (π.map Prod.fst) h.1 (fun x hx => by obtain ⟨q, hq, rfl⟩ := List.mem_map.mp hx; exact h.2 q hq)
  simpa using this
theorem gm_lookup_none {π : List (Nat × Int)} {v : Nat} : π.lookup v = none ↔ v ∉ π.map Prod.fst := by
  induction π with
  | nil => simp
  | cons q π ih =>
    obtain ⟨u, su⟩ := q
    rw [List.lookup_cons]
    by_cases h : v = u
    · simp [h]
    · have h1 : (v == u) = false := by simpa using h
      rw [h1]
      simp only [List.map_cons, List.mem_cons, not_or]
      constructor
      · intro h2; exact ⟨h, ih.mp h2⟩
      · intro h2; exact ih.mpr h2.2
theorem gm_lookup_mem {π : List (Nat × Int)} {v : Nat} {s : Int} (h : π.lookup v = some s) : (v, s) ∈ π := by
  induction π with
  | nil => simp at h
  | cons q π ih =>
    obtain ⟨u, su⟩ := q
    rw [List.lookup_cons] at h
    by_cases hv : v = u
    · subst hv
      simp at h
      subst h
      exact List.mem_cons_self
    · have h1 : (v == u) = false := by simpa using hv
      rw [h1] at h
      exact List.mem_cons_of_mem _ (ih h)
theorem gm_ok_push {n : Nat} {π : List (Nat × Int)} {v : Nat} {s : Int} (h : gm_ok n π) (hv : v < n) (hl : π.lookup v = none) : gm_ok n ((v, s) :: π) := by
  refine ⟨?_, ?_⟩
  · simp only [List.map_cons, List.nodup_cons]
    exact ⟨gm_lookup_none.mp hl, h.1⟩
  · intro q hq
    rcases List.mem_cons.mp hq with rfl | hq
    · exact hv
    · exact h.2 q hq
section GM
variable {n : Nat} {adj : Nat → List Nat} {tgt : Nat → Nat} {ow : Nat → Bool} {w : Nat → Int} {M : Int}
/-- who is in a set from which the sparing player loses no more than f gives wins the game that stops -/
theorem gm_fin_win (hn : n ≤ 7) {S : Nat → Prop} {f : Nat → Int} (hS : ∀ v, S v → v < n) (h1 : ∀ v, S v → ow v = true → ∃ e ∈ adj v, S (tgt e) ∧ f (tgt e) ≤ f v + w e) (h2 : ∀ v, S v → ow v = false → ∀ e ∈ adj v, S (tgt e) ∧ f (tgt e) ≤ f v + w e) :
    ∀ (k : Nat) (π : List (Nat × Int)) (v : Nat) (s : Int), 8 ≤ k + π.length → gm_ok n π → S v → (∀ q ∈ π, f v ≤ f q.1 + (s - q.2)) → gm_win adj tgt ow w k π v s := by
  intro k
  induction k with
  | zero =>
    intro π v s hk hok
    have := gm_ok_len hok
    omega
  | succ k ih =>
    intro π v s hk hok hv hf
    cases hl : π.lookup v with
    | some s0 =>
      rw [gm_win_some hl]
      have := hf _ (gm_lookup_mem hl)
      simp only at this
      omega
    | none =>
      rw [gm_win_none hl]
      have step : ∀ e, S (tgt e) ∧ f (tgt e) ≤ f v + w e → gm_win adj tgt ow w k ((v, s) :: π) (tgt e) (s + w e) := by
        intro e he
        refine ih _ _ _ (by simp only [List.length_cons]; omega) (gm_ok_push hok (hS v hv) hl) he.1 ?_
        intro q hq
        rcases List.mem_cons.mp hq with rfl | hq
        · simp only
          omega
        · have := hf q hq
          omega
      refine ⟨fun ho => ?_, fun ho e he => step e (h2 v hv ho e he)⟩
      obtain ⟨e, he, h⟩ := h1 v hv ho
      exact ⟨e, he, step e h⟩
/-- a path on which every position is won -/
def gm_good (n : Nat) (adj : Nat → List Nat) (tgt : Nat → Nat) (ow : Nat → Bool) (w : Nat → Int) (M : Int) : List (Nat × Int) → Prop
  | [] => True
  | q :: π => gm_win adj tgt ow w (8 - π.length) π q.1 q.2 ∧ q.1 < n ∧ π.lookup q.1 = none ∧ -((π.length : Int) * M) ≤ q.2 ∧ gm_good n adj tgt ow w M π
theorem gm_good_ok : ∀ {π : List (Nat × Int)}, gm_good n adj tgt ow w M π → gm_ok n π
  | [], _ => ⟨List.nodup_nil, fun q h => by cases h⟩
  | _ :: _, h => gm_ok_push (gm_good_ok h.2.2.2.2) h.2.1 h.2.2.1
theorem gm_good_at : ∀ {π : List (Nat × Int)} {v : Nat} {s0 : Int}, gm_good n adj tgt ow w M π → π.lookup v = some s0 → ∃ π', gm_good n adj tgt ow w M ((v, s0) :: π')
  | [], v, s0, _, h => by simp at h
  | (u, su) :: π, v, s0, hg, h => by
    rw [List.lookup_cons] at h
    by_cases hv : v = u
    · subst hv
      simp at h
      subst h
      exact ⟨π, hg⟩
    · have h1 : (v == u) = false := by simpa using hv
      rw [h1] at h
      exact gm_good_at hg.2.2.2.2 h
theorem gm_good_next (hn : n ≤ 7) {π : List (Nat × Int)} {u : Nat} {s1 : Int} (hg : gm_good n adj tgt ow w M π) (hu : u < n) (hs : -((π.length : Int) * M) ≤ s1) (hw : gm_win adj tgt ow w (8 - π.length) π u s1) : ∃ s' π', gm_good n adj tgt ow w M ((u, s') :: π') ∧ s' ≤ s1 := by
  cases hl : π.lookup u with
  | some s0 =>
    obtain ⟨π', h⟩ := gm_good_at hg hl
    refine ⟨s0, π', h, ?_⟩
    have hlen := gm_ok_len (gm_good_ok hg)
    obtain ⟨k, hk⟩ : ∃ k, 8 - π.length = k + 1 := ⟨7 - π.length, by omega⟩
    rw [hk, gm_win_some hl] at hw
    exact hw
  | none => exact ⟨s1, π, ⟨hw, hu, hl, hs, hg⟩, Int.le_refl _⟩
theorem gm_good_step (hn : n ≤ 7) (hT : ∀ v, v < n → ∀ e ∈ adj v, tgt e < n) (hM : ∀ v, v < n → ∀ e ∈ adj v, -M ≤ w e) {π : List (Nat × Int)} {v : Nat} {s : Int} (hg : gm_good n adj tgt ow w M ((v, s) :: π)) :
    (ow v = true → ∃ e ∈ adj v, ∃ s' π', gm_good n adj tgt ow w M ((tgt e, s') :: π') ∧ s' ≤ s + w e) ∧ (ow v = false → ∀ e ∈ adj v, ∃ s' π', gm_good n adj tgt ow w M ((tgt e, s') :: π') ∧ s' ≤ s + w e) := by
  have hlen := gm_ok_len (gm_good_ok hg)
  simp only [List.length_cons] at hlen
  obtain ⟨hw, hv, hl, hs, hgr⟩ := id hg
  simp only at hw hv hl hs
  obtain ⟨k, hk⟩ : ∃ k, 8 - π.length = k + 1 := ⟨7 - π.length, by omega⟩
  have hk2 : k = 8 - ((v, s) :: π).length := by simp only [List.length_cons]; omega
  rw [hk, gm_win_none hl, hk2] at hw
  have step : ∀ e ∈ adj v, gm_win adj tgt ow w (8 - ((v, s) :: π).length) ((v, s) :: π) (tgt e) (s + w e) → ∃ s' π', gm_good n adj tgt ow w M ((tgt e, s') :: π') ∧ s' ≤ s + w e := by
    intro e he h
    refine gm_good_next hn hg (hT v hv e he) ?_ h
    have h1 := hM v hv e he
    have h2 : (((v, s) :: π).length : Int) * M = (π.length : Int) * M + M := by
      simp only [List.length_cons, Int.natCast_add, Int.natCast_one, Int.add_mul, Int.one_mul]
    rw [h2]
    omega
  refine ⟨fun ho => ?_, fun ho e he => step e he (hw.2 ho e he)⟩
  obtain ⟨e, he, h⟩ := hw.1 ho
  exact ⟨e, he, step e he h⟩
theorem gm_least (P : Nat → Prop) (h : ∃ k, P k) : ∃ k, P k ∧ ∀ j, P j → k ≤ j := by
  obtain ⟨k, hk⟩ := h
  have key : ∀ m, (∃ j, j ≤ m ∧ P j) → ∃ k, P k ∧ ∀ j, P j → k ≤ j := by
    intro m
    induction m with
    | zero =>
      rintro ⟨j, hj, hp⟩
      exact ⟨0, by rwa [show j = 0 by omega] at hp, fun _ _ => Nat.zero_le _⟩
    | succ m ih =>
      rintro ⟨j, hj, hp⟩
      by_cases hq : ∃ i, i ≤ m ∧ P i
      · exact ih hq
      · refine ⟨j, hp, fun i hi => ?_⟩
        rcases Nat.lt_or_ge i j with h | h
        · exact absurd ⟨i, by omega, hi⟩ hq
        · exact h
  exact key k ⟨k, Nat.le_refl k, hk⟩
/-- the won vertices have credits of at most (n - 1) * M that are enough -/
theorem gm_main (hn : n ≤ 7) (h0 : 0 ≤ M) (hT : ∀ v, v < n → ∀ e ∈ adj v, tgt e < n) (hM : ∀ v, v < n → ∀ e ∈ adj v, -M ≤ w e) :
    ∃ f : Nat → Int, ∀ v, v < n → gm_win adj tgt ow w 8 [] v 0 → (0 ≤ f v ∧ f v ≤ ((n : Int) - 1) * M) ∧ (ow v = true → ∃ e ∈ adj v, gm_win adj tgt ow w 8 [] (tgt e) 0 ∧ f (tgt e) ≤ f v + w e) ∧ (ow v = false → ∀ e ∈ adj v, gm_win adj tgt ow w 8 [] (tgt e) 0 ∧ f (tgt e) ≤ f v + w e) := by
  -- R v c: a good path ends in v with the sum c - C
  have hpos : ∀ v s π, gm_good n adj tgt ow w M ((v, s) :: π) → 0 ≤ s + ((n : Int) - 1) * M := by
    intro v s π hg
    have hlen := gm_ok_len (gm_good_ok hg)
    simp only [List.length_cons] at hlen
    have h1 : -((π.length : Int) * M) ≤ s := hg.2.2.2.1
    have h2 : (π.length : Int) * M ≤ ((n : Int) - 1) * M := Int.mul_le_mul_of_nonneg_right (by omega) h0
    omega
  let R : Nat → Nat → Prop := fun v c => ∃ s π, gm_good n adj tgt ow w M ((v, s) :: π) ∧ (c : Int) = s + ((n : Int) - 1) * M
  have hR : ∀ v s π, gm_good n adj tgt ow w M ((v, s) :: π) → R v (s + ((n : Int) - 1) * M).toNat := by
    intro v s π hg
    exact ⟨s, π, hg, Int.toNat_of_nonneg (hpos v s π hg)⟩
  have hex : ∀ v, ∃ c : Nat, (∃ c, R v c) → R v c ∧ ∀ j, R v j → c ≤ j := by
    intro v
    by_cases h : ∃ c, R v c
    · obtain ⟨c, h1, h2⟩ := gm_least (R v) h
      exact ⟨c, fun _ => ⟨h1, h2⟩⟩
    · exact ⟨0, fun h' => absurd h' h⟩
  obtain ⟨g, hg⟩ : ∃ g : Nat → Nat, ∀ v, (∃ c, R v c) → R v (g v) ∧ ∀ j, R v j → g v ≤ j := ⟨fun v => (hex v).choose, fun v => (hex v).choose_spec⟩
  have hnext : ∀ v e, (∃ c, R v c) → (∀ s π, gm_good n adj tgt ow w M ((v, s) :: π) → (s : Int) + ((n : Int) - 1) * M = g v → ∃ s' π', gm_good n adj tgt ow w M ((tgt e, s') :: π') ∧ s' ≤ s + w e) → (∃ c, R (tgt e) c) ∧ (g (tgt e) : Int) ≤ g v + w e := by
    intro v e hv h
    obtain ⟨⟨s, π, h1, h2⟩, h3⟩ := hg v hv
    obtain ⟨s', π', h4, h5⟩ := h s π h1 h2.symm
    have h6 := hR _ _ _ h4
    refine ⟨⟨_, h6⟩, ?_⟩
    have h7 := (hg (tgt e) ⟨_, h6⟩).2 _ h6
    have h8 := Int.toNat_of_nonneg (hpos _ _ _ h4)
    omega
  have hown : ∀ v, (∃ c, R v c) → ow v = true → ∃ e ∈ adj v, (∃ c, R (tgt e) c) ∧ (g (tgt e) : Int) ≤ g v + w e := by
    intro v hv ho
    obtain ⟨⟨s, π, h1, h2⟩, h3⟩ := hg v hv
    obtain ⟨e, he, s', π', h4, h5⟩ := (gm_good_step hn hT hM h1).1 ho
    have h6 := hR _ _ _ h4
    refine ⟨e, he, ⟨_, h6⟩, ?_⟩
    have h7 := (hg (tgt e) ⟨_, h6⟩).2 _ h6
    have h8 := Int.toNat_of_nonneg (hpos _ _ _ h4)
    omega
  have hopp : ∀ v, (∃ c, R v c) → ow v = false → ∀ e ∈ adj v, (∃ c, R (tgt e) c) ∧ (g (tgt e) : Int) ≤ g v + w e := by
    intro v hv ho e he
    exact hnext v e hv (fun s π h1 _ => (gm_good_step hn hT hM h1).2 ho e he)
  have hlt : ∀ v, (∃ c, R v c) → v < n := by
    rintro v ⟨c, s, π, h, -⟩
    exact h.2.1
  have hwin : ∀ v, (∃ c, R v c) → gm_win adj tgt ow w 8 [] v 0 := by
    intro v hv
    exact gm_fin_win hn (S := fun v => ∃ c, R v c) (f := fun v => (g v : Int)) hlt hown hopp 8 [] v 0 (by simp) ⟨List.nodup_nil, fun q h => by cases h⟩ hv (fun q h => by cases h)
  have hgd : ∀ v, v < n → gm_win adj tgt ow w 8 [] v 0 → R v (0 + ((n : Int) - 1) * M).toNat := by
    intro v hv hw
    exact hR v 0 [] ⟨hw, hv, rfl, by simp, trivial⟩
  refine ⟨fun v => (g v : Int), fun v hv hw => ?_⟩
  have hRv : ∃ c, R v c := ⟨_, hgd v hv hw⟩
  refine ⟨⟨by simp only; omega, ?_⟩, fun ho => ?_, fun ho e he => ?_⟩
  · have h1 := (hg v hRv).2 _ (hgd v hv hw)
    have h2 : 0 ≤ ((n : Int) - 1) * M := Int.mul_nonneg (by omega) h0
    simp only
    omega
  · obtain ⟨e, he, h1, h2⟩ := hown v hRv ho
    exact ⟨e, he, hwin _ h1, h2⟩
  · obtain ⟨h1, h2⟩ := hopp v hRv ho e he
    exact ⟨hwin _ h1, h2⟩
end GM
