/-! ===== the reference's world: 13 cells at bd 0 .. bd 12; d.1 k j: ints (d.1 0: thrown, vertices, edges, known), d.2 k j: longs ===== -/
abbrev mT : Type := (Nat → Nat → Int32) × (Nat → Nat → Int64)
abbrev mw_a (en : en_T) (bd : Nat → Nat) (d : mT) (k L : Nat) : Nat × va_E := (bd k, .inl (en.2.1, L, .inl (d.1 k)))
abbrev mw_b (en : en_T) (bd : Nat → Nat) (d : mT) (k L : Nat) : Nat × va_E := (bd k, .inl (en.2.2.1, L, .inr (.inl (d.2 k))))
def mw (en : en_T) (bd : Nat → Nat) (d : mT) : va_W :=
  [(bd 0, .inr (5, [.int (d.1 0 0), .int (d.1 0 1), .ref (bd 1), .ref (bd 2), .int (d.1 0 2), .ref (bd 3), .ref (bd 4), .ref (bd 5), .int (d.1 0 3), .ref (bd 6), .ref (bd 7), .ref (bd 8), .ref (bd 9), .ref (bd 10), .ref (bd 11), .ref (bd 12)])),
   mw_a en bd d 1 7, mw_a en bd d 2 7, mw_a en bd d 3 24, mw_a en bd d 4 24, mw_a en bd d 5 24, mw_a en bd d 6 7, mw_a en bd d 7 7, mw_b en bd d 8 7, mw_b en bd d 9 7, mw_a en bd d 10 7, mw_a en bd d 11 7, mw_a en bd d 12 7]
def mw_l : Nat → Nat
  | 1 => 7 | 2 => 7 | 3 => 24 | 4 => 24 | 5 => 24 | 6 => 7 | 7 => 7 | 10 => 7 | 11 => 7 | 12 => 7
  | _ => 0
def mw_q : Nat → Nat
  | 8 => 7 | 9 => 7
  | _ => 0
theorem mw_at {en : en_T} {bd : Nat → Nat} {d : mT} : ∀ k, 0 < mw_l k → (mw en bd d)[k]? = some (bd k, .inl (en.2.1, mw_l k, .inl (d.1 k)))
  | 1, _ => rfl | 2, _ => rfl | 3, _ => rfl | 4, _ => rfl | 5, _ => rfl | 6, _ => rfl | 7, _ => rfl | 10, _ => rfl | 11, _ => rfl | 12, _ => rfl
  | 0, h | 8, h | 9, h => absurd h (by decide)
  | _ + 13, h => absurd h (by simp [mw_l])
theorem mw_set {en : en_T} {bd : Nat → Nat} {d : mT} {g : Nat → Int32} : ∀ k, 0 < mw_l k → (mw en bd d).set k (bd k, .inl (en.2.1, mw_l k, .inl g)) = mw en bd (va_up d.1 k g, d.2)
  | 1, _ => rfl | 2, _ => rfl | 3, _ => rfl | 4, _ => rfl | 5, _ => rfl | 6, _ => rfl | 7, _ => rfl | 10, _ => rfl | 11, _ => rfl | 12, _ => rfl
  | 0, h | 8, h | 9, h => absurd h (by decide)
  | _ + 13, h => absurd h (by simp [mw_l])
theorem mw_atL {en : en_T} {bd : Nat → Nat} {d : mT} : ∀ k, 0 < mw_q k → (mw en bd d)[k]? = some (bd k, .inl (en.2.2.1, mw_q k, .inr (.inl (d.2 k))))
  | 8, _ => rfl | 9, _ => rfl
  | 0, h | 1, h | 2, h | 3, h | 4, h | 5, h | 6, h | 7, h => absurd h (by decide)
  | _ + 10, h => absurd h (by simp [mw_q])
theorem mw_setL {en : en_T} {bd : Nat → Nat} {d : mT} {g : Nat → Int64} : ∀ k, 0 < mw_q k → (mw en bd d).set k (bd k, .inl (en.2.2.1, mw_q k, .inr (.inl g))) = mw en bd (d.1, va_up d.2 k g)
  | 8, _ => rfl | 9, _ => rfl
  | 0, h | 1, h | 2, h | 3, h | 4, h | 5, h | 6, h | 7, h => absurd h (by decide)
  | _ + 10, h => absurd h (by simp [mw_q])
theorem mw_fst {en : en_T} {bd : Nat → Nat} {d : mT} {k : Nat} {q : Nat × va_E} (h : (mw en bd d)[k]? = some q) : k < 13 ∧ q.1 = bd k := by
  have hm : ((mw en bd d).map Prod.fst)[k]? = some q.1 := by rw [List.getElem?_map, h]; rfl
  have he : (mw en bd d).map Prod.fst = (List.range 13).map bd := rfl
  rw [he, List.getElem?_map] at hm
  by_cases hk : k < 13
  · rw [List.getElem?_range hk] at hm
    exact ⟨hk, (Option.some.inj hm).symm⟩
  · rw [List.getElem?_eq_none (by rw [List.length_range]; omega)] at hm
    cases hm
def mw_A (bd : Nat → Nat) (sz : Nat) : Nat → Prop := fun q => (∃ k, k < 13 ∧ q = bd k) ∨ sz ≤ q
def mw_I (bd : Nat → Nat) : Prop := ∀ i j, i < 13 → j < 13 → bd i = bd j → i = j
theorem mw_D {en : en_T} {bd : Nat → Nat} {d : mT} {sz : Nat} (hI : mw_I bd) : va_D (mw_A bd sz) (mw en bd d) := by
  refine ⟨fun i j p q hp hq hpq => ?_, fun k q hq => ?_⟩
  · obtain ⟨a1, a2⟩ := mw_fst hp
    obtain ⟨b1, b2⟩ := mw_fst hq
    exact hI i j a1 b1 (by rw [← a2, ← b2, hpq])
  · obtain ⟨a1, a2⟩ := mw_fst hq
    exact Or.inl ⟨k, a1, a2⟩
theorem mw_up {bd : Nat → Nat} {sz sz' : Nat} (h : sz ≤ sz') : ∀ q, mw_A bd sz' q → mw_A bd sz q := fun _ hq => hq.elim Or.inl (fun h2 => Or.inr (Nat.le_trans h h2))
section MR
variable {p : Program} {l : Launch} {e : Env} {R : Room} {s : State} {m : MethodId} {args : Array Value} {below : List Frame} {meth : Method} {co : Code} {H : Heap} {locs : List Loc} {cells slots : Nat} {Q : State → Prop}
variable {cc : ByteArray} {pc : Nat} {ls : Array Slot} {rest st0 : List Value} {en : en_T} {bd : Nat → Nat} {d : mT} {H0 : Heap} {sz : Nat}
theorem mw_l24 (k : Nat) : mw_l k ≤ 24 := by unfold mw_l; split <;> omega
theorem mw_q7 (k : Nat) : mw_q k ≤ 7 := by unfold mw_q; split <;> omega
theorem mr_ild (hexec : p.tables.exec = Jvm.exec) (hb : co.code = cc) (hE : en_ok en s) (hP : va_P en.1 vwCl (mw en bd d) H) (k : Nat) (hk : 0 < mw_l k) (j : Nat) {i : Int32} (hi : i = nI j) (hj : j < mw_l k) (hdg : decode cc pc = .ok (.iaload, 1))
    (kk : W p l e R s m args below meth co H locs cells slots Q (F0 m (pc + 1) ls (.int (d.1 k j) :: rest))) : W p l e R s m args below meth co H locs cells slots Q (F0 m pc ls (.int i :: .ref (bd k) :: rest)) := by
  have h24 := mw_l24 k
  subst hi
  have hc : (nI j).toNatClampNeg = j := nI_clamp (by omega)
  refine va_iald hexec hb hE.1 hP k 0 (mw_at k hk) rfl (vp_in_nI hj (by omega)) hdg ?_
  rw [hc]
  exact kk
theorem mr_ist (hexec : p.tables.exec = Jvm.exec) (hb : co.code = cc) (hE : en_ok en s) (hP : va_P en.1 vwCl (mw en bd d) H) (hI : mw_I bd) (hS : va_S (mw_A bd sz) H0 H locs) (k : Nat) (hk : 0 < mw_l k) (j : Nat) {i x : Int32} (hi : i = nI j) (hj : j < mw_l k) (hdg : decode cc pc = .ok (.iastore, 1))
    (kk : ∀ (H1 : Heap) (locs1 : List Loc), va_P en.1 vwCl (mw en bd (va_up d.1 k (upd (d.1 k) j x), d.2)) H1 → va_S (mw_A bd sz) H0 H1 locs1 → W p l e R s m args below meth co H1 locs1 cells slots Q (F0 m (pc + 1) ls rest)) : W p l e R s m args below meth co H locs cells slots Q (F0 m pc ls (.int x :: .int i :: .ref (bd k) :: rest)) := by
  have h24 := mw_l24 k
  subst hi
  have hc : (nI j).toNatClampNeg = j := nI_clamp (by omega)
  refine va_iast hexec hb hE.1 hP (mw_D hI) hS k 0 (mw_at k hk) rfl (vp_in_nI hj (by omega)) hdg (fun H1 locs1 hP1 _ hS1 => ?_)
  rw [hc, mw_set k hk] at hP1
  exact kk H1 locs1 hP1 hS1
theorem mr_lld (hexec : p.tables.exec = Jvm.exec) (hb : co.code = cc) (hE : en_ok en s) (hP : va_P en.1 vwCl (mw en bd d) H) (k : Nat) (hk : 0 < mw_q k) (j : Nat) {i : Int32} (hi : i = nI j) (hj : j < mw_q k) (hdg : decode cc pc = .ok (.laload, 1))
    (kk : W p l e R s m args below meth co H locs cells slots Q (F0 m (pc + 1) ls (.long (d.2 k j) :: rest))) : W p l e R s m args below meth co H locs cells slots Q (F0 m pc ls (.int i :: .ref (bd k) :: rest)) := by
  have h24 := mw_q7 k
  subst hi
  have hc : (nI j).toNatClampNeg = j := nI_clamp (by omega)
  refine va_lald hexec hb hE.1 hP k 1 (mw_atL k hk) rfl (vp_in_nI hj (by omega)) hdg ?_
  rw [hc]
  exact kk
theorem mr_lst (hexec : p.tables.exec = Jvm.exec) (hb : co.code = cc) (hE : en_ok en s) (hP : va_P en.1 vwCl (mw en bd d) H) (hI : mw_I bd) (hS : va_S (mw_A bd sz) H0 H locs) (k : Nat) (hk : 0 < mw_q k) (j : Nat) {i : Int32} {x : Int64} (hi : i = nI j) (hj : j < mw_q k) (hdg : decode cc pc = .ok (.lastore, 1))
    (kk : ∀ (H1 : Heap) (locs1 : List Loc), va_P en.1 vwCl (mw en bd (d.1, va_up d.2 k (vp_updL (d.2 k) j x))) H1 → va_S (mw_A bd sz) H0 H1 locs1 → W p l e R s m args below meth co H1 locs1 cells slots Q (F0 m (pc + 1) ls rest)) : W p l e R s m args below meth co H locs cells slots Q (F0 m pc ls (.long x :: .int i :: .ref (bd k) :: rest)) := by
  have h24 := mw_q7 k
  subst hi
  have hc : (nI j).toNatClampNeg = j := nI_clamp (by omega)
  refine va_last hexec hb hE.1 hP (mw_D hI) hS k 1 (mw_atL k hk) rfl (vp_in_nI hj (by omega)) hdg (fun H1 locs1 hP1 _ hS1 => ?_)
  rw [hc, mw_setL k hk] at hP1
  exact kk H1 locs1 hP1 hS1
theorem mr_calli {post : Int32 → mT → Prop} {a : Array Value} {mc ms : Nat} (hr : va_Run p l e R s m args below meth co H locs cells slots mc ms (F0 m pc ls st0) rest (va_Qi post (fun d' t => va_P en.1 vwCl (mw en bd d') t.heap) (mw_A bd H.size) a) (mw_A bd H.size)) (hS : va_S (mw_A bd s.heap.size) s.heap H locs)
    (kk : ∀ (r : Int32) (d' : mT) (H1 : Heap) (locs1 : List Loc), post r d' → va_P en.1 vwCl (mw en bd d') H1 → va_S (mw_A bd s.heap.size) s.heap H1 locs1 → W p l e R s m args below meth co H1 locs1 (cells + mc) (slots + ms) Q (F0 m (pc + 3) ls (.int r :: rest))) : W p l e R s m args below meth co H locs cells slots Q (F0 m pc ls st0) := by
  refine va_calli hr hS (fun q _ h => mw_up hS.1 q h) (fun q h => mw_up hS.1 q h) (fun r u t H1 locs1 ht _ hw hB _ _ hS1 => ?_)
  rw [ht] at hB
  exact kk r u H1 locs1 hw hB hS1
theorem mr_callv {post : mT → Prop} {a : Array Value} {mc ms : Nat} (hr : va_Run p l e R s m args below meth co H locs cells slots mc ms (F0 m pc ls st0) rest (va_Qv post (fun d' t => va_P en.1 vwCl (mw en bd d') t.heap) (mw_A bd H.size) a) (mw_A bd H.size)) (hS : va_S (mw_A bd s.heap.size) s.heap H locs)
    (kk : ∀ (d' : mT) (H1 : Heap) (locs1 : List Loc), post d' → va_P en.1 vwCl (mw en bd d') H1 → va_S (mw_A bd s.heap.size) s.heap H1 locs1 → W p l e R s m args below meth co H1 locs1 (cells + mc) (slots + ms) Q (F0 m (pc + 3) ls rest)) : W p l e R s m args below meth co H locs cells slots Q (F0 m pc ls st0) := by
  refine va_callv hr hS (fun q _ h => mw_up hS.1 q h) (fun q h => mw_up hS.1 q h) (fun u t H1 locs1 ht _ hw hB _ _ hS1 => ?_)
  rw [ht] at hB
  exact kk u H1 locs1 hw hB hS1
end MR
