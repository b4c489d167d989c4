/-! a text's part, told from the left with operators held back; and the same, level by level -/
def y_rank (c : Nat) : Nat := if c = 6 then 1 else if c = 7 then 2 else if c = 8 then 3 else if c = 9 ∨ c = 10 then 4 else if c = 11 ∨ c = 12 then 5 else if c = 13 then 6 else if c = 14 then 7 else 0
def y_unw (r : Nat) : List Nat → List Nat → Nat → List Nat × List Nat × Nat
  | [], L, o => ([], L, o)
  | c :: S, L, o => if y_rank c < r then (c :: S, L, o) else y_unw r S (L ++ [c]) (if c = 8 ∨ c = 14 then o - 1 else o)
def y_u (r : Nat) (U : List Nat × List Nat × Nat) : List Nat × List Nat × Nat := y_unw r U.1 U.2.1 U.2.2
abbrev y_op (t : Nat) : Prop := t = 6 ∨ t = 7 ∨ (9 ≤ t ∧ t ≤ 13)
abbrev y_top4 (S : List Nat) : Prop := y_rank (S.headD 0) = 4
def sy (tk : Nat → Nat) : Nat → Nat → Bool → Bool → List Nat × List Nat × Nat → Option (Nat × Option (List Nat))
  | 0, _, _, _, _ => none
  | n + 1, k, true, m, (S, L, o) =>
    if tk k < 6 ∨ 100 ≤ tk k then sy tk n (k + 1) false false (y_u 7 (S, L ++ [tk k], o))
    else if tk k = 8 ∧ m = true then (if o = 5 then some (k, none) else sy tk n (k + 1) true true (8 :: S, L, o + 1))
    else if tk k = 12 then (if o = 5 then some (k, none) else sy tk n (k + 1) true false (14 :: S, L, o + 1))
    else if tk k = 15 then (if o = 5 then some (k, none) else sy tk n (k + 1) true true (0 :: S, L, o + 1))
    else some (k, none)
  | n + 1, k, false, _, U =>
    if tk k = 17 then (if (y_u 1 U).1 = [] then some (k, some (y_u 1 U).2.1) else some (k, none))
    else if tk k = 16 then (if (y_u 1 U).1 = [] then some (k, none) else sy tk n (k + 1) false false (y_u 7 ((y_u 1 U).1.tail, (y_u 1 U).2.1, (y_u 1 U).2.2 - 1)))
    else if y_op (tk k) then
      (if y_rank (tk k) = 4 then
        (if y_top4 (y_u 5 U).1 then some (k, none) else sy tk n (k + 1) true false (tk k :: (y_u 5 U).1, (y_u 5 U).2.1, (y_u 5 U).2.2))
      else sy tk n (k + 1) true (decide (tk k < 8)) (tk k :: (y_u (y_rank (tk k)) U).1, (y_u (y_rank (tk k)) U).2.1, (y_u (y_rank (tk k)) U).2.2))
    else some (k, none)
theorem y_unw_u (r r' : Nat) (h : r ≤ r') : ∀ (S L : List Nat) (o : Nat), y_u r (y_unw r' S L o) = y_unw r S L o := by
  intro S
  induction S with
  | nil => intro L o; rfl
  | cons c S ih =>
    intro L o
    rw [y_unw, y_unw]
    by_cases c1 : y_rank c < r
    · rw [if_pos (by omega), if_pos c1, y_u, y_unw, if_pos c1]
    · rw [if_neg c1]
      by_cases c2 : y_rank c < r'
      · rw [if_pos c2, y_u, y_unw, if_neg c1]
      · rw [if_neg c2]; exact ih _ _
theorem y_u_u {r r' : Nat} (h : r ≤ r') (U : List Nat × List Nat × Nat) : y_u r (y_u r' U) = y_u r U := y_unw_u r r' h _ _ _
theorem y_u_eq {r r' : Nat} (h : r ≤ r') {U V : List Nat × List Nat × Nat} (e : y_u r' U = y_u r' V) : y_u r U = y_u r V := by
  rw [← y_u_u h U, ← y_u_u h V, e]
def y_low (b : Nat) : List Nat → Prop
  | [] => True
  | c :: _ => y_rank c < b
theorem y_low.up {b b' : Nat} (h : b ≤ b') {S : List Nat} (hl : y_low b S) : y_low b' S := by
  cases S with
  | nil => trivial
  | cons c S => exact Nat.lt_of_lt_of_le hl h
theorem y_low.u {b r : Nat} (h : b ≤ r) {S : List Nat} (hl : y_low b S) (L : List Nat) (o : Nat) : y_u r (S, L, o) = (S, L, o) := by
  cases S with
  | nil => rfl
  | cons c S => rw [y_u, y_unw, if_pos (Nat.lt_of_lt_of_le hl h)]
theorem y_low.n4 {S : List Nat} (hl : y_low 4 S) : ¬ y_top4 S := by
  cases S with
  | nil => exact fun h => absurd (show y_rank 0 = 4 from h) (by decide)
  | cons c S => exact fun h => by have h1 : y_rank c < 4 := hl; have h2 : y_rank c = 4 := h; omega
theorem y_u_cons {r c : Nat} (h : r ≤ y_rank c) (S L : List Nat) (o : Nat) : y_u r (c :: S, L, o) = y_u r (S, L ++ [c], if c = 8 ∨ c = 14 then o - 1 else o) := by
  rw [y_u, y_unw, if_neg (by omega)]; rfl
def y_r (t : Nat) : Nat := if t = 0 then 1 else if t = 1 then 2 else if t = 2 then 3 else if t = 3 then 5 else if t = 4 then 6 else 7
def y_p (t : Nat) : Nat := if t = 0 then 1 else if t = 1 then 2 else if t = 2 then 4 else if t = 3 then 5 else if t = 4 then 6 else 8
def y_N (j tok : Nat) (U : List Nat × List Nat × Nat) : Prop :=
  (j ≤ 4 → tok ≠ 13) ∧ (j ≤ 3 → tok ≠ 11 ∧ tok ≠ 12) ∧ (j ≤ 2 → (tok = 9 ∨ tok = 10) → y_top4 (y_u 5 U).1) ∧ (j ≤ 1 → tok ≠ 7) ∧ (j ≤ 0 → tok ≠ 6)
def y_pre (t : Nat) (m : Bool) (tok o : Nat) : Prop := if t ≤ 2 then m = true else (m = true → tok = 8 → o = 5)
/-- a well formed stretch of codes -/
def y_W (cs : List Nat) : Prop := (∀ d rest, t_dp (cs ++ rest) d = t_dp rest (d + 1)) ∧ ∀ c ∈ cs, t_ok c
def y_ok (tk : Nat → Nat) (t j o k : Nat) (L : List Nat) (k' : Nat) (cs : List Nat) : Prop :=
  k < k' ∧ cs.length + k ≤ k' ∧ y_W cs ∧ ∀ S m, y_low (y_p t) S → y_pre t m (tk k) o → ∃ U, (∀ n n', n + k = n' + k' → sy tk n k true m (S, L, o) = sy tk n' k' false false U) ∧ y_u (y_r t) U = y_u (y_r t) (S, L ++ cs, o) ∧ y_N j (tk k') U
def y_no (tk : Nat → Nat) (t o k : Nat) (L : List Nat) (k' : Nat) : Prop :=
  k ≤ k' ∧ ∀ S m, y_low (y_p t) S → y_pre t m (tk k) o → ∀ n, k' < n + k → sy tk n k true m (S, L, o) = some (k', none)
theorem y_W.one {c : Nat} (h : c < 6 ∨ 100 ≤ c) (h2 : c < 10100) : y_W [c] := ⟨fun d rest => by
  rw [List.singleton_append, t_dp.eq_def]
  dsimp only
  rw [if_pos (by omega)], fun x hx => by
  simp at hx; subst hx; unfold t_ok; omega⟩
theorem y_W.un {cs : List Nat} (h : y_W cs) {c : Nat} (hc : c = 8 ∨ c = 14) : y_W (cs ++ [c]) := ⟨fun d rest => by
  rw [List.append_assoc, h.1, List.singleton_append, t_dp.eq_def]
  dsimp only
  rw [if_neg (by omega), if_pos hc, if_neg (by omega)], fun x hx => by
  rw [List.mem_append, List.mem_singleton] at hx
  rcases hx with hx | rfl
  · exact h.2 x hx
  · unfold t_ok; omega⟩
theorem y_W.bin {cs ds : List Nat} (h : y_W cs) (h' : y_W ds) {c : Nat} (hc : y_op c) : y_W (cs ++ ds ++ [c]) := ⟨fun d rest => by
  unfold y_op at hc
  rw [List.append_assoc, List.append_assoc, h.1, h'.1, List.singleton_append, t_dp.eq_def]
  dsimp only
  rw [if_neg (by omega), if_neg (by omega), if_neg (by omega)]; rfl, fun x hx => by
  unfold y_op at hc
  rw [List.mem_append, List.mem_append, List.mem_singleton] at hx
  rcases hx with (hx | hx) | rfl
  · exact h.2 x hx
  · exact h'.2 x hx
  · unfold t_ok; omega⟩
section
variable {tk : Nat → Nat}
/-- an operand -/
theorem y_A1 (o k : Nat) (L : List Nat) (h : tk k < 6 ∨ 100 ≤ tk k) (h2 : tk k < 10100) : y_ok tk 5 5 o k L (k + 1) [tk k] := by
  refine ⟨by omega, by simp; omega, y_W.one h h2, fun S m _ _ => ⟨y_u 7 (S, L ++ [tk k], o), fun n n' hn => ?_, y_u_u (by decide) _, ?_⟩⟩
  · obtain rfl : n = n' + 1 := by omega
    rw [sy, if_pos h]
  · exact ⟨fun h => by omega, fun h => by omega, fun h => by omega, fun h => by omega, fun h => by omega⟩
/-- minus -/
theorem y_sy12 {n k : Nat} {m : Bool} {S L : List Nat} {o : Nat} (h : tk k = 12) (ho : o < 5) : sy tk (n + 1) k true m (S, L, o) = sy tk n (k + 1) true false (14 :: S, L, o + 1) := by
  rw [sy, if_neg (by omega), if_neg (by omega), if_pos h, if_neg (by omega)]
theorem y_sy15 {n k : Nat} {m : Bool} {S L : List Nat} {o : Nat} (h : tk k = 15) (ho : o < 5) : sy tk (n + 1) k true m (S, L, o) = sy tk n (k + 1) true true (0 :: S, L, o + 1) := by
  rw [sy, if_neg (by omega), if_neg (by omega), if_neg (by omega), if_pos h, if_neg (by omega)]
theorem y_sy8 {n k : Nat} {S L : List Nat} {o : Nat} (h : tk k = 8) (ho : o < 5) : sy tk (n + 1) k true true (S, L, o) = sy tk n (k + 1) true true (8 :: S, L, o + 1) := by
  rw [sy, if_neg (by omega), if_pos ⟨h, rfl⟩, if_neg (by omega)]
theorem y_A2 {o k k' : Nat} {L cs : List Nat} (h : tk k = 12) (ho : o < 5) (r : y_ok tk 5 5 (o + 1) (k + 1) L k' cs) : y_ok tk 5 5 o k L k' (cs ++ [14]) := by
  obtain ⟨a, b, c, d⟩ := r
  refine ⟨by omega, by simp; omega, c.un (Or.inr rfl), fun S m _ _ => ?_⟩
  obtain ⟨U, u1, u2, u3⟩ := d (14 :: S) false (show y_rank 14 < y_p 5 by decide) (by unfold y_pre; rw [if_neg (by decide)]; intro h; simp at h)
  refine ⟨U, fun n n' hn => ?_, ?_, u3⟩
  · obtain ⟨n, rfl⟩ : ∃ q, n = q + 1 := ⟨n - 1, by omega⟩
    rw [y_sy12 h ho]
    exact u1 n n' (by omega)
  · rw [u2, y_u_cons (by decide), if_pos (Or.inr rfl), List.append_assoc, Nat.add_sub_cancel]
theorem y_A2f {o k k' : Nat} {L : List Nat} (h : tk k = 12) (ho : o < 5) (r : y_no tk 5 (o + 1) (k + 1) L k') : y_no tk 5 o k L k' := by
  refine ⟨by have := r.1; omega, fun S m _ _ n hn => ?_⟩
  have := r.1
  obtain ⟨n, rfl⟩ : ∃ q, n = q + 1 := ⟨n - 1, by omega⟩
  rw [y_sy12 h ho]
  exact r.2 (14 :: S) false (show y_rank 14 < y_p 5 by decide) (by unfold y_pre; rw [if_neg (by decide)]; intro h; simp at h) n (by omega)
theorem y_A3 {o k k' : Nat} {L cs : List Nat} (h : tk k = 15) (ho : o < 5) (r : y_ok tk 0 0 (o + 1) (k + 1) L k' cs) (h' : tk k' = 16) : y_ok tk 5 5 o k L (k' + 1) cs := by
  obtain ⟨a, b, c, d⟩ := r
  refine ⟨by omega, by omega, c, fun S m _ _ => ?_⟩
  obtain ⟨U, u1, u2, u3⟩ := d (0 :: S) true (show y_rank 0 < y_p 0 by decide) (by unfold y_pre; rw [if_pos (by decide)])
  have e : y_u 1 U = (0 :: S, L ++ cs, o + 1) := u2.trans (y_low.u (b := 1) (S := 0 :: S) (Nat.le_refl _) (show y_rank 0 < 1 by decide) _ _)
  refine ⟨y_u 7 (S, L ++ cs, o), fun n n' hn => ?_, y_u_u (by decide) _, ?_⟩
  · obtain ⟨n, rfl⟩ : ∃ q, n = q + 1 := ⟨n - 1, by omega⟩
    rw [y_sy15 h ho, u1 n (n' + 1) (by omega), sy, if_neg (by omega), if_pos h', e, if_neg (by simp)]
    rfl
  · exact ⟨fun h => by omega, fun h => by omega, fun h => by omega, fun h => by omega, fun h => by omega⟩
/-- the end of a level 0: no other sign goes on -/
theorem y_end {U : List Nat × List Nat × Nat} {k n : Nat} {m : Bool} (h : y_N 0 (tk k) U) (h6 : tk k ≠ 16) (h7 : tk k ≠ 17) : sy tk (n + 1) k false m U = some (k, none) := by
  obtain ⟨a, b, c, d, e⟩ := h
  have a := a (by omega); have b := b (by omega); have c := c (by omega); have d := d (by omega); have e := e (by omega)
  rw [sy, if_neg h7, if_neg h6]
  by_cases ho : y_op (tk k)
  · have h9 : tk k = 9 ∨ tk k = 10 := by unfold y_op at ho; omega
    rw [if_pos ho, if_pos (by rcases h9 with h | h <;> rw [h] <;> decide), if_pos (c h9)]
  · rw [if_neg ho]
theorem y_A3n {o k k' : Nat} {L cs : List Nat} (h : tk k = 15) (ho : o < 5) (r : y_ok tk 0 0 (o + 1) (k + 1) L k' cs) (h' : tk k' ≠ 16) : y_no tk 5 o k L k' := by
  obtain ⟨a, b, c, d⟩ := r
  refine ⟨by omega, fun S m _ _ n hn => ?_⟩
  obtain ⟨U, u1, u2, u3⟩ := d (0 :: S) true (show y_rank 0 < y_p 0 by decide) (by unfold y_pre; rw [if_pos (by decide)])
  have e : y_u 1 U = (0 :: S, L ++ cs, o + 1) := u2.trans (y_low.u (b := 1) (S := 0 :: S) (Nat.le_refl _) (show y_rank 0 < 1 by decide) _ _)
  obtain ⟨n, rfl⟩ : ∃ q, n = q + 1 := ⟨n - 1, by omega⟩
  obtain ⟨n', hn'⟩ : ∃ n', n + (k + 1) = n' + 1 + k' := ⟨n + k - k', by omega⟩
  rw [y_sy15 h ho, u1 n (n' + 1) hn']
  by_cases h7 : tk k' = 17
  · rw [sy, if_pos h7, e, if_neg (by simp)]
  · exact y_end u3 h' h7
theorem y_A3f {o k k' : Nat} {L : List Nat} (h : tk k = 15) (ho : o < 5) (r : y_no tk 0 (o + 1) (k + 1) L k') : y_no tk 5 o k L k' := by
  refine ⟨by have := r.1; omega, fun S m _ _ n hn => ?_⟩
  have := r.1
  obtain ⟨n, rfl⟩ : ∃ q, n = q + 1 := ⟨n - 1, by omega⟩
  rw [y_sy15 h ho]
  exact r.2 (0 :: S) true (show y_rank 0 < y_p 0 by decide) (by unfold y_pre; rw [if_pos (by decide)]) n (by omega)
theorem y_A4 {o k : Nat} {L : List Nat} (ho : o ≤ 5) (h1 : ¬(tk k < 6 ∨ 100 ≤ tk k)) (h2 : ¬(tk k = 12 ∧ o < 5)) (h3 : ¬(tk k = 15 ∧ o < 5)) : y_no tk 5 o k L k := by
  refine ⟨Nat.le_refl _, fun S m _ hp n hn => ?_⟩
  obtain ⟨n, rfl⟩ : ∃ q, n = q + 1 := ⟨n - 1, by omega⟩
  rw [sy, if_neg h1]
  unfold y_pre at hp
  rw [if_neg (by decide)] at hp
  by_cases c8 : tk k = 8 ∧ m = true
  · rw [if_pos c8, if_pos (hp c8.2 c8.1)]
  · rw [if_neg c8]
    by_cases c12 : tk k = 12
    · rw [if_pos c12, if_pos (by omega)]
    · rw [if_neg c12]
      by_cases c15 : tk k = 15
      · rw [if_pos c15, if_pos (by omega)]
      · rw [if_neg c15]
/-- the levels with a row of operators -/
theorem y_L0 {t o k k' : Nat} {L cs : List Nat} (ht : t = 0 ∨ t = 1 ∨ t = 3 ∨ t = 4) (r : y_ok tk (t + 1) (t + 1) o k L k' cs) : y_ok tk t (t + 1) o k L k' cs := by
  obtain ⟨a, b, c, d⟩ := r
  refine ⟨a, b, c, fun S m hl hp => ?_⟩
  obtain ⟨U, u1, u2, u3⟩ := d S m (hl.up (by rcases ht with rfl | rfl | rfl | rfl <;> decide)) (by
    unfold y_pre at hp ⊢
    rcases ht with rfl | rfl | rfl | rfl <;> simpa using hp)
  exact ⟨U, u1, y_u_eq (by rcases ht with rfl | rfl | rfl | rfl <;> decide) u2, u3⟩
theorem y_L0f {t o k k' : Nat} {L : List Nat} (ht : t = 0 ∨ t = 1 ∨ t = 3 ∨ t = 4) (r : y_no tk (t + 1) o k L k') : y_no tk t o k L k' := by
  refine ⟨r.1, fun S m hl hp => r.2 S m (hl.up (by rcases ht with rfl | rfl | rfl | rfl <;> decide)) (by
    unfold y_pre at hp ⊢
    rcases ht with rfl | rfl | rfl | rfl <;> simpa using hp)⟩
def y_ops (t op : Nat) : Prop := (t = 0 ∧ op = 6) ∨ (t = 1 ∧ op = 7) ∨ (t = 3 ∧ (op = 11 ∨ op = 12)) ∨ (t = 4 ∧ op = 13)
theorem y_ops_ok {t op : Nat} (h : y_ops t op) : y_op op ∧ y_rank op = y_r t ∧ y_rank op ≠ 4 ∧ op ≠ 16 ∧ op ≠ 17 ∧ ¬(op = 8 ∨ op = 14) ∧ y_rank op < y_p (t + 1) ∧ y_p t ≤ y_r t ∧ y_r t ≤ y_r (t + 1) ∧ y_pre (t + 1) (decide (op < 8)) 0 0 ∧ (2 < t + 1 → decide (op < 8) = false) := by
  rcases h with ⟨rfl, rfl⟩ | ⟨rfl, rfl⟩ | ⟨rfl, rfl | rfl⟩ | ⟨rfl, rfl⟩ <;> (refine ⟨by decide, by decide, by decide, by decide, by decide, by decide, by decide, by decide, by decide, ?_, by decide⟩; unfold y_pre; simp)
theorem y_syop {t n k : Nat} {m : Bool} {S X : List Nat} {o : Nat} {U : List Nat × List Nat × Nat} (hop : y_ops t (tk k)) (hl : y_low (y_p t) S) (u : y_u (y_r t) U = y_u (y_r t) (S, X, o)) : sy tk (n + 1) k false m U = sy tk n (k + 1) true (decide (tk k < 8)) (tk k :: S, X, o) := by
  obtain ⟨o1, o2, o3, o4, o5, o6, o7, o8, o9, _, _⟩ := y_ops_ok hop
  rw [sy, if_neg o5, if_neg o4, if_pos o1, if_neg o3, o2, u, hl.u o8]
theorem y_L1 {t o k0 k k' : Nat} {L acc cs : List Nat} (hop : y_ops t (tk k)) (r : y_ok tk t (t + 1) o k0 L k acc) (s : y_ok tk (t + 1) (t + 1) o (k + 1) (L ++ acc) k' cs) : y_ok tk t (t + 1) o k0 L k' (acc ++ cs ++ [tk k]) := by
  obtain ⟨o1, o2, o3, o4, o5, o6, o7, o8, o9, oa, ob⟩ := y_ops_ok hop
  obtain ⟨a, b, c, d⟩ := r
  obtain ⟨a', b', c', d'⟩ := s
  refine ⟨by omega, by simp; omega, c.bin c' o1, fun S m hl hp => ?_⟩
  obtain ⟨U, u1, u2, u3⟩ := d S m hl hp
  obtain ⟨V, v1, v2, v3⟩ := d' (tk k :: S) (decide (tk k < 8)) o7 (by
    unfold y_pre at oa ⊢
    by_cases c : t + 1 ≤ 2
    · rw [if_pos c] at oa ⊢; exact oa
    · rw [if_neg c]; intro hh; rw [ob (by omega)] at hh; exact absurd hh (by decide))
  refine ⟨V, fun n n' hn => ?_, ?_, v3⟩
  · obtain ⟨q, hq⟩ : ∃ q, n + k0 = q + 1 + k := ⟨n' + k' - k - 1, by omega⟩
    rw [u1 n (q + 1) hq, y_syop hop hl u2]
    exact v1 q n' (by omega)
  · rw [y_u_eq o9 v2, y_u_cons (by rw [o2]; exact Nat.le_refl _), if_neg o6]
    simp only [List.append_assoc]
theorem y_L1f {t o k0 k k' : Nat} {L acc : List Nat} (hop : y_ops t (tk k)) (r : y_ok tk t (t + 1) o k0 L k acc) (s : y_no tk (t + 1) o (k + 1) (L ++ acc) k') : y_no tk t o k0 L k' := by
  obtain ⟨o1, o2, o3, o4, o5, o6, o7, o8, o9, oa, ob⟩ := y_ops_ok hop
  obtain ⟨a, b, c, d⟩ := r
  have s1 := s.1
  refine ⟨by omega, fun S m hl hp n hn => ?_⟩
  obtain ⟨U, u1, u2, u3⟩ := d S m hl hp
  obtain ⟨q, hq⟩ : ∃ q, n + k0 = q + 1 + k := ⟨n + k0 - k - 1, by omega⟩
  rw [u1 n (q + 1) hq, y_syop hop hl u2]
  exact s.2 (tk k :: S) (decide (tk k < 8)) o7 (by
    unfold y_pre at oa ⊢
    by_cases c : t + 1 ≤ 2
    · rw [if_pos c] at oa ⊢; exact oa
    · rw [if_neg c]; intro hh; rw [ob (by omega)] at hh; exact absurd hh (by decide)) q (by omega)
theorem y_L2 {t o k0 k : Nat} {L acc : List Nat} (ht : t = 0 ∨ t = 1 ∨ t = 3 ∨ t = 4) (hop : ¬ y_ops t (tk k)) (r : y_ok tk t (t + 1) o k0 L k acc) : y_ok tk t t o k0 L k acc := by
  obtain ⟨a, b, c, d⟩ := r
  refine ⟨a, b, c, fun S m hl hp => ?_⟩
  obtain ⟨U, u1, u2, u3, u4, u5, u6, u7⟩ := d S m hl hp
  unfold y_ops at hop
  refine ⟨U, u1, u2, fun h => ?_, fun h => ?_, fun h => u5 (by omega), fun h => ?_, fun h => ?_⟩
  · by_cases e : t = 4
    · omega
    · exact u3 (by omega)
  · by_cases e : t = 3
    · omega
    · exact u4 (by omega)
  · by_cases e : t = 1
    · omega
    · exact u6 (by omega)
  · omega
/-- not, and the two signs of likeness -/
theorem y_N1 {o k k' : Nat} {L cs : List Nat} (h : tk k = 8) (ho : o < 5) (r : y_ok tk 2 2 (o + 1) (k + 1) L k' cs) : y_ok tk 2 2 o k L k' (cs ++ [8]) := by
  obtain ⟨a, b, c, d⟩ := r
  refine ⟨by omega, by simp; omega, c.un (Or.inl rfl), fun S m hl hp => ?_⟩
  unfold y_pre at hp
  rw [if_pos (by decide)] at hp
  subst hp
  obtain ⟨U, u1, u2, u3⟩ := d (8 :: S) true (show y_rank 8 < y_p 2 by decide) (by unfold y_pre; rw [if_pos (by decide)])
  refine ⟨U, fun n n' hn => ?_, ?_, u3⟩
  · obtain ⟨n, rfl⟩ : ∃ q, n = q + 1 := ⟨n - 1, by omega⟩
    rw [y_sy8 h ho]
    exact u1 n n' (by omega)
  · rw [u2, y_u_cons (by decide), if_pos (Or.inl rfl), List.append_assoc, Nat.add_sub_cancel]
theorem y_N1f {o k k' : Nat} {L : List Nat} (h : tk k = 8) (ho : o < 5) (r : y_no tk 2 (o + 1) (k + 1) L k') : y_no tk 2 o k L k' := by
  have := r.1
  refine ⟨by omega, fun S m hl hp n hn => ?_⟩
  unfold y_pre at hp
  rw [if_pos (by decide)] at hp
  subst hp
  obtain ⟨n, rfl⟩ : ∃ q, n = q + 1 := ⟨n - 1, by omega⟩
  rw [y_sy8 h ho]
  exact r.2 (8 :: S) true (show y_rank 8 < y_p 2 by decide) (by unfold y_pre; rw [if_pos (by decide)]) n (by omega)
theorem y_pre3 {k o : Nat} {m : Bool} (h8 : tk k = 8 → o = 5) : y_pre 3 m (tk k) o := by unfold y_pre; rw [if_neg (by decide)]; exact fun _ => h8
theorem y_N2 {o k k1 : Nat} {L cs : List Nat} (h8 : tk k = 8 → o = 5) (r : y_ok tk 3 3 o k L k1 cs) (h9 : ¬(tk k1 = 9 ∨ tk k1 = 10)) : y_ok tk 2 2 o k L k1 cs := by
  obtain ⟨a, b, c, d⟩ := r
  refine ⟨a, b, c, fun S m hl hp => ?_⟩
  obtain ⟨U, u1, u2, u3, u4, u5⟩ := d S m (hl.up (by decide)) (y_pre3 h8)
  exact ⟨U, u1, y_u_eq (by decide) u2, fun _ => u3 (by decide), fun _ => u4 (by decide), fun _ h => absurd h h9, fun h => absurd h (by decide), fun h => absurd h (by decide)⟩
theorem y_N2f {o k k1 : Nat} {L : List Nat} (h8 : tk k = 8 → o = 5) (r : y_no tk 3 o k L k1) : y_no tk 2 o k L k1 :=
  ⟨r.1, fun S m hl hp => r.2 S m (hl.up (by decide)) (y_pre3 h8)⟩
theorem y_sy9 {n k : Nat} {m : Bool} {S X : List Nat} {o : Nat} {U : List Nat × List Nat × Nat} (h9 : tk k = 9 ∨ tk k = 10) (hl : y_low 4 S) (u : y_u 5 U = y_u 5 (S, X, o)) : sy tk (n + 1) k false m U = sy tk n (k + 1) true false (tk k :: S, X, o) := by
  have hr : y_rank (tk k) = 4 := by rcases h9 with h | h <;> rw [h] <;> decide
  rw [sy, if_neg (by omega), if_neg (by omega), if_pos (by unfold y_op; omega), if_pos hr, u, hl.u (by decide), if_neg hl.n4]
theorem y_pre3f (m : Bool) (hm : m = false) (tok o : Nat) : y_pre 3 m tok o := by unfold y_pre; rw [if_neg (by decide)]; intro h; rw [hm] at h; exact absurd h (by decide)
theorem y_N3 {o k k1 k2 : Nat} {L cs ds : List Nat} (h8 : tk k = 8 → o = 5) (h9 : tk k1 = 9 ∨ tk k1 = 10) (r : y_ok tk 3 3 o k L k1 cs) (s : y_ok tk 3 3 o (k1 + 1) (L ++ cs) k2 ds) : y_ok tk 2 2 o k L k2 (cs ++ ds ++ [tk k1]) := by
  have hr : y_rank (tk k1) = 4 := by rcases h9 with h | h <;> rw [h] <;> decide
  obtain ⟨a, b, c, d⟩ := r
  obtain ⟨a', b', c', d'⟩ := s
  refine ⟨by omega, by simp; omega, c.bin c' (by unfold y_op; omega), fun S m hl hp => ?_⟩
  obtain ⟨U, u1, u2, u3⟩ := d S m (hl.up (by decide)) (y_pre3 h8)
  obtain ⟨V, v1, v2, v3, v4, v5⟩ := d' (tk k1 :: S) false (show y_rank (tk k1) < y_p 3 by rw [hr]; decide) (y_pre3f _ rfl _ _)
  have e5 : y_u 5 V = (tk k1 :: S, L ++ cs ++ ds, o) := by
    rw [show y_u 5 V = y_u 5 (tk k1 :: S, L ++ cs ++ ds, o) from v2]
    exact y_low.u (b := 5) (S := tk k1 :: S) (Nat.le_refl _) (show y_rank (tk k1) < 5 by rw [hr]; decide) _ _
  refine ⟨V, fun n n' hn => ?_, ?_, fun _ => v3 (by decide), fun _ => v4 (by decide), fun _ _ => ?_, fun h => absurd h (by decide), fun h => absurd h (by decide)⟩
  · obtain ⟨q, hq⟩ : ∃ q, n + k = q + 1 + k1 := ⟨n' + k2 - k1 - 1, by omega⟩
    rw [u1 n (q + 1) hq, y_sy9 h9 hl u2]
    exact v1 q n' (by omega)
  · rw [y_u_eq (r := y_r 2) (r' := 5) (by decide) (v2 : y_u 5 V = _), y_u_cons (by rw [hr]; decide), if_neg (by omega)]
    simp only [List.append_assoc]
  · rw [e5]; exact hr
theorem y_N3f {o k k1 k2 : Nat} {L cs : List Nat} (h8 : tk k = 8 → o = 5) (h9 : tk k1 = 9 ∨ tk k1 = 10) (r : y_ok tk 3 3 o k L k1 cs) (s : y_no tk 3 o (k1 + 1) (L ++ cs) k2) : y_no tk 2 o k L k2 := by
  have hr : y_rank (tk k1) = 4 := by rcases h9 with h | h <;> rw [h] <;> decide
  obtain ⟨a, b, c, d⟩ := r
  have s1 := s.1
  refine ⟨by omega, fun S m hl hp n hn => ?_⟩
  obtain ⟨U, u1, u2, u3⟩ := d S m (hl.up (by decide)) (y_pre3 h8)
  obtain ⟨q, hq⟩ : ∃ q, n + k = q + 1 + k1 := ⟨n + k - k1 - 1, by omega⟩
  rw [u1 n (q + 1) hq, y_sy9 h9 hl u2]
  exact s.2 (tk k1 :: S) false (show y_rank (tk k1) < y_p 3 by rw [hr]; decide) (y_pre3f _ rfl _ _) q (by omega)
/-- a whole part -/
theorem y_P {k k' : Nat} {L cs : List Nat} (r : y_ok tk 0 0 0 k L k' cs) {n : Nat} (hn : k' < n + k) : sy tk n k true true ([], L, 0) = some (k', if tk k' = 17 then some (L ++ cs) else none) := by
  obtain ⟨a, b, c, d⟩ := r
  obtain ⟨U, u1, u2, u3⟩ := d [] true trivial (by unfold y_pre; rw [if_pos (by decide)])
  have e : y_u 1 U = ([], L ++ cs, 0) := u2
  obtain ⟨q, hq⟩ : ∃ q, n + k = q + 1 + k' := ⟨n + k - k' - 1, by omega⟩
  rw [u1 n (q + 1) hq]
  by_cases h7 : tk k' = 17
  · rw [sy, if_pos h7, e, if_pos rfl, if_pos h7]
  · rw [if_neg h7]
    by_cases h6 : tk k' = 16
    · rw [sy, if_neg h7, if_pos h6, e, if_pos rfl]
    · exact y_end u3 h6 h7
theorem y_Pf {k k' : Nat} {L : List Nat} (r : y_no tk 0 0 k L k') {n : Nat} (hn : k' < n + k) : sy tk n k true true ([], L, 0) = some (k', none) :=
  r.2 [] true trivial (by unfold y_pre; rw [if_pos (by decide)]) n hn
end
