/-! the model's reader -/
theorem y_t_c {t : Nat} (h : t ≤ 22 ∨ 100 ≤ t) : (y_t t = 59 ↔ t = 17) ∧ (y_t t = 41 ↔ t = 16) ∧ (y_t t = 1 ↔ 100 ≤ t) ∧ (y_t t = 2 ↔ t < 6) ∧ (y_t t = 6 ↔ t = 8) ∧ (y_t t = 45 ↔ t = 12) ∧ (y_t t = 40 ↔ t = 15) ∧ (y_t t = 3 ↔ t = 18 ∨ t = 19 ∨ t = 20) ∧ (y_t t = 0 ↔ t = 21) := by
  rcases h with h | h
  · have : ∀ t, t < 23 → (y_t t = 59 ↔ t = 17) ∧ (y_t t = 41 ↔ t = 16) ∧ (y_t t = 1 ↔ 100 ≤ t) ∧ (y_t t = 2 ↔ t < 6) ∧ (y_t t = 6 ↔ t = 8) ∧ (y_t t = 45 ↔ t = 12) ∧ (y_t t = 40 ↔ t = 15) ∧ (y_t t = 3 ↔ t = 18 ∨ t = 19 ∨ t = 20) ∧ (y_t t = 0 ↔ t = 21) := by decide +kernel
    exact this t (by omega)
  · have e : y_t t = 1 := by rw [y_t, if_pos h]
    rw [e]
    refine ⟨⟨fun h => absurd h (by decide), fun h => by omega⟩, ⟨fun h => absurd h (by decide), fun h => by omega⟩, ⟨fun _ => h, fun _ => rfl⟩, ⟨fun h => absurd h (by decide), fun h => by omega⟩, ⟨fun h => absurd h (by decide), fun h => by omega⟩, ⟨fun h => absurd h (by decide), fun h => by omega⟩, ⟨fun h => absurd h (by decide), fun h => by omega⟩, ⟨fun h => absurd h (by decide), fun h => by omega⟩, ⟨fun h => absurd h (by decide), fun h => by omega⟩⟩
def y_so (v : Int32) : Int32 := if v = 4 then 11 else if v = 5 then 12 else if v = 60 then 14 else if v = 61 then 15 else if v = 43 then 16 else if v = 45 then 17 else if v = 42 then 18 else -1
theorem y_so_t {t : Nat} (h : t ≤ 22 ∨ 100 ≤ t) : y_so (y_t t) = if y_op t then nI (t_cm t) else -1 := by
  rcases h with h | h
  · have : ∀ t, t < 23 → y_so (y_t t) = if y_op t then nI (t_cm t) else -1 := by decide +kernel
    exact this t (by omega)
  · rw [y_t, if_pos h, if_neg (by omega)]; rfl
theorem s_X9_signOf (fu : Nat) (σ : ow_S) : f_X9_signOf fu σ = some (y_so (σ.1 56 26), σ) := by
  unfold f_X9_signOf y_so
  (repeat' split) <;> rfl
/-- what a held sign may be -/
def y_sg (c : Nat) : Prop := c = 0 ∨ (6 ≤ c ∧ c < 15)
theorem s_X9_rank (fu : Nat) {c : Nat} (hc : y_sg c) (σ : ow_S) : f_X9_rank fu (nI (t_cm c)) σ = some (nI (y_rank c), σ) := by
  unfold y_sg at hc
  rcases (show c = 0 ∨ c = 6 ∨ c = 7 ∨ c = 8 ∨ c = 9 ∨ c = 10 ∨ c = 11 ∨ c = 12 ∨ c = 13 ∨ c = 14 by omega) with rfl | rfl | rfl | rfl | rfl | rfl | rfl | rfl | rfl | rfl <;> rfl
theorem y_rank_le (c : Nat) : y_rank c ≤ 7 := by
  unfold y_rank
  (repeat' split) <;> decide
def m_stk (f : Nat → Int32) : List Nat → Prop
  | [] => True
  | c :: S => f S.length = nI (t_cm c) ∧ m_stk f S
theorem m_stk.up {f : Nat → Int32} {S : List Nat} {k : Nat} {v : Int32} (h : m_stk f S) (hk : S.length ≤ k) : m_stk (upd f k v) S := by
  induction S with
  | nil => trivial
  | cons c S ih =>
    have hl : S.length ≤ k := by simp at hk; omega
    have hne : S.length ≠ k := by simp at hk; omega
    exact ⟨by simp [upd, hne]; exact h.1, ih h.2 hl⟩
def y_cnt : List Nat → Nat
  | [] => 0
  | c :: S => (if c = 0 ∨ c = 8 ∨ c = 14 then 1 else 0) + y_cnt S
def mc (B : Nat → Nat) (n ru : Nat) (σ : ow_S) (S L : List Nat) (o : Nat) : Prop :=
  m_by σ B n ∧ m_tab σ ∧ σ.1 56 11 = nI ru ∧ σ.1 56 32 = nI L.length ∧ (∀ j, j < L.length → σ.1 62 (200 * ru + j) = nI (t_cm (L.getD j 0))) ∧ σ.1 56 30 = nI S.length ∧ m_stk (σ.1 71) S ∧ σ.1 56 31 = nI o ∧ (∀ c, c ∈ S → y_sg c) ∧ o = y_cnt S
def mw (ru : Nat) (σ σ' : ow_S) : Prop := (∀ c z, ¬(c = 56 ∧ ((24 ≤ z ∧ z ≤ 27) ∨ z = 30 ∨ z = 31 ∨ z = 32)) → ¬(c = 62 ∧ 200 * ru ≤ z ∧ z < 200 * ru + 200) → c ≠ 71 → σ'.1 c z = σ.1 c z) ∧ σ'.2 = σ.2
theorem mw.rf (ru : Nat) (σ : ow_S) : mw ru σ σ := ⟨fun _ _ _ _ _ => rfl, rfl⟩
theorem mw.tr {ru : Nat} {a b c : ow_S} (p : mw ru a b) (q : mw ru b c) : mw ru a c := ⟨fun k z h1 h2 h3 => (q.1 k z h1 h2 h3).trans (p.1 k z h1 h2 h3), q.2.trans p.2⟩
theorem m_lfr.m {ru : Nat} {a b : ow_S} (p : m_lfr a b) : mw ru a b := ⟨fun c z h1 _ _ => p.1 c z (by omega), p.2⟩
/-- the reader's place does not move -/
def mn (σ σ' : ow_S) : Prop := ∀ z, 24 ≤ z → z ≤ 27 → σ'.1 56 z = σ.1 56 z
theorem mn.tr {a b c : ow_S} (p : mn a b) (q : mn b c) : mn a c := fun z h1 h2 => (q z h1 h2).trans (p z h1 h2)
section
variable {B : Nat → Nat} {n ru : Nat}
theorem mc.fr {σ σ' : ow_S} {S L : List Nat} {o : Nat} (h : mc B n ru σ S L o) (w : m_lfr σ σ') : mc B n ru σ' S L o := by
  obtain ⟨a1, a2, a3, a4, a5, a6, a7, a8, a9⟩ := h
  have e71 : σ'.1 71 = σ.1 71 := funext fun z => w.1 71 z (by omega)
  exact ⟨a1.fr w, a2.fr w, (w.1 56 11 (by omega)).trans a3, (w.1 56 32 (by omega)).trans a4, fun j hj => (w.1 62 _ (by omega)).trans (a5 j hj), (w.1 56 30 (by omega)).trans a6, by rw [e71]; exact a7, (w.1 56 31 (by omega)).trans a8, a9⟩
theorem m_keep {σ : ow_S} {j : Nat} {v : Int32} (hj : j = 30 ∨ j = 31 ∨ j = 32) (h : m_by σ B n) (ht : m_tab σ) : m_by (ow_sI σ 56 j v) B n ∧ m_tab (ow_sI σ 56 j v) ∧ mw ru σ (ow_sI σ 56 j v) ∧ mn σ (ow_sI σ 56 j v) := by
  refine ⟨⟨by rw [g_56s, if_neg (by omega)]; exact h.1, h.2.1, fun i hi => by rw [g_k _ _ (show 61 ≠ 56 by decide)]; exact h.2.2.1 i hi, h.2.2.2⟩, fun i z h1 h2 => by rw [g_k _ _ (show 70 ≠ 56 by decide)]; exact ht i z h1 h2, ⟨fun c z h1 _ _ => ?_, rfl⟩, fun z h1 h2 => by rw [g_56s, if_neg (by omega)]⟩
  rw [g_if]
  by_cases e : c = 56
  · rw [if_pos e, if_neg (by omega), e]
  · rw [if_neg e]
theorem m_keep' {σ : ow_S} {a j : Nat} {v : Int32} (hj : a = 71 ∨ (a = 62 ∧ 200 * ru ≤ j ∧ j < 200 * ru + 200)) (h : m_by σ B n) (ht : m_tab σ) : m_by (ow_sI σ a j v) B n ∧ m_tab (ow_sI σ a j v) ∧ mw ru σ (ow_sI σ a j v) ∧ mn σ (ow_sI σ a j v) := by
  refine ⟨⟨by rw [g_k _ _ (show 56 ≠ a by omega)]; exact h.1, h.2.1, fun i hi => by rw [g_k _ _ (show 61 ≠ a by omega)]; exact h.2.2.1 i hi, h.2.2.2⟩, fun i z h1 h2 => by rw [g_k _ _ (show 70 ≠ a by omega)]; exact ht i z h1 h2, ⟨fun c z _ h2 h3 => ?_, rfl⟩, fun z h1 h2 => by rw [g_k _ _ (show 56 ≠ a by omega)]⟩
  rw [g_if]
  by_cases e : c = a
  · rw [if_pos e, if_neg (by omega), e]
  · rw [if_neg e]
theorem s_X9_puts (fu : Nat) (hru : ru < 6) {σ : ow_S} {S L : List Nat} {o : Nat} (h : mc B n ru σ S L o) (hl : L.length < 200) (c : Nat) : ∃ σ', f_X9_puts fu (nI (t_cm c)) σ = some σ' ∧ mc B n ru σ' S (L ++ [c]) o ∧ mw ru σ σ' ∧ mn σ σ' := by
  obtain ⟨a1, a2, a3, a4, a5, a6, a7, a8, a9⟩ := h
  obtain ⟨b1, b2, b3, b4⟩ := m_keep' (ru := ru) (σ := σ) (a := 62) (j := 200 * ru + L.length) (v := nI (t_cm c)) (by omega) a1 a2
  obtain ⟨c1, c2, c3, c4⟩ := m_keep (ru := ru) (σ := ow_sI σ 62 (200 * ru + L.length) (nI (t_cm c))) (j := 32) (v := nI (L.length + 1)) (by omega) b1 b2
  refine ⟨ow_sI (ow_sI σ 62 (200 * ru + L.length) (nI (t_cm c))) 56 32 (nI (L.length + 1)), ?_, ⟨c1, c2, ?_, ?_, ?_, ?_, ?_, ?_, a9⟩, b3.tr c3, b4.tr c4⟩
  · rw [f_X9_puts, a3, a4, show (200 : Int32) = nI 200 from rfl, n_mul, n_add, e_ckn _ (by omega) (by omega), n_cl (a := 200 * ru + L.length) (by omega), e_let, g_k _ _ (show 56 ≠ 62 by decide), a4, show (1 : Int32) = nI 1 from rfl, n_add, e_let]
  · rw [g_56s, if_neg (by decide), g_k _ _ (show 56 ≠ 62 by decide)]; exact a3
  · rw [g_same]; simp
  · intro j hj
    rw [g_k _ _ (show 62 ≠ 56 by decide), g_row]
    simp only [List.length_append, List.length_cons, List.length_nil] at hj
    by_cases e : j = L.length
    · subst e; simp [upd]
    · rw [List.getD_eq_getElem?_getD, List.getElem?_append_left (by omega), ← List.getD_eq_getElem?_getD, ← a5 j (by omega)]
      simp [upd, e]
  · rw [g_56s, if_neg (by decide), g_k _ _ (show 56 ≠ 62 by decide)]; exact a6
  · rw [g_k _ _ (show 71 ≠ 56 by decide), g_k _ _ (show 71 ≠ 62 by decide)]; exact a7
  · rw [g_56s, if_neg (by decide), g_k _ _ (show 56 ≠ 62 by decide)]; exact a8
theorem y_cnt_pos {c : Nat} {S : List Nat} (h : c = 0 ∨ c = 8 ∨ c = 14) : 1 ≤ y_cnt (c :: S) := by rw [y_cnt, if_pos h]; omega
theorem s_X9_unw (fu : Nat) (hru : ru < 6) {r : Nat} (hr : 1 ≤ r) (hr7 : r ≤ 7) : ∀ (S L : List Nat) (o fn : Nat) (σ : ow_S), mc B n ru σ S L o → S.length + L.length < 200 → S.length < fn → ∃ σ', L_X9_unwinds_0 fu fn (nI r) σ = some σ' ∧ mc B n ru σ' (y_unw r S L o).1 (y_unw r S L o).2.1 (y_unw r S L o).2.2 ∧ (y_unw r S L o).1.length + (y_unw r S L o).2.1.length = S.length + L.length ∧ mw ru σ σ' ∧ mn σ σ' := by
  intro S
  induction S with
  | nil =>
    intro L o fn σ h hl hf
    obtain ⟨fn, rfl⟩ : ∃ q, fn = q + 1 := ⟨fn - 1, by omega⟩
    refine ⟨σ, ?_, h, rfl, mw.rf ru σ, fun _ _ _ => rfl⟩
    rw [L_X9_unwinds_0, h.2.2.2.2.2.1, if_pos (by decide)]
  | cons c S ih =>
    intro L o fn σ h hl hf
    obtain ⟨fn, rfl⟩ : ∃ q, fn = q + 1 := ⟨fn - 1, by omega⟩
    have h0 := h
    obtain ⟨a1, a2, a3, a4, a5, a6, a7, a8, a9, a10⟩ := h
    simp only [List.length_cons] at a6 hl hf
    have hc : y_sg c := a9 c (by simp)
    have hrk := y_rank_le c
    have e := n_lt (a := y_rank c) (b := r) (by omega) (by omega)
    rw [L_X9_unwinds_0, a6, if_neg (nI_nle (by omega) (by omega)), show nI (S.length + 1) - (1 : Int32) = nI S.length from nI_pred _, e_ckn _ (by omega) (by omega), n_cl (a := S.length) (by omega), a7.1, s_X9_rank fu hc, e_cl, y_unw]
    simp only [e]
    by_cases c1 : y_rank c < r
    · rw [if_pos c1, if_pos c1]
      exact ⟨σ, rfl, h0, rfl, mw.rf ru σ, fun _ _ _ => rfl⟩
    · rw [if_neg c1, if_neg c1, a6, show nI (S.length + 1) - (1 : Int32) = nI S.length from nI_pred _, e_let, g_same, e_ckn _ (by omega) (by omega), n_cl (a := S.length) (by omega), g_k _ _ (show 71 ≠ 56 by decide), a7.1, e_let]
      have hc0 : c ≠ 0 := by
        rintro rfl
        exact c1 (show y_rank 0 < r by have : y_rank 0 = 0 := rfl; omega)
      have hcc : t_cm c = c + 5 := by
        unfold y_sg at hc
        unfold t_cm; rw [if_neg (by omega), if_neg (by omega)]
      have k13 : nI (t_cm c) = (13 : Int32) ↔ c = 8 := (n_eq (b := 13) (by unfold y_sg at hc; omega) (by decide)).trans (by omega)
      have k19 : nI (t_cm c) = (19 : Int32) ↔ c = 14 := (n_eq (b := 19) (by unfold y_sg at hc; omega) (by decide)).trans (by omega)
      obtain ⟨b1, b2, b3, b4⟩ := m_keep (ru := ru) (σ := σ) (j := 30) (v := nI S.length) (by omega) a1 a2
      have go : ∀ (s2 o' : Nat), s2 ≤ o → o' = o - s2 → o' = y_cnt S → ∃ σ', L_X9_unwinds_67 fu (L_X9_unwinds_0 fu fn) (nI r) (nI (t_cm c)) (nI o) (nI s2) (ow_sI σ 56 30 (nI S.length)) = some σ' ∧ mc B n ru σ' (y_unw r S (L ++ [c]) o').1 (y_unw r S (L ++ [c]) o').2.1 (y_unw r S (L ++ [c]) o').2.2 ∧ (y_unw r S (L ++ [c]) o').1.length + (y_unw r S (L ++ [c]) o').2.1.length = S.length + 1 + L.length ∧ mw ru σ σ' ∧ mn σ σ' := by
        intro s2 o' hs ho' hcn
        obtain ⟨d1, d2, d3, d4⟩ := m_keep (ru := ru) (σ := ow_sI σ 56 30 (nI S.length)) (j := 31) (v := nI o') (by omega) b1 b2
        rw [L_X9_unwinds_67, n_sub hs, ← ho', e_let]
        have m1 : mc B n ru (ow_sI (ow_sI σ 56 30 (nI S.length)) 56 31 (nI o')) S L o' := by
          refine ⟨d1, d2, ?_, ?_, ?_, ?_, ?_, g_same _ _ _ _, fun x hx => a9 x (by simp [hx]), hcn⟩
          · rw [g_56s, if_neg (by decide), g_56s, if_neg (by decide)]; exact a3
          · rw [g_56s, if_neg (by decide), g_56s, if_neg (by decide)]; exact a4
          · intro j hj
            rw [g_k _ _ (show 62 ≠ 56 by decide), g_k _ _ (show 62 ≠ 56 by decide)]; exact a5 j hj
          · rw [g_56s, if_neg (by decide), g_56s, if_pos rfl]
          · rw [g_k _ _ (show 71 ≠ 56 by decide), g_k _ _ (show 71 ≠ 56 by decide)]; exact a7.2
        obtain ⟨σ2, p2, m2, w2, n2⟩ := s_X9_puts fu hru m1 (by omega) c
        rw [p2, e_cv]
        obtain ⟨σ3, p3, m3, l3, w3, n3⟩ := ih (L ++ [c]) o' fn σ2 m2 (by simp; omega) (by omega)
        exact ⟨σ3, p3, m3, by rw [l3]; simp; omega, ((b3.tr d3).tr w2).tr w3, ((b4.tr d4).tr n2).tr n3⟩
      have a8' : (ow_sI σ 56 30 (nI S.length)).1 56 31 = nI o := by rw [g_56s, if_neg (by decide)]; exact a8
      simp only [k13, k19, L_X9_unwinds_62, a8']
      by_cases c8 : c = 8 ∨ c = 14
      · have hgo : ∀ K J : Option ow_S, (if c = 8 then K else if c = 14 then K else J) = K := by
          intro K J
          by_cases c1 : c = 8
          · rw [if_pos c1]
          · rw [if_neg c1, if_pos (by omega)]
        rw [hgo, if_pos c8]
        have hcn : o = 1 + y_cnt S := by rw [a10, y_cnt, if_pos (by omega)]
        exact go 1 (o - 1) (by omega) rfl (by omega)
      · rw [if_neg (fun h => c8 (Or.inl h)), if_neg (fun h => c8 (Or.inr h)), if_neg c8]
        have hcn : o = 0 + y_cnt S := by rw [a10, y_cnt, if_neg (by omega)]
        exact go 0 o (by omega) rfl (by omega)
theorem s_X9_unwinds (fu : Nat) (hfu : 1000 ≤ fu) (hru : ru < 6) {r : Nat} (hr : 1 ≤ r) (hr7 : r ≤ 7) {U : List Nat × List Nat × Nat} {σ : ow_S} (h : mc B n ru σ U.1 U.2.1 U.2.2) (hl : U.1.length + U.2.1.length < 200) : ∃ σ', f_X9_unwinds fu (nI r) σ = some σ' ∧ mc B n ru σ' (y_u r U).1 (y_u r U).2.1 (y_u r U).2.2 ∧ (y_u r U).1.length + (y_u r U).2.1.length = U.1.length + U.2.1.length ∧ mw ru σ σ' ∧ mn σ σ' :=
  s_X9_unw fu hru hr hr7 U.1 U.2.1 U.2.2 fu σ h hl (by omega)
theorem s_X9_holds (fu : Nat) {σ : ow_S} {S L : List Nat} {o o' c : Nat} (h : mc B n ru σ S L o) (hl : S.length < 200) (hc : y_sg c) (σ0 : ow_S) (h0 : σ0 = ow_sI σ 56 31 (nI o')) (ho : o' = y_cnt (c :: S)) : ∃ σ', f_X9_holds fu (nI (t_cm c)) σ0 = some σ' ∧ mc B n ru σ' (c :: S) L o' ∧ mw ru σ σ' ∧ mn σ σ' := by
  obtain ⟨a1, a2, a3, a4, a5, a6, a7, a8, a9, a10⟩ := h
  subst h0
  obtain ⟨z1, z2, z3, z4⟩ := m_keep (ru := ru) (σ := σ) (j := 31) (v := nI o') (by omega) a1 a2
  obtain ⟨b1, b2, b3, b4⟩ := m_keep' (ru := ru) (σ := ow_sI σ 56 31 (nI o')) (a := 71) (j := S.length) (v := nI (t_cm c)) (by omega) z1 z2
  obtain ⟨c1, c2, c3, c4⟩ := m_keep (ru := ru) (σ := ow_sI (ow_sI σ 56 31 (nI o')) 71 S.length (nI (t_cm c))) (j := 30) (v := nI (S.length + 1)) (by omega) b1 b2
  refine ⟨ow_sI (ow_sI (ow_sI σ 56 31 (nI o')) 71 S.length (nI (t_cm c))) 56 30 (nI (S.length + 1)), ?_, ⟨c1, c2, ?_, ?_, ?_, ?_, ⟨?_, ?_⟩, ?_, fun x hx => ?_, ho⟩, (z3.tr b3).tr c3, (z4.tr b4).tr c4⟩
  · rw [f_X9_holds, g_56s, if_neg (by decide), a6, e_ckn _ (by omega) hl, n_cl (a := S.length) (by omega), e_let, g_k _ _ (show 56 ≠ 71 by decide), g_56s, if_neg (by decide), a6, show (1 : Int32) = nI 1 from rfl, n_add, e_let]
  · rw [g_56s, if_neg (by decide), g_k _ _ (show 56 ≠ 71 by decide), g_56s, if_neg (by decide)]; exact a3
  · rw [g_56s, if_neg (by decide), g_k _ _ (show 56 ≠ 71 by decide), g_56s, if_neg (by decide)]; exact a4
  · intro j hj
    rw [g_k _ _ (show 62 ≠ 56 by decide), g_k _ _ (show 62 ≠ 71 by decide), g_k _ _ (show 62 ≠ 56 by decide)]; exact a5 j hj
  · rw [g_same]; simp
  · rw [g_k _ _ (show 71 ≠ 56 by decide), g_same]
  · rw [g_k _ _ (show 71 ≠ 56 by decide), g_row, g_k _ _ (show 71 ≠ 56 by decide)]
    exact a7.up (Nat.le_refl _)
  · rw [g_56s, if_neg (by decide), g_k _ _ (show 56 ≠ 71 by decide), g_same]
  · simp only [List.mem_cons] at hx
    rcases hx with rfl | hx
    · exact hc
    · exact a9 x hx
end
