/-! the class's reader, level by level -/
def ps (B : Nat → Nat) (n : Nat) : Nat → Nat
  | 0 => 0
  | k + 1 => lx_nx B n (ps B n k)
abbrev Tk (B : Nat → Nat) (n k : Nat) : Nat := lx_tk B n (ps B n k)
theorem ps_le (B : Nat → Nat) (n : Nat) : ∀ k, ps B n k ≤ n := by
  intro k
  induction k with
  | zero => exact Nat.zero_le _
  | succ k ih => exact (lx_nx_le B ih).2.1
theorem ps_lt (B : Nat → Nat) (n k : Nat) (h : Tk B n k ≠ 21) : ps B n k < ps B n (k + 1) := (lx_nx_le B (ps_le B n k)).2.2 h
theorem Tk_lt (B : Nat → Nat) (n k : Nat) : Tk B n k < 10100 := by have := lx_tk_ok B n (ps B n k); show lx_tk B n (ps B n k) < 10100; omega
def xq (B : Nat → Nat) (n h : Nat) (σ : ow_S) (k : Nat) (L : List Nat) : Prop :=
  x_by σ B n ∧ σ.2.2 7 6 = some h ∧ σ.1 7 5 = -1 ∧ σ.1 7 2 = nI (ps B n (k + 1)) ∧ σ.1 7 3 = nI (Tk B n k) ∧ σ.1 7 4 = nI (lx_pl B n (ps B n k)) ∧ k ≤ ps B n k ∧ L.length ≤ k ∧ σ.1 h 2 = nI L.length ∧ ∀ j, j < L.length → σ.1 (h + 1) j = nI (L.getD j 0)
def xz (B : Nat → Nat) (n h : Nat) (σ : ow_S) (k : Nat) : Prop :=
  σ.1 7 3 = 22 ∧ σ.1 7 5 = nI (lx_pl B n (ps B n k)) ∧ σ.2.2 7 6 = some h ∧ σ.1 7 1 = nI n ∧ (∃ m, m ≤ 160 ∧ σ.1 h 2 = nI m) ∧ k ≤ 160
def xw (h : Nat) (σ σ' : ow_S) : Prop := (∀ c z, c ≠ h + 1 → ¬(c = h ∧ z = 2) → ¬(c = 7 ∧ 2 ≤ z ∧ z ≤ 5) → σ'.1 c z = σ.1 c z) ∧ σ'.2 = σ.2
theorem xw.rf (h : Nat) (σ : ow_S) : xw h σ σ := ⟨fun _ _ _ _ _ => rfl, rfl⟩
theorem xw.tr {h : Nat} {a b c : ow_S} (p : xw h a b) (q : xw h b c) : xw h a c := ⟨fun k z h1 h2 h3 => (q.1 k z h1 h2 h3).trans (p.1 k z h1 h2 h3), q.2.trans p.2⟩
theorem xw.of {h : Nat} {a b : ow_S} (p : x_rfr a b) : xw h a b := ⟨fun c z _ _ h3 => p.1 c z (by omega), p.2⟩
theorem xw.t {h : Nat} (σ : ow_S) (v : Int32) {j : Nat} (hj : 2 ≤ j ∧ j ≤ 5) : xw h σ (ow_sI σ 7 j v) := ⟨fun c z _ _ h3 => by
  rw [g_if]
  by_cases e : c = 7
  · rw [if_pos e, if_neg (by omega), e]
  · rw [if_neg e], rfl⟩
section
variable {B : Nat → Nat} {n h : Nat}
theorem s_adv (fu : Nat) (hfu : 1000 ≤ fu) (hh : 30 ≤ h) {σ : ow_S} {k : Nat} {L : List Nat} (q : xq B n h σ k L) (h21 : Tk B n k ≠ 21) : ∃ σ', f_X3_advance fu σ = some σ' ∧ xq B n h σ' (k + 1) L ∧ xw h σ σ' := by
  obtain ⟨a1, a2, a3, a4, a5, a6, a7, a8, a9, a10⟩ := q
  obtain ⟨σ', e, e2, e3, e4, w⟩ := s_X3_advance fu hfu a1 (ps_le B n (k + 1)) a4
  have := ps_lt B n k h21
  refine ⟨σ', e, ⟨a1.fr w, (congrFun (congrFun (congrArg Prod.snd w.2) 7) 6).trans a2, (w.1 7 5 (by omega)).trans a3, e2, e3, e4, by omega, by omega, (w.1 h 2 (by omega)).trans a9, fun j hj => (w.1 (h + 1) j (by omega)).trans (a10 j hj)⟩, xw.of w⟩
theorem s_add6 (fu : Nat) {σ : ow_S} {m : Nat} (hm : m < 160) (h2 : σ.1 h 2 = nI m) (v : Int32) : f_X6_add fu h v σ = some (ow_sI (ow_sI σ (h + 1) m v) h 2 (nI (m + 1))) := by
  rw [f_X6_add, h2, if_neg (by rw [show (160 : Int32) = nI 160 from rfl, n_le (by omega) (by omega)]; omega), e_ckn _ (by omega) hm, n_cl (a := m) (by omega), e_let, g_k _ _ (show h ≠ h + 1 by omega), h2, show (1 : Int32) = nI 1 from rfl, n_add, e_let]
theorem xw.a (hh : 30 ≤ h) (σ : ow_S) (m : Nat) (v w : Int32) : xw h σ (ow_sI (ow_sI σ (h + 1) m v) h 2 w) := ⟨fun c z h1 h2 _ => by
  rw [g_if]
  by_cases e : c = h
  · rw [if_pos e, if_neg (by omega), g_k _ _ (show h ≠ h + 1 by omega), e]
  · rw [if_neg e, g_k _ _ h1], rfl⟩
theorem s_put (fu : Nat) (hh : 30 ≤ h) {σ : ow_S} {k : Nat} {L : List Nat} (q : xq B n h σ k L) (c : Nat) (hl : L.length + 1 ≤ k) : ∃ σ', f_X3_put fu (nI c) σ = some σ' ∧ xq B n h σ' k (L ++ [c]) ∧ xw h σ σ' := by
  obtain ⟨a1, a2, a3, a4, a5, a6, a7, a8, a9, a10⟩ := q
  have hps := ps_le B n k
  have hn := a1.2.1
  have w := xw.a hh σ L.length (nI c) (nI (L.length + 1))
  refine ⟨ow_sI (ow_sI σ (h + 1) L.length (nI c)) h 2 (nI (L.length + 1)), ?_, ⟨⟨(w.1 7 1 (by omega) (by omega) (by omega)).trans a1.1, a1.2.1, fun i hi => (w.1 8 i (by omega) (by omega) (by omega)).trans (a1.2.2.1 i hi), a1.2.2.2⟩, a2, ?_, ?_, ?_, ?_, a7, ?_, ?_, ?_⟩, w⟩
  · rw [f_X3_put, a2]
    show ow_cv (f_X6_add fu h (nI c) σ) _ = _
    rw [s_add6 fu (by omega) a9]
    rfl
  · rw [g_k _ _ (show 7 ≠ h by omega), g_k _ _ (show 7 ≠ h + 1 by omega)]; exact a3
  · rw [g_k _ _ (show 7 ≠ h by omega), g_k _ _ (show 7 ≠ h + 1 by omega)]; exact a4
  · rw [g_k _ _ (show 7 ≠ h by omega), g_k _ _ (show 7 ≠ h + 1 by omega)]; exact a5
  · rw [g_k _ _ (show 7 ≠ h by omega), g_k _ _ (show 7 ≠ h + 1 by omega)]; exact a6
  · simp; omega
  · rw [g_same]; simp
  · intro j hj
    rw [g_k _ _ (show h + 1 ≠ h by omega), g_row]
    simp only [List.length_append, List.length_cons, List.length_nil] at hj
    by_cases e : j = L.length
    · subst e; simp [upd]
    · rw [List.getD_eq_getElem?_getD, List.getElem?_append_left (by omega), ← List.getD_eq_getElem?_getD, ← a10 j (by omega)]; simp [upd, e]
theorem s_putz (fu : Nat) (hh : 30 ≤ h) {σ : ow_S} {k : Nat} (q : xz B n h σ k) (v : Int32) : ∃ σ', f_X3_put fu v σ = some σ' ∧ xz B n h σ' k ∧ xw h σ σ' := by
  obtain ⟨a1, a2, a3, a4, ⟨m, hm, a5⟩, a6⟩ := q
  by_cases c : m = 160
  · refine ⟨σ, ?_, ⟨a1, a2, a3, a4, ⟨m, hm, a5⟩, a6⟩, xw.rf h σ⟩
    rw [f_X3_put, a3]
    show ow_cv (f_X6_add fu h v σ) _ = _
    rw [f_X6_add, a5, if_pos (by rw [show (160 : Int32) = nI 160 from rfl, n_le (by omega) (by omega)]; omega)]
    rfl
  · have w := xw.a hh σ m v (nI (m + 1))
    refine ⟨ow_sI (ow_sI σ (h + 1) m v) h 2 (nI (m + 1)), ?_, ⟨?_, ?_, a3, ?_, ⟨m + 1, by omega, g_same _ _ _ _⟩, a6⟩, w⟩
    · rw [f_X3_put, a3]
      show ow_cv (f_X6_add fu h v σ) _ = _
      rw [s_add6 fu (by omega) a5]
      rfl
    · rw [g_k _ _ (show 7 ≠ h by omega), g_k _ _ (show 7 ≠ h + 1 by omega)]; exact a1
    · rw [g_k _ _ (show 7 ≠ h by omega), g_k _ _ (show 7 ≠ h + 1 by omega)]; exact a2
    · rw [g_k _ _ (show 7 ≠ h by omega), g_k _ _ (show 7 ≠ h + 1 by omega)]; exact a4
theorem s_refuse (fu : Nat) (hh : 30 ≤ h) {σ : ow_S} {k : Nat} {L : List Nat} (q : xq B n h σ k L) : ∃ σ', f_X3_refuse fu σ = some σ' ∧ xz B n h σ' k ∧ xw h σ σ' := by
  obtain ⟨a1, a2, a3, a4, a5, a6, a7, a8, a9, a10⟩ := q
  have hps := ps_le B n k
  have hn := a1.2.1
  refine ⟨ow_sI (ow_sI σ 7 5 (σ.1 7 4)) 7 3 22, ?_, ⟨g_same _ _ _ _, ?_, a2, ?_, ⟨L.length, by omega, ?_⟩, by omega⟩, (xw.t σ _ (by omega)).tr (xw.t _ _ (by omega))⟩
  · rw [f_X3_refuse, a3, if_pos rfl, e_let, L_X3_refuse_16]
    rfl
  · rw [g_7s, if_neg (by decide), g_same, a6]
  · rw [g_7s, if_neg (by decide), g_7s, if_neg (by decide), a1.1]
  · rw [g_k _ _ (show h ≠ 7 by omega), g_k _ _ (show h ≠ 7 by omega), a9]
theorem s_refusez (fu : Nat) (hh : 30 ≤ h) (hn : n ≤ 160) {σ : ow_S} {k : Nat} (q : xz B n h σ k) : ∃ σ', f_X3_refuse fu σ = some σ' ∧ xz B n h σ' k ∧ xw h σ σ' := by
  obtain ⟨a1, a2, a3, a4, ⟨m, hm, a5⟩, a6⟩ := q
  have := (lx_pl_le B (ps_le B n k)).2
  refine ⟨ow_sI σ 7 3 22, ?_, ⟨g_same _ _ _ _, ?_, a3, ?_, ⟨m, hm, ?_⟩, a6⟩, xw.t σ _ (by omega)⟩
  · rw [f_X3_refuse, a2, if_neg (fun hc => by have h1 : ¬ nI (lx_pl B n (ps B n k)) < 0 := nI_pos (by omega); rw [hc] at h1; exact h1 (by decide)), L_X3_refuse_16]
    rfl
  · rw [g_7s, if_neg (by decide), a2]
  · rw [g_7s, if_neg (by decide), a4]
  · rw [g_k _ _ (show h ≠ 7 by omega), a5]
theorem s_expect (fu : Nat) (hfu : 1000 ≤ fu) (hh : 30 ≤ h) {σ : ow_S} {k : Nat} {L : List Nat} (q : xq B n h σ k L) {c : Nat} (hc : c < 21) : ∃ σ', f_X3_expect fu (nI c) σ = some σ' ∧ xw h σ σ' ∧ ((Tk B n k = c ∧ xq B n h σ' (k + 1) L) ∨ (Tk B n k ≠ c ∧ xz B n h σ' k)) := by
  have e := n_eq (a := Tk B n k) (b := c) (by have := Tk_lt B n k; omega) (by omega)
  rw [f_X3_expect, q.2.2.2.2.1]
  simp only [e]
  by_cases h1 : Tk B n k = c
  · rw [if_pos h1]
    obtain ⟨σ1, a, b, w⟩ := s_adv fu hfu hh q (by omega)
    rw [a]
    exact ⟨σ1, rfl, w, Or.inl ⟨h1, b⟩⟩
  · rw [if_neg h1]
    obtain ⟨σ1, a, b, w⟩ := s_refuse fu hh q
    rw [a]
    exact ⟨σ1, rfl, w, Or.inr ⟨h1, b⟩⟩
theorem s_expectz (fu : Nat) (hh : 30 ≤ h) (hn : n ≤ 160) {σ : ow_S} {k : Nat} (q : xz B n h σ k) {c : Nat} (hc : c < 21) : ∃ σ', f_X3_expect fu (nI c) σ = some σ' ∧ xz B n h σ' k ∧ xw h σ σ' := by
  rw [f_X3_expect, q.1, if_neg (by rw [show (22 : Int32) = nI 22 from rfl, n_eq (by decide) (by omega)]; omega)]
  obtain ⟨σ1, a, b, w⟩ := s_refusez fu hh hn q
  rw [a]
  exact ⟨σ1, rfl, b, w⟩
/-- what a level does -/
def xR (B : Nat → Nat) (n h t o k : Nat) (L : List Nat) (σ' : ow_S) : Prop :=
  (∃ k' cs, y_ok (Tk B n) t t o k L k' cs ∧ xq B n h σ' k' (L ++ cs)) ∨ (∃ k', y_no (Tk B n) t o k L k' ∧ xz B n h σ' k')
def gP (B : Nat → Nat) (n h : Nat) (G : Nat → Int32 → ow_S → Option ow_S) (t o : Nat) : Prop :=
  (∀ σ k L, xq B n h σ k L → ∃ σ', G t (nI o) σ = some σ' ∧ xw h σ σ' ∧ xR B n h t o k L σ') ∧ (∀ σ k, xz B n h σ k → ∃ σ', G t (nI o) σ = some σ' ∧ xw h σ σ' ∧ xz B n h σ' k)
theorem s_step (fu : Nat) (hfu : 1000 ≤ fu) (hh : 30 ≤ h) {G : Nat → Int32 → ow_S → Option ow_S} {t o k0 k : Nat} {L acc : List Nat} {σ : ow_S} (hG : gP B n h G (t + 1) o) (hop : y_ops t (Tk B n k)) (q : xq B n h σ k (L ++ acc)) (r : y_ok (Tk B n) t (t + 1) o k0 L k acc) (hl : L.length ≤ k0) : ∃ σ1 σ2 σ3, f_X3_advance fu σ = some σ1 ∧ G (t + 1) (nI o) σ1 = some σ2 ∧ f_X3_put fu (nI (Tk B n k)) σ2 = some σ3 ∧ xw h σ σ3 ∧ ((∃ k' cs, k < k' ∧ y_ok (Tk B n) t (t + 1) o k0 L k' (acc ++ cs ++ [Tk B n k]) ∧ xq B n h σ3 k' (L ++ (acc ++ cs ++ [Tk B n k]))) ∨ (∃ k', y_no (Tk B n) t o k0 L k' ∧ xz B n h σ3 k')) := by
  have h21 : Tk B n k ≠ 21 := by unfold y_ops at hop; omega
  obtain ⟨σ1, e1, q1, w1⟩ := s_adv fu hfu hh q h21
  obtain ⟨σ2, e2, w2, c⟩ := hG.1 σ1 (k + 1) (L ++ acc) q1
  rcases c with ⟨k', cs, r', q2⟩ | ⟨k', r', z2⟩
  · have r3 := y_L1 hop r r'
    have hlen := r3.2.1
    simp only [List.length_append, List.length_cons, List.length_nil] at hlen
    obtain ⟨σ3, e3, q3, w3⟩ := s_put fu hh q2 (Tk B n k) (by simp only [List.length_append]; omega)
    refine ⟨σ1, σ2, σ3, e1, e2, e3, (w1.tr w2).tr w3, Or.inl ⟨k', cs, by have := r'.1; omega, r3, ?_⟩⟩
    simpa only [List.append_assoc] using q3
  · obtain ⟨σ3, e3, z3, w3⟩ := s_putz fu hh z2 (nI (Tk B n k))
    exact ⟨σ1, σ2, σ3, e1, e2, e3, (w1.tr w2).tr w3, Or.inr ⟨k', y_L1f hop r r', z3⟩⟩
theorem s_readTerm_z (fu : Nat) (G : Nat → Int32 → ow_S → Option ow_S) {σ : ow_S} {k : Nat} (q : xz B n h σ k) (o : Int32) (i fn : Nat) (hf : 0 < fn) : L_X3_readTerm_7 fu G fn o (nI i) σ = some σ := by
  obtain ⟨fn, rfl⟩ : ∃ q, fn = q + 1 := ⟨fn - 1, by omega⟩
  rw [L_X3_readTerm_7, q.1]
  by_cases c : (160 : Int32) ≤ nI i
  · rw [if_pos c]
  · rw [if_neg c, if_neg (by decide)]
theorem s_readTerm_loop (fu : Nat) (hfu : 1000 ≤ fu) (hh : 30 ≤ h) {G : Nat → Int32 → ow_S → Option ow_S} {o k0 : Nat} {L : List Nat} (hG : gP B n h G 5 o) (hl : L.length ≤ k0) : ∀ (fn i k : Nat) (acc : List Nat) (σ : ow_S), xq B n h σ k (L ++ acc) → y_ok (Tk B n) 4 5 o k0 L k acc → i ≤ k → 200 ≤ fn + i → ∃ σ', L_X3_readTerm_7 fu G fn (nI o) (nI i) σ = some σ' ∧ xw h σ σ' ∧ xR B n h 4 o k0 L σ' := by
  intro fn
  induction fn with
  | zero =>
    intro i k acc σ q r hi hf
    have := q.2.2.2.2.2.2.1
    have := ps_le B n k
    have := q.1.2.1
    omega
  | succ fn ih =>
    intro i k acc σ q r hi hf
    have a7 := q.2.2.2.2.2.2.1
    have hps := ps_le B n k
    have hn := q.1.2.1
    have htk := Tk_lt B n k
    have e : nI (Tk B n k) = (13 : Int32) ↔ Tk B n k = 13 := n_eq (b := 13) (by omega) (by decide)
    by_cases c : Tk B n k = 13
    · have hop : y_ops 4 (Tk B n k) := by unfold y_ops; omega
      have hlt := ps_lt B n k (by omega)
      have hps1 := ps_le B n (k + 1)
      rw [L_X3_readTerm_7, if_neg (by rw [show (160 : Int32) = nI 160 from rfl, n_le (by decide) (by omega)]; omega), q.2.2.2.2.1]
      simp only [e]
      rw [if_pos c]
      obtain ⟨σ1, σ2, σ3, e1, e2, e3, w, cc⟩ := s_step fu hfu hh (t := 4) hG hop q r hl
      rw [show nI (Tk B n k) = (13 : Int32) by rw [c]; rfl] at e3
      rw [e1, e_cv, show (5 : Nat) = 4 + 1 from rfl, e2, e_cv, e3, e_cv, e_let, show (1 : Int32) = nI 1 from rfl, n_add]
      rcases cc with ⟨k', cs, hk, r3, q3⟩ | ⟨k', r3, z3⟩
      · obtain ⟨σ4, e4, w4, R⟩ := ih (i + 1) k' _ σ3 q3 r3 (by omega) (by omega)
        exact ⟨σ4, e4, w.tr w4, R⟩
      · rw [s_readTerm_z fu G z3 (nI o) (i + 1) fn (by omega)]
        exact ⟨σ3, rfl, w, Or.inr ⟨k', r3, z3⟩⟩
    · refine ⟨σ, ?_, xw.rf h σ, Or.inl ⟨k, acc, y_L2 (by omega) (by unfold y_ops; omega) r, q⟩⟩
      rw [L_X3_readTerm_7, q.2.2.2.2.1]
      by_cases c6 : (160 : Int32) ≤ nI i
      · rw [if_pos c6]
      · rw [if_neg c6]
        simp only [e]
        rw [if_neg c]
theorem s_readTerm (fu : Nat) (hfu : 1000 ≤ fu) (hh : 30 ≤ h) {G : Nat → Int32 → ow_S → Option ow_S} {o : Nat} (hG : gP B n h G 5 o) : (∀ σ k L, xq B n h σ k L → ∃ σ', b_X3_readTerm fu G (nI o) σ = some σ' ∧ xw h σ σ' ∧ xR B n h 4 o k L σ') ∧ (∀ σ k, xz B n h σ k → ∃ σ', b_X3_readTerm fu G (nI o) σ = some σ' ∧ xw h σ σ' ∧ xz B n h σ' k) := by
  constructor
  · intro σ k L q
    obtain ⟨σ1, e1, w1, c⟩ := hG.1 σ k L q
    rw [b_X3_readTerm, e1, e_cv, show (0 : Int32) = nI 0 from rfl]
    rcases c with ⟨k', cs, r, q1⟩ | ⟨k', r, z⟩
    · obtain ⟨σ2, e2, w2, R⟩ := s_readTerm_loop fu hfu hh (k0 := k) (L := L) hG q.2.2.2.2.2.2.2.1 fu 0 k' cs σ1 q1 (y_L0 (by omega) r) (by omega) (by omega)
      exact ⟨σ2, e2, w1.tr w2, R⟩
    · rw [s_readTerm_z fu G z (nI o) 0 fu (by omega)]
      exact ⟨σ1, rfl, w1, Or.inr ⟨k', y_L0f (by omega) r, z⟩⟩
  · intro σ k z
    obtain ⟨σ1, e1, w1, z1⟩ := hG.2 σ k z
    rw [b_X3_readTerm, e1, e_cv, show (0 : Int32) = nI 0 from rfl, s_readTerm_z fu G z1 (nI o) 0 fu (by omega)]
    exact ⟨σ1, rfl, w1, z1⟩
theorem s_readSum_z (fu : Nat) (G : Nat → Int32 → ow_S → Option ow_S) {σ : ow_S} {k : Nat} (q : xz B n h σ k) (o : Int32) (i fn : Nat) (hf : 0 < fn) : L_X3_readSum_7 fu G fn o (nI i) σ = some σ := by
  obtain ⟨fn, rfl⟩ : ∃ q, fn = q + 1 := ⟨fn - 1, by omega⟩
  rw [L_X3_readSum_7, q.1]
  by_cases c : (160 : Int32) ≤ nI i
  · rw [if_pos c]
  · rw [if_neg c, if_neg (by decide), if_neg (by decide)]
theorem s_readSum_loop (fu : Nat) (hfu : 1000 ≤ fu) (hh : 30 ≤ h) {G : Nat → Int32 → ow_S → Option ow_S} {o k0 : Nat} {L : List Nat} (hG : gP B n h G 4 o) (hl : L.length ≤ k0) : ∀ (fn i k : Nat) (acc : List Nat) (σ : ow_S), xq B n h σ k (L ++ acc) → y_ok (Tk B n) 3 4 o k0 L k acc → i ≤ k → 200 ≤ fn + i → ∃ σ', L_X3_readSum_7 fu G fn (nI o) (nI i) σ = some σ' ∧ xw h σ σ' ∧ xR B n h 3 o k0 L σ' := by
  intro fn
  induction fn with
  | zero =>
    intro i k acc σ q r hi hf
    have := q.2.2.2.2.2.2.1
    have := ps_le B n k
    have := q.1.2.1
    omega
  | succ fn ih =>
    intro i k acc σ q r hi hf
    have a7 := q.2.2.2.2.2.2.1
    have hps := ps_le B n k
    have hn := q.1.2.1
    have htk := Tk_lt B n k
    have e : nI (Tk B n k) = (11 : Int32) ↔ Tk B n k = 11 := n_eq (b := 11) (by omega) (by decide)
    have e' : nI (Tk B n k) = (12 : Int32) ↔ Tk B n k = 12 := n_eq (b := 12) (by omega) (by decide)
    by_cases c : Tk B n k = 11 ∨ Tk B n k = 12
    · have hop : y_ops 3 (Tk B n k) := by unfold y_ops; omega
      have hlt := ps_lt B n k (by omega)
      have hps1 := ps_le B n (k + 1)
      rw [L_X3_readSum_7, if_neg (by rw [show (160 : Int32) = nI 160 from rfl, n_le (by decide) (by omega)]; omega), q.2.2.2.2.1]
      simp only [e, e']
      have hgo : ∀ K : Option ow_S, (if Tk B n k = 11 then K else if Tk B n k = 12 then K else some σ) = K := by
        intro K
        by_cases c1 : Tk B n k = 11
        · rw [if_pos c1]
        · rw [if_neg c1, if_pos (by omega)]
      obtain ⟨σ1, σ2, σ3, e1, e2, e3, w, cc⟩ := s_step fu hfu hh (t := 3) hG hop q r hl
      rw [hgo, L_X3_readSum_32, e_let, q.2.2.2.2.1, e1, e_cv, show (4 : Nat) = 3 + 1 from rfl, e2, e_cv, e3, e_cv, e_let, show (1 : Int32) = nI 1 from rfl, n_add]
      rcases cc with ⟨k', cs, hk, r3, q3⟩ | ⟨k', r3, z3⟩
      · obtain ⟨σ4, e4, w4, R⟩ := ih (i + 1) k' _ σ3 q3 r3 (by omega) (by omega)
        exact ⟨σ4, e4, w.tr w4, R⟩
      · rw [s_readSum_z fu G z3 (nI o) (i + 1) fn (by omega)]
        exact ⟨σ3, rfl, w, Or.inr ⟨k', r3, z3⟩⟩
    · refine ⟨σ, ?_, xw.rf h σ, Or.inl ⟨k, acc, y_L2 (by omega) (by unfold y_ops; omega) r, q⟩⟩
      rw [L_X3_readSum_7, q.2.2.2.2.1]
      by_cases c6 : (160 : Int32) ≤ nI i
      · rw [if_pos c6]
      · rw [if_neg c6]
        simp only [e, e']
        rw [if_neg (fun hc => c (Or.inl hc)), if_neg (fun hc => c (Or.inr hc))]
theorem s_readSum (fu : Nat) (hfu : 1000 ≤ fu) (hh : 30 ≤ h) {G : Nat → Int32 → ow_S → Option ow_S} {o : Nat} (hG : gP B n h G 4 o) : (∀ σ k L, xq B n h σ k L → ∃ σ', b_X3_readSum fu G (nI o) σ = some σ' ∧ xw h σ σ' ∧ xR B n h 3 o k L σ') ∧ (∀ σ k, xz B n h σ k → ∃ σ', b_X3_readSum fu G (nI o) σ = some σ' ∧ xw h σ σ' ∧ xz B n h σ' k) := by
  constructor
  · intro σ k L q
    obtain ⟨σ1, e1, w1, c⟩ := hG.1 σ k L q
    rw [b_X3_readSum, e1, e_cv, show (0 : Int32) = nI 0 from rfl]
    rcases c with ⟨k', cs, r, q1⟩ | ⟨k', r, z⟩
    · obtain ⟨σ2, e2, w2, R⟩ := s_readSum_loop fu hfu hh (k0 := k) (L := L) hG q.2.2.2.2.2.2.2.1 fu 0 k' cs σ1 q1 (y_L0 (by omega) r) (by omega) (by omega)
      exact ⟨σ2, e2, w1.tr w2, R⟩
    · rw [s_readSum_z fu G z (nI o) 0 fu (by omega)]
      exact ⟨σ1, rfl, w1, Or.inr ⟨k', y_L0f (by omega) r, z⟩⟩
  · intro σ k z
    obtain ⟨σ1, e1, w1, z1⟩ := hG.2 σ k z
    rw [b_X3_readSum, e1, e_cv, show (0 : Int32) = nI 0 from rfl, s_readSum_z fu G z1 (nI o) 0 fu (by omega)]
    exact ⟨σ1, rfl, w1, z1⟩
theorem s_readBoth_z (fu : Nat) (G : Nat → Int32 → ow_S → Option ow_S) {σ : ow_S} {k : Nat} (q : xz B n h σ k) (o : Int32) (i fn : Nat) (hf : 0 < fn) : L_X3_readBoth_7 fu G fn o (nI i) σ = some σ := by
  obtain ⟨fn, rfl⟩ : ∃ q, fn = q + 1 := ⟨fn - 1, by omega⟩
  rw [L_X3_readBoth_7, q.1]
  by_cases c : (160 : Int32) ≤ nI i
  · rw [if_pos c]
  · rw [if_neg c, if_neg (by decide)]
theorem s_readBoth_loop (fu : Nat) (hfu : 1000 ≤ fu) (hh : 30 ≤ h) {G : Nat → Int32 → ow_S → Option ow_S} {o k0 : Nat} {L : List Nat} (hG : gP B n h G 2 o) (hl : L.length ≤ k0) : ∀ (fn i k : Nat) (acc : List Nat) (σ : ow_S), xq B n h σ k (L ++ acc) → y_ok (Tk B n) 1 2 o k0 L k acc → i ≤ k → 200 ≤ fn + i → ∃ σ', L_X3_readBoth_7 fu G fn (nI o) (nI i) σ = some σ' ∧ xw h σ σ' ∧ xR B n h 1 o k0 L σ' := by
  intro fn
  induction fn with
  | zero =>
    intro i k acc σ q r hi hf
    have := q.2.2.2.2.2.2.1
    have := ps_le B n k
    have := q.1.2.1
    omega
  | succ fn ih =>
    intro i k acc σ q r hi hf
    have a7 := q.2.2.2.2.2.2.1
    have hps := ps_le B n k
    have hn := q.1.2.1
    have htk := Tk_lt B n k
    have e : nI (Tk B n k) = (7 : Int32) ↔ Tk B n k = 7 := n_eq (b := 7) (by omega) (by decide)
    by_cases c : Tk B n k = 7
    · have hop : y_ops 1 (Tk B n k) := by unfold y_ops; omega
      have hlt := ps_lt B n k (by omega)
      have hps1 := ps_le B n (k + 1)
      rw [L_X3_readBoth_7, if_neg (by rw [show (160 : Int32) = nI 160 from rfl, n_le (by decide) (by omega)]; omega), q.2.2.2.2.1]
      simp only [e]
      rw [if_pos c]
      obtain ⟨σ1, σ2, σ3, e1, e2, e3, w, cc⟩ := s_step fu hfu hh (t := 1) hG hop q r hl
      rw [show nI (Tk B n k) = (7 : Int32) by rw [c]; rfl] at e3
      rw [e1, e_cv, show (2 : Nat) = 1 + 1 from rfl, e2, e_cv, e3, e_cv, e_let, show (1 : Int32) = nI 1 from rfl, n_add]
      rcases cc with ⟨k', cs, hk, r3, q3⟩ | ⟨k', r3, z3⟩
      · obtain ⟨σ4, e4, w4, R⟩ := ih (i + 1) k' _ σ3 q3 r3 (by omega) (by omega)
        exact ⟨σ4, e4, w.tr w4, R⟩
      · rw [s_readBoth_z fu G z3 (nI o) (i + 1) fn (by omega)]
        exact ⟨σ3, rfl, w, Or.inr ⟨k', r3, z3⟩⟩
    · refine ⟨σ, ?_, xw.rf h σ, Or.inl ⟨k, acc, y_L2 (by omega) (by unfold y_ops; omega) r, q⟩⟩
      rw [L_X3_readBoth_7, q.2.2.2.2.1]
      by_cases c6 : (160 : Int32) ≤ nI i
      · rw [if_pos c6]
      · rw [if_neg c6]
        simp only [e]
        rw [if_neg c]
theorem s_readBoth (fu : Nat) (hfu : 1000 ≤ fu) (hh : 30 ≤ h) {G : Nat → Int32 → ow_S → Option ow_S} {o : Nat} (hG : gP B n h G 2 o) : (∀ σ k L, xq B n h σ k L → ∃ σ', b_X3_readBoth fu G (nI o) σ = some σ' ∧ xw h σ σ' ∧ xR B n h 1 o k L σ') ∧ (∀ σ k, xz B n h σ k → ∃ σ', b_X3_readBoth fu G (nI o) σ = some σ' ∧ xw h σ σ' ∧ xz B n h σ' k) := by
  constructor
  · intro σ k L q
    obtain ⟨σ1, e1, w1, c⟩ := hG.1 σ k L q
    rw [b_X3_readBoth, e1, e_cv, show (0 : Int32) = nI 0 from rfl]
    rcases c with ⟨k', cs, r, q1⟩ | ⟨k', r, z⟩
    · obtain ⟨σ2, e2, w2, R⟩ := s_readBoth_loop fu hfu hh (k0 := k) (L := L) hG q.2.2.2.2.2.2.2.1 fu 0 k' cs σ1 q1 (y_L0 (by omega) r) (by omega) (by omega)
      exact ⟨σ2, e2, w1.tr w2, R⟩
    · rw [s_readBoth_z fu G z (nI o) 0 fu (by omega)]
      exact ⟨σ1, rfl, w1, Or.inr ⟨k', y_L0f (by omega) r, z⟩⟩
  · intro σ k z
    obtain ⟨σ1, e1, w1, z1⟩ := hG.2 σ k z
    rw [b_X3_readBoth, e1, e_cv, show (0 : Int32) = nI 0 from rfl, s_readBoth_z fu G z1 (nI o) 0 fu (by omega)]
    exact ⟨σ1, rfl, w1, z1⟩
theorem s_readEither_z (fu : Nat) (G : Nat → Int32 → ow_S → Option ow_S) {σ : ow_S} {k : Nat} (q : xz B n h σ k) (o : Int32) (i fn : Nat) (hf : 0 < fn) : L_X3_readEither_7 fu G fn o (nI i) σ = some σ := by
  obtain ⟨fn, rfl⟩ : ∃ q, fn = q + 1 := ⟨fn - 1, by omega⟩
  rw [L_X3_readEither_7, q.1]
  by_cases c : (160 : Int32) ≤ nI i
  · rw [if_pos c]
  · rw [if_neg c, if_neg (by decide)]
theorem s_readEither_loop (fu : Nat) (hfu : 1000 ≤ fu) (hh : 30 ≤ h) {G : Nat → Int32 → ow_S → Option ow_S} {o k0 : Nat} {L : List Nat} (hG : gP B n h G 1 o) (hl : L.length ≤ k0) : ∀ (fn i k : Nat) (acc : List Nat) (σ : ow_S), xq B n h σ k (L ++ acc) → y_ok (Tk B n) 0 1 o k0 L k acc → i ≤ k → 200 ≤ fn + i → ∃ σ', L_X3_readEither_7 fu G fn (nI o) (nI i) σ = some σ' ∧ xw h σ σ' ∧ xR B n h 0 o k0 L σ' := by
  intro fn
  induction fn with
  | zero =>
    intro i k acc σ q r hi hf
    have := q.2.2.2.2.2.2.1
    have := ps_le B n k
    have := q.1.2.1
    omega
  | succ fn ih =>
    intro i k acc σ q r hi hf
    have a7 := q.2.2.2.2.2.2.1
    have hps := ps_le B n k
    have hn := q.1.2.1
    have htk := Tk_lt B n k
    have e : nI (Tk B n k) = (6 : Int32) ↔ Tk B n k = 6 := n_eq (b := 6) (by omega) (by decide)
    by_cases c : Tk B n k = 6
    · have hop : y_ops 0 (Tk B n k) := by unfold y_ops; omega
      have hlt := ps_lt B n k (by omega)
      have hps1 := ps_le B n (k + 1)
      rw [L_X3_readEither_7, if_neg (by rw [show (160 : Int32) = nI 160 from rfl, n_le (by decide) (by omega)]; omega), q.2.2.2.2.1]
      simp only [e]
      rw [if_pos c]
      obtain ⟨σ1, σ2, σ3, e1, e2, e3, w, cc⟩ := s_step fu hfu hh (t := 0) hG hop q r hl
      rw [show nI (Tk B n k) = (6 : Int32) by rw [c]; rfl] at e3
      rw [e1, e_cv, show (1 : Nat) = 0 + 1 from rfl, e2, e_cv, e3, e_cv, e_let, show (1 : Int32) = nI 1 from rfl, n_add]
      rcases cc with ⟨k', cs, hk, r3, q3⟩ | ⟨k', r3, z3⟩
      · obtain ⟨σ4, e4, w4, R⟩ := ih (i + 1) k' _ σ3 q3 r3 (by omega) (by omega)
        exact ⟨σ4, e4, w.tr w4, R⟩
      · rw [s_readEither_z fu G z3 (nI o) (i + 1) fn (by omega)]
        exact ⟨σ3, rfl, w, Or.inr ⟨k', r3, z3⟩⟩
    · refine ⟨σ, ?_, xw.rf h σ, Or.inl ⟨k, acc, y_L2 (by omega) (by unfold y_ops; omega) r, q⟩⟩
      rw [L_X3_readEither_7, q.2.2.2.2.1]
      by_cases c6 : (160 : Int32) ≤ nI i
      · rw [if_pos c6]
      · rw [if_neg c6]
        simp only [e]
        rw [if_neg c]
theorem s_readEither (fu : Nat) (hfu : 1000 ≤ fu) (hh : 30 ≤ h) {G : Nat → Int32 → ow_S → Option ow_S} {o : Nat} (hG : gP B n h G 1 o) : (∀ σ k L, xq B n h σ k L → ∃ σ', b_X3_readEither fu G (nI o) σ = some σ' ∧ xw h σ σ' ∧ xR B n h 0 o k L σ') ∧ (∀ σ k, xz B n h σ k → ∃ σ', b_X3_readEither fu G (nI o) σ = some σ' ∧ xw h σ σ' ∧ xz B n h σ' k) := by
  constructor
  · intro σ k L q
    obtain ⟨σ1, e1, w1, c⟩ := hG.1 σ k L q
    rw [b_X3_readEither, e1, e_cv, show (0 : Int32) = nI 0 from rfl]
    rcases c with ⟨k', cs, r, q1⟩ | ⟨k', r, z⟩
    · obtain ⟨σ2, e2, w2, R⟩ := s_readEither_loop fu hfu hh (k0 := k) (L := L) hG q.2.2.2.2.2.2.2.1 fu 0 k' cs σ1 q1 (y_L0 (by omega) r) (by omega) (by omega)
      exact ⟨σ2, e2, w1.tr w2, R⟩
    · rw [s_readEither_z fu G z (nI o) 0 fu (by omega)]
      exact ⟨σ1, rfl, w1, Or.inr ⟨k', y_L0f (by omega) r, z⟩⟩
  · intro σ k z
    obtain ⟨σ1, e1, w1, z1⟩ := hG.2 σ k z
    rw [b_X3_readEither, e1, e_cv, show (0 : Int32) = nI 0 from rfl, s_readEither_z fu G z1 (nI o) 0 fu (by omega)]
    exact ⟨σ1, rfl, w1, z1⟩
end
