/-! least, begin: the class's trial head (cell 6), the model's own numbers changed and put back -/
def xs6 (X X' : ow_S) : Prop := ∀ c, c ≠ 3 → c ≠ 4 → c ≠ 6 → c ≠ 11 → c ≠ 12 → X'.1 c = X.1 c
theorem xs6.rf (X : ow_S) : xs6 X X := fun _ _ _ _ _ _ => rfl
theorem xs6.tr {a b c : ow_S} (p : xs6 a b) (q : xs6 b c) : xs6 a c := fun k h1 h2 h3 h4 h5 => (q k h1 h2 h3 h4 h5).trans (p k h1 h2 h3 h4 h5)
theorem xs6.w (X : ow_S) (z : Nat) (v : Int32) : xs6 X (ow_sI X 6 z v) := fun c _ _ h _ _ => g_k _ _ h
theorem xsb.s6 {X X' : ow_S} (w : xsb X X') : xs6 X X' := fun c h1 h2 _ h4 h5 => w c h1 h2 h4 h5
theorem xs6.sc {X X' : ow_S} (w : xs6 X X') : xsc X X' := ⟨fun c hc => w c (by omega) (by omega) (by omega) (by omega) (by omega), by rw [w 7 (by omega) (by omega) (by omega) (by omega) (by omega)]⟩
def msh (h : Nat) (M M' : ow_S) : Prop := (∀ c, c ≠ 58 → c ≠ 59 → c ≠ 60 → c ≠ 72 → c ≠ 73 → c ≠ 74 → c ≠ 56 → M'.1 c = M.1 c) ∧ (∀ z, z ≠ 36 → z ≠ 37 → z ≠ 38 → M'.1 56 z = M.1 56 z) ∧ (∀ z, z ≠ h → M'.1 58 z = M.1 58 z ∧ M'.1 59 z = M.1 59 z) ∧ ∀ z, z ≠ 3 * h → z ≠ 3 * h + 1 → M'.1 60 z = M.1 60 z
theorem msh.rf (h : Nat) (M : ow_S) : msh h M M := ⟨fun _ _ _ _ _ _ _ _ => rfl, fun _ _ _ _ => rfl, fun _ _ => ⟨rfl, rfl⟩, fun _ _ _ => rfl⟩
theorem msh.tr {h : Nat} {a b c : ow_S} (p : msh h a b) (q : msh h b c) : msh h a c := ⟨fun k h1 h2 h3 h4 h5 h6 h7 => (q.1 k h1 h2 h3 h4 h5 h6 h7).trans (p.1 k h1 h2 h3 h4 h5 h6 h7), fun z h1 h2 h3 => (q.2.1 z h1 h2 h3).trans (p.2.1 z h1 h2 h3), fun z hz => ⟨(q.2.2.1 z hz).1.trans (p.2.2.1 z hz).1, (q.2.2.1 z hz).2.trans (p.2.2.1 z hz).2⟩, fun z h1 h2 => (q.2.2.2 z h1 h2).trans (p.2.2.2 z h1 h2)⟩
theorem msb.sh {M M' : ow_S} (w : msb M M') (h : Nat) : msh h M M' := ⟨fun c _ _ _ h1 h2 h3 h4 => w.1 c h1 h2 h3 h4, w.2, fun z _ => by rw [w.1 58 (by decide) (by decide) (by decide) (by decide), w.1 59 (by decide) (by decide) (by decide) (by decide)]; exact ⟨rfl, rfl⟩, fun z _ _ => by rw [w.1 60 (by decide) (by decide) (by decide) (by decide)]⟩
theorem msh.fin {h k mo : Nat} {b f s : Int32} {M M' : ow_S} (w : msh h M M') (a : m_head M.1 h k mo b f s) (a' : m_head M'.1 h k mo b f s) : msc M M' := by
  obtain ⟨w1, w2, w3, w4⟩ := w
  obtain ⟨a1, a2, a3, a4, a5, -⟩ := a
  obtain ⟨b1, b2, b3, b4, b5, -⟩ := a'
  refine ⟨fun c hc => ?_, fun z hz => w2 z (by omega) (by omega) (by omega)⟩
  by_cases e8 : c = 58
  · rw [e8]
    funext z
    by_cases e : z = h
    · rw [e, b1, a1]
    · exact (w3 z e).1
  by_cases e9 : c = 59
  · rw [e9]
    funext z
    by_cases e : z = h
    · rw [e, b2, a2]
    · exact (w3 z e).2
  by_cases e0 : c = 60
  · rw [e0]
    funext z
    by_cases e : z = 3 * h
    · rw [e, b3, a3]
    by_cases e' : z = 3 * h + 1
    · rw [e', b4, a4]
    exact w4 z e e'
  exact w1 c e8 e9 e0 (by omega) (by omega) (by omega) (by omega)
def x_at (X : ow_S) (P law c k mo : Nat) (b f s : Int32) (T : Nat → List Nat) : Prop := X.1 0 11 = nI P ∧ X.1 0 14 = nI law ∧ x_text X.1 (30 + 3 * law) T ∧ x_head X.1 c k mo b f s
def m_at (M : ow_S) (P law j k mo : Nat) (b f s : Int32) (T : Nat → List Nat) : Prop := M.1 56 0 = nI P ∧ M.1 56 12 = nI law ∧ m_text M.1 law T ∧ m_head M.1 j k mo b f s
section
variable {X X' M M' : ow_S} {P law c j k mo : Nat} {b f s : Int32} {T : Nat → List Nat}
theorem x_at.sb (h : x_at X P law c k mo b f s T) (w : xsb X X') (hc : 12 < c ∨ c = 6) : x_at X' P law c k mo b f s T := by
  have e : X'.1 0 = X.1 0 := w 0 (by decide) (by decide) (by decide) (by decide)
  exact ⟨by rw [e]; exact h.1, by rw [e]; exact h.2.1, h.2.2.1.sb w (by omega), h.2.2.2.sb w hc⟩
theorem m_at.sb (h : m_at M P law j k mo b f s T) (w : msb M M') : m_at M' P law j k mo b f s T := ⟨(w.2 0 (by decide) (by decide) (by decide)).trans h.1, (w.2 12 (by decide) (by decide) (by decide)).trans h.2.1, h.2.2.1.sb w, h.2.2.2.sb w⟩
theorem x_text.s6 {t : Nat} (h : x_text X.1 t T) (w : xs6 X X') (ht : 12 < t) : x_text X'.1 t T := h.fr (w _ (by omega) (by omega) (by omega) (by omega) (by omega)) (w _ (by omega) (by omega) (by omega) (by omega) (by omega)) (w _ (by omega) (by omega) (by omega) (by omega) (by omega))
theorem x_at.s6 (h : x_at X P law c k mo b f s T) (w : xs6 X X') {k' mo' : Nat} {b' f' s' : Int32} (hh : x_head X'.1 6 k' mo' b' f' s') : x_at X' P law 6 k' mo' b' f' s' T := by
  have e : X'.1 0 = X.1 0 := w 0 (by decide) (by decide) (by decide) (by decide) (by decide)
  exact ⟨by rw [e]; exact h.1, by rw [e]; exact h.2.1, h.2.2.1.s6 w (by omega), hh⟩
theorem m_text.eq {M M' : Nat → Nat → Int32} {t : Nat} (h : m_text M t T) (a : M' 62 = M 62) (b : M' 63 = M 63) : m_text M' t T := by
  unfold m_text at h ⊢; rw [a, b]; exact h
theorem m_at.sh (h : m_at M P law j k mo b f s T) (w : msh j M M') {k' mo' : Nat} {b' f' s' : Int32} (hh : m_head M'.1 j k' mo' b' f' s') : m_at M' P law j k' mo' b' f' s' T := ⟨(w.2.1 0 (by decide) (by decide) (by decide)).trans h.1, (w.2.1 12 (by decide) (by decide) (by decide)).trans h.2.1, h.2.2.1.eq (w.1 62 (by decide) (by decide) (by decide) (by decide) (by decide) (by decide) (by decide)) (w.1 63 (by decide) (by decide) (by decide) (by decide) (by decide) (by decide) (by decide)), hh⟩
/-- setting the trial head's numbers -/
theorem x_at.wK (h : x_at X P law 6 k mo b f s T) {v : Nat} (hv : v < 6) : x_at (ow_sI X 6 0 (nI v)) P law 6 v mo b f s T :=
  h.s6 (xs6.w X 0 _) ⟨g_same _ _ _ _, by rw [g_j _ _ (by decide)]; exact h.2.2.2.2.1, by rw [g_j _ _ (by decide)]; exact h.2.2.2.2.2.1, by rw [g_j _ _ (by decide)]; exact h.2.2.2.2.2.2.1, by rw [g_j _ _ (by decide)]; exact h.2.2.2.2.2.2.2.1, hv, h.2.2.2.2.2.2.2.2.2⟩
theorem x_at.wM (h : x_at X P law 6 k mo b f s T) {v : Nat} (hv : v < 10) : x_at (ow_sI X 6 1 (nI v)) P law 6 k v b f s T :=
  h.s6 (xs6.w X 1 _) ⟨by rw [g_j _ _ (by decide)]; exact h.2.2.2.1, g_same _ _ _ _, by rw [g_j _ _ (by decide)]; exact h.2.2.2.2.2.1, by rw [g_j _ _ (by decide)]; exact h.2.2.2.2.2.2.1, by rw [g_j _ _ (by decide)]; exact h.2.2.2.2.2.2.2.1, h.2.2.2.2.2.2.2.2.1, hv⟩
theorem x_at.wB (h : x_at X P law 6 k mo b f s T) (v : Int32) : x_at (ow_sI X 6 2 v) P law 6 k mo v f s T :=
  h.s6 (xs6.w X 2 _) ⟨by rw [g_j _ _ (by decide)]; exact h.2.2.2.1, by rw [g_j _ _ (by decide)]; exact h.2.2.2.2.1, g_same _ _ _ _, by rw [g_j _ _ (by decide)]; exact h.2.2.2.2.2.2.1, by rw [g_j _ _ (by decide)]; exact h.2.2.2.2.2.2.2.1, h.2.2.2.2.2.2.2.2⟩
theorem x_at.wF (h : x_at X P law 6 k mo b f s T) (v : Int32) : x_at (ow_sI X 6 3 v) P law 6 k mo b v s T :=
  h.s6 (xs6.w X 3 _) ⟨by rw [g_j _ _ (by decide)]; exact h.2.2.2.1, by rw [g_j _ _ (by decide)]; exact h.2.2.2.2.1, by rw [g_j _ _ (by decide)]; exact h.2.2.2.2.2.1, g_same _ _ _ _, by rw [g_j _ _ (by decide)]; exact h.2.2.2.2.2.2.2.1, h.2.2.2.2.2.2.2.2⟩
theorem m_at.wK (h : m_at M P law j k mo b f s T) {v : Nat} (hv : v < 6) : m_at (ow_sI M 58 j (nI v)) P law j v mo b f s T ∧ msh j M (ow_sI M 58 j (nI v)) := by
  have w : msh j M (ow_sI M 58 j (nI v)) := ⟨fun c h1 _ _ _ _ _ _ => g_k _ _ h1, fun z _ _ _ => by rw [g_k _ _ (show 56 ≠ 58 by decide)], fun z hz => ⟨g_j _ _ hz, by rw [g_k _ _ (show 59 ≠ 58 by decide)]⟩, fun z _ _ => by rw [g_k _ _ (show 60 ≠ 58 by decide)]⟩
  obtain ⟨-, -, -, a1, a2, a3, a4, a5, a6, a7⟩ := id h
  exact ⟨h.sh w ⟨g_same _ _ _ _, by rw [g_k _ _ (show 59 ≠ 58 by decide)]; exact a2, by rw [g_k _ _ (show 60 ≠ 58 by decide)]; exact a3, by rw [g_k _ _ (show 60 ≠ 58 by decide)]; exact a4, by rw [g_k _ _ (show 60 ≠ 58 by decide)]; exact a5, hv, a7⟩, w⟩
theorem m_at.wM (h : m_at M P law j k mo b f s T) {v : Nat} (hv : v < 10) : m_at (ow_sI M 59 j (nI v)) P law j k v b f s T ∧ msh j M (ow_sI M 59 j (nI v)) := by
  have w : msh j M (ow_sI M 59 j (nI v)) := ⟨fun c _ h1 _ _ _ _ _ => g_k _ _ h1, fun z _ _ _ => by rw [g_k _ _ (show 56 ≠ 59 by decide)], fun z hz => ⟨by rw [g_k _ _ (show 58 ≠ 59 by decide)], g_j _ _ hz⟩, fun z _ _ => by rw [g_k _ _ (show 60 ≠ 59 by decide)]⟩
  obtain ⟨-, -, -, a1, a2, a3, a4, a5, a6, a7⟩ := id h
  exact ⟨h.sh w ⟨by rw [g_k _ _ (show 58 ≠ 59 by decide)]; exact a1, g_same _ _ _ _, by rw [g_k _ _ (show 60 ≠ 59 by decide)]; exact a3, by rw [g_k _ _ (show 60 ≠ 59 by decide)]; exact a4, by rw [g_k _ _ (show 60 ≠ 59 by decide)]; exact a5, a6, hv⟩, w⟩
theorem m_at.wB (h : m_at M P law j k mo b f s T) (v : Int32) : m_at (ow_sI M 60 (3 * j) v) P law j k mo v f s T ∧ msh j M (ow_sI M 60 (3 * j) v) := by
  have w : msh j M (ow_sI M 60 (3 * j) v) := ⟨fun c _ _ h1 _ _ _ _ => g_k _ _ h1, fun z _ _ _ => by rw [g_k _ _ (show 56 ≠ 60 by decide)], fun z hz => ⟨by rw [g_k _ _ (show 58 ≠ 60 by decide)], by rw [g_k _ _ (show 59 ≠ 60 by decide)]⟩, fun z h1 _ => g_j _ _ h1⟩
  obtain ⟨-, -, -, a1, a2, a3, a4, a5, a6⟩ := id h
  exact ⟨h.sh w ⟨by rw [g_k _ _ (show 58 ≠ 60 by decide)]; exact a1, by rw [g_k _ _ (show 59 ≠ 60 by decide)]; exact a2, g_same _ _ _ _, by rw [g_j _ _ (by omega)]; exact a4, by rw [g_j _ _ (by omega)]; exact a5, a6⟩, w⟩
theorem m_at.wF (h : m_at M P law j k mo b f s T) (v : Int32) : m_at (ow_sI M 60 (3 * j + 1) v) P law j k mo b v s T ∧ msh j M (ow_sI M 60 (3 * j + 1) v) := by
  have w : msh j M (ow_sI M 60 (3 * j + 1) v) := ⟨fun c _ _ h1 _ _ _ _ => g_k _ _ h1, fun z _ _ _ => by rw [g_k _ _ (show 56 ≠ 60 by decide)], fun z hz => ⟨by rw [g_k _ _ (show 58 ≠ 60 by decide)], by rw [g_k _ _ (show 59 ≠ 60 by decide)]⟩, fun z _ h1 => g_j _ _ h1⟩
  obtain ⟨-, -, -, a1, a2, a3, a4, a5, a6⟩ := id h
  exact ⟨h.sh w ⟨by rw [g_k _ _ (show 58 ≠ 60 by decide)]; exact a1, by rw [g_k _ _ (show 59 ≠ 60 by decide)]; exact a2, by rw [g_j _ _ (by omega)]; exact a3, g_same _ _ _ _, by rw [g_j _ _ (by omega)]; exact a5, a6⟩, w⟩
end
theorem Rl.hat {X M : ow_S} (h : Rl X M) {hc j : Nat} (q2 : X.1 0 12 = nI hc) (h5 : hc ≤ 5) (hj : j < hc) : ∃ (P law : Nat) (T : Nat → List Nat) (k mo b f s : Nat), 1 ≤ P ∧ P ≤ 52 ∧ law < 6 ∧ x_at X P law (25 + j) k mo (nI b) (nI f) (nI s) T ∧ m_at M P law j k mo (nI b) (nI f) (nI s) T ∧ 1 ≤ b ∧ b ≤ 16 ∧ f < 65536 ∧ s < 65536 := by
  obtain ⟨P, law, T, k, mo, b, f, s, p1, p2, p3, p4, hl, r5, r6, t1, t2, hx, hm, w⟩ := h.hd q2 h5 hj
  exact ⟨P, law, T, k, mo, b, f, s, p1, p2, hl, ⟨p3, r5, t1, hx⟩, ⟨p4, r6, t2, hm⟩, w⟩
/-- the trial head becomes a head -/
theorem s_trial (fu : Nat) {X : ow_S} {P law j k mo : Nat} {b f s : Int32} {T : Nat → List Nat} (h : x_at X P law (25 + j) k mo b f s T) : ∃ X', f_X0_become fu 6 (25 + j) X = some X' ∧ x_at X' P law 6 k mo b f s T ∧ xs6 X X' := by
  obtain ⟨X', a1, a2, a3, -⟩ := s_X0_become fu (h := 6) (a := 25 + j) (by omega) X
  have w : xs6 X X' := fun c _ _ hc _ _ => a2 c hc
  obtain ⟨x0, x1, x2, x3, x4, x5⟩ := h.2.2.2
  exact ⟨X', a1, h.s6 w ⟨(a3 0 (by decide)).trans x0, (a3 1 (by decide)).trans x1, (a3 2 (by decide)).trans x2, (a3 3 (by decide)).trans x3, (a3 4 (by decide)).trans x4, x5⟩, w⟩
def h_low (R : Nat → Bool) : Nat → Nat → Int32
  | 0, _ => -1
  | q + 1, i => if R i = true then nI i else h_low R q (i + 1)
theorem s_X8_least_loop (fu : Nat) (hfu : 1000 ≤ fu) {P law k mo : Nat} {f s : Int32} {T : Nat → List Nat} (hP : P ≤ 52) (hl : law < 6) : ∀ (q i fn : Nat) (b0 : Int32) (X : ow_S), x_at X P law 6 k mo b0 f s T → i + q = 17 → q < fn → ∃ X', L_X8_least_26 fu fn (nI i) X = some (h_low (fun i => h_al (h_but T P k mo (nI i) f s 0) P 1) q i, X') ∧ xs6 X X' := by
  intro q
  induction q with
  | zero =>
    intro i fn b0 X h hi hf
    obtain ⟨fn, rfl⟩ : ∃ q, fn = q + 1 := ⟨fn - 1, by omega⟩
    refine ⟨X, ?_, xs6.rf X⟩
    rw [L_X8_least_26, if_pos (show (16 : Int32) < nI i by rw [show (16 : Int32) = nI 16 from rfl, n_lt (by decide) (by omega)]; omega)]; rfl
  | succ q ih =>
    intro i fn b0 X h hi hf
    obtain ⟨fn, rfl⟩ : ∃ q, fn = q + 1 := ⟨fn - 1, by omega⟩
    have h1 := h.wB (nI i)
    obtain ⟨X1, x1, x2⟩ := s_X8_all fu hfu hP hl (Or.inr rfl) h1.1 h1.2.1 h1.2.2.1 h1.2.2.2
    rw [L_X8_least_26, if_neg (show ¬ (16 : Int32) < nI i by rw [show (16 : Int32) = nI 16 from rfl, n_lt (by decide) (by omega)]; omega), e_let, x1, e_cl, h_low]
    have w := (xs6.w X 2 (nI i)).tr x2.s6
    by_cases c : h_al (h_but T P k mo (nI i) f s 0) P 1 = true
    · rw [if_pos c, if_neg (show ¬ (1 : Int32) = 0 by decide)]
      simp only [if_pos c]
      exact ⟨X1, rfl, w⟩
    · rw [if_neg c, if_pos rfl, e_let, show nI i + (1 : Int32) = nI (i + 1) from n_add i 1]
      simp only [if_neg c]
      obtain ⟨X2, y1, y2⟩ := ih (i + 1) fn _ X1 (h1.sb x2 (Or.inr rfl)) (by omega) (by omega)
      exact ⟨X2, y1, w.tr y2⟩
theorem s_X9_least_loop (fu : Nat) (hfu : 1000 ≤ fu) {P law j k mo : Nat} {bo f s : Int32} {T : Nat → List Nat} (hP : P ≤ 52) (hl : law < 6) (h5 : j < 5) : ∀ (i fn : Nat) (b0 : Int32) (M : ow_S), m_at M P law j k mo b0 f s T → i ≤ 16 → i < fn → ∃ M', L_X9_least_26 fu fn (nI j) bo (h_low (fun i => h_al (h_but T P k mo (nI i) f s 0) P 1) (16 - i) (i + 1)) (nI i) M = some (h_low (fun i => h_al (h_but T P k mo (nI i) f s 0) P 1) 16 1, M') ∧ msh j M M' ∧ m_head M'.1 j k mo bo f s := by
  have e3 : (3 : Int32) * nI j = nI (3 * j) := n_mul 3 j
  intro i
  induction i with
  | zero =>
    intro fn b0 M h hi hf
    obtain ⟨fn, rfl⟩ : ∃ q, fn = q + 1 := ⟨fn - 1, by omega⟩
    have h1 := h.wB bo
    refine ⟨ow_sI M 60 (3 * j) bo, ?_, h1.2, h1.1.2.2.2⟩
    rw [L_X9_least_26, if_pos (show nI 0 < (1 : Int32) by decide), e3, e_ckn _ (by omega) (by omega), n_cl (a := 3 * j) (by omega), e_let]
  | succ i ih =>
    intro fn b0 M h hi hf
    obtain ⟨fn, rfl⟩ : ∃ q, fn = q + 1 := ⟨fn - 1, by omega⟩
    obtain ⟨h1, h2⟩ := h.wB (nI (i + 1))
    obtain ⟨M1, z, m1, m2, m3⟩ := s_X9_ct fu hfu hP hl h5 h1.1 h1.2.1 h1.2.2.1 h1.2.2.2
    have h3 := h1.sb m3
    obtain ⟨M2, n1, n2, n3⟩ := ih fn _ M1 h3 (by omega) (by omega)
    refine ⟨M2, ?_, h2.tr ((m3.sh j).tr n2), n3⟩
    rw [L_X9_least_26, if_neg (show ¬ nI (i + 1) < (1 : Int32) by rw [show (1 : Int32) = nI 1 from rfl, n_lt (by omega) (by decide)]; omega), e3, e_ckn _ (by omega) (by omega), n_cl (a := 3 * j) (by omega), e_let, m1, e_cl, m2, e_cl, h3.1]
    simp only [L_X9_least_64, e_let, show nI (i + 1) + (-1 : Int32) = nI i from pk_m1 i]
    have hle := h_ct_le (h_but T P k mo (nI (i + 1)) f s 0) P 1 0
    have e16 : 16 - i = (16 - (i + 1)) + 1 := by omega
    rw [e16, h_low] at n1
    by_cases c : h_al (h_but T P k mo (nI (i + 1)) f s 0) P 1 = true
    · simp only [if_pos c] at n1
      rw [if_pos (by rw [n_eq (by omega) (by omega)]; have := hle.2.mpr c; omega)]
      exact n1
    · simp only [if_neg c] at n1
      rw [if_neg (by rw [n_eq (by omega) (by omega)]; intro z; exact c (hle.2.mp (by omega)))]
      exact n1
theorem o_least (fu : Nat) (hfu : 1000 ≤ fu) (a1 : Int32) : sameI (f_X8_least fu a1) (f_X9_least fu a1) := by
  intro X M h
  have stop : ∀ v : Int32, ∃ r X' M', some (v, X) = some (r, X') ∧ some (v, M) = some (r, M') ∧ Rl X' M' := fun v => ⟨_, _, _, rfl, rfl, h⟩
  obtain ⟨hc, q1, q2, q3, q4, b, e1, e2, hb⟩ := s_isHead fu h.2.1 a1
  rw [f_X8_least, f_X9_least, e1, e2, e_cl, e_cl]
  cases b with
  | false => exact stop _
  | true =>
    obtain ⟨j, hj, rfl⟩ := hb rfl
    obtain ⟨P, law, T, k, mo, bb, f, s, p1, p2, hl, hx, hm, -⟩ := h.hat q2 q1 hj
    have e3 : (3 : Int32) * nI j = nI (3 * j) := n_mul 3 j
    obtain ⟨X1, x1, x2, x3⟩ := s_trial fu hx
    obtain ⟨X2, y1, y2⟩ := s_X8_least_loop fu hfu p2 hl 16 1 fu _ X1 x2 (by omega) (by omega)
    obtain ⟨M1, m1, m2, m3⟩ := s_X9_least_loop fu hfu (bo := nI bb) p2 hl (show j < 5 by omega) 16 fu _ M hm (by omega) (by omega)
    rw [if_pos rfl, if_neg (show ¬ (1 : Int32) = 0 by decide), if_neg (show ¬ (1 : Int32) = 0 by decide), e_ckn _ (by omega) (by omega), n_cl (a := j) (by omega), e_let, x1, e_cv, e3, e_ckn _ (by omega) (by omega), n_cl (a := 3 * j) (by omega), e_let, hm.2.2.2.2.2.1]
    rw [show (1 : Int32) = nI 1 from rfl, y1]
    refine ⟨_, _, _, rfl, m1, h.sc (x3.tr y2).sc (m2.fin hm.2.2.2 m3)⟩
