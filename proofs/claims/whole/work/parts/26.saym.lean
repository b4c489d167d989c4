/-! the reference: a head on its way -/
def m_head (M : Nat → Nat → Int32) (h k mo : Nat) (b f s : Int32) : Prop := M 58 h = nI k ∧ M 59 h = nI mo ∧ M 60 (3 * h) = b ∧ M 60 (3 * h + 1) = f ∧ M 60 (3 * h + 2) = s ∧ k < 6 ∧ mo < 10
def m_goes (M : Nat → Nat → Int32) (l : List Int32) : Prop := M 56 36 = nI l.length ∧ l.length ≤ 60 ∧ ∀ p, p < l.length → M 74 p = l.getD p 0
/-- unchanged but for the names, the stack and what is kept -/
def m_fw (σ σ' : ow_S) : Prop := (∀ k, k ≠ 72 → k ≠ 73 → k ≠ 56 → σ'.1 k = σ.1 k) ∧ ∀ j, j ≠ 37 → j ≠ 38 → σ'.1 56 j = σ.1 56 j
theorem m_fw.rf (σ : ow_S) : m_fw σ σ := ⟨fun _ _ _ _ => rfl, fun _ _ _ => rfl⟩
theorem m_fw.tr {a b c : ow_S} (h1 : m_fw a b) (h2 : m_fw b c) : m_fw a c := ⟨fun k p q r => (h2.1 k p q r).trans (h1.1 k p q r), fun j p q => (h2.2 j p q).trans (h1.2 j p q)⟩
theorem m_head.fw {σ σ' : ow_S} {h k mo : Nat} {b f s : Int32} (hh : m_head σ.1 h k mo b f s) (w : m_fw σ σ') : m_head σ'.1 h k mo b f s := by
  unfold m_head at hh ⊢
  rw [w.1 58 (by decide) (by decide) (by decide), w.1 59 (by decide) (by decide) (by decide), w.1 60 (by decide) (by decide) (by decide)]
  exact hh
theorem m_text.fw {σ σ' : ow_S} {ru : Nat} {T : Nat → List Nat} (hh : m_text σ.1 ru T) (w : m_fw σ σ') : m_text σ'.1 ru T := by
  unfold m_text at hh ⊢
  rw [w.1 62 (by decide) (by decide) (by decide), w.1 63 (by decide) (by decide) (by decide)]
  exact hh
theorem m_goes.fw {σ σ' : ow_S} {l : List Int32} (hh : m_goes σ.1 l) (w : m_fw σ σ') : m_goes σ'.1 l := by
  unfold m_goes at hh ⊢
  rw [w.1 74 (by decide) (by decide) (by decide), w.2 36 (by decide) (by decide)]
  exact hh
theorem s_X9_asksOf (fu : Nat) (hfu : 1000 ≤ fu) {ru : Nat} (hru : ru < 6) {T : Nat → List Nat} {p : Nat} (hp : p < 3) {σ : ow_S} (hR : σ.1 56 12 = nI ru) (hT : m_text σ.1 ru T) (a b item place more : Int32) :
    ∃ σ', f_X9_asksOf fu (nI p) a b item place more σ = some (t_at (T p) a b item place (σ.1 56 0) more, σ') ∧ (∀ k, k ≠ 72 → k ≠ 73 → σ'.1 k = σ.1 k) ∧ σ'.2 = σ.2 := by
  simp only [f_X9_asksOf, e_let]
  have h0 : (ow_sI (ow_sI (ow_sI (ow_sI σ 73 0 a) 73 1 b) 73 2 item) 73 3 place).1 56 0 = σ.1 56 0 := by simp [g_if]
  rw [h0]
  generalize hσ : ow_sI (ow_sI (ow_sI (ow_sI (ow_sI (ow_sI σ 73 0 a) 73 1 b) 73 2 item) 73 3 place) 73 4 (σ.1 56 0)) 73 5 more = τ
  have hk : ∀ k, k ≠ 73 → τ.1 k = σ.1 k := by
    intro k hk
    rw [← hσ]
    simp [g_k _ _ hk]
  have hT1 : m_text τ.1 ru T := by
    unfold m_text at hT ⊢
    rw [hk 62 (by decide), hk 63 (by decide)]
    exact hT
  obtain ⟨σ1, a1, b1, e1⟩ := s_X9_tellsOf fu hfu hru hp (σ := τ) (by rw [hk 56 (by decide)]; exact hR) hT1
  rw [a1, e_cl]
  refine ⟨σ1, ?_, fun k h1 h2 => by rw [b1 k h1, hk k h2], ?_⟩
  · rw [← hσ]
    simp [g_if]
  · rw [e1, ← hσ]; rfl
theorem s_X9_sees (fu : Nat) {h k mo p : Nat} {b f s : Int32} {σ : ow_S} (hh : m_head σ.1 h k mo b f s) (h5 : h < 5) (hp : p < 1000) : f_X9_sees fu (nI h) (nI p) σ = some (if h_sees k mo p = true then 1 else 0, σ) := by
  obtain ⟨hk, hm, -, -, -, k6, m10⟩ := hh
  have e3 : nI k = (3 : Int32) ↔ k = 3 := n_eq (b := 3) (by omega) (by decide)
  have e1 : nI k = (1 : Int32) ↔ k = 1 := n_eq (b := 1) (by omega) (by decide)
  have ed : nI mo / (3 : Int32) = nI (mo / 3) := n_div (b := 3) (by omega) (by decide) (by decide)
  have ea : nI mo + (2 : Int32) = nI (mo + 2) := n_add mo 2
  have eb : nI mo + (1 : Int32) = nI (mo + 1) := n_add mo 1
  have q : ¬ nI (mo + 2) = (0 : Int32) := nI_ne0 (by omega) (by omega)
  have er : ow_irem (nI p) (nI (mo + 2)) = nI (p % (mo + 2)) := n_rem (by omega) (by omega) (by omega)
  have hlt : p % (mo + 2) < mo + 2 := Nat.mod_lt _ (by omega)
  have hle : nI p < nI (mo / 3) ↔ p < mo / 3 := n_lt (by omega) (by omega)
  have ecl : (nI h).toNatClampNeg = h := n_cl (by omega)
  have e50 : L_X9_sees_50 fu (nI h) (nI p) (nI mo) σ = some (if k = 3 ∧ p < mo / 3 then 0 else 1, σ) := by
    simp only [L_X9_sees_50, L_X9_sees_67]
    rw [e_ckn _ (by omega) h5]
    simp only [ecl, hk, e3, ed, hle]
    by_cases k3 : k = 3 <;> by_cases hx : p < mo / 3 <;> simp [k3, hx]
  have e32 : ∀ w : Int32, L_X9_sees_32 fu (nI h) (nI p) (nI mo) w σ = some (if w = 0 then (if k = 3 ∧ p < mo / 3 then 0 else 1) else if p % (mo + 2) = mo + 1 then 0 else (if k = 3 ∧ p < mo / 3 then 0 else 1), σ) := by
    intro w
    simp only [L_X9_sees_32, e50, ea, eb, er]
    by_cases hw : w = 0
    · rw [if_pos hw, if_pos hw]
    · rw [if_neg hw, if_neg hw, e_ck _ q]
      by_cases hx : p % (mo + 2) = mo + 1
      · rw [if_pos (by rw [hx]), if_pos hx]
      · rw [if_neg (by rw [n_eq (by omega) (by omega)]; exact hx), if_neg hx]
  simp only [f_X9_sees, L_X9_sees_27]
  rw [e_ckn _ (by omega) h5, e_let, e_ckn _ (by omega) h5]
  simp only [ecl, hk, hm, e1, e3, e32]
  unfold h_sees
  by_cases k1 : k = 1
  · by_cases hx : p % (mo + 2) = mo + 1 <;> simp [k1, hx]
  · rw [if_neg k1, e_ckn _ (by omega) h5]
    by_cases k3 : k = 3
    · by_cases hx : p % (mo + 2) = mo + 1 <;> by_cases hy : p < mo / 3 <;> simp [k3, hx, hy]
    · simp [k1, k3]
theorem s_X9_keepsOf (fu : Nat) {h k mo p : Nat} {b f s : Int32} {σ : ow_S} (hh : m_head σ.1 h k mo b f s) (h5 : h < 5) (hp : p < 1000) (v : Int32) : f_X9_keepsOf fu (nI h) v (nI p) σ = some (h_keeps k mo p v, σ) := by
  obtain ⟨hk, hm, -, -, -, k6, m10⟩ := hh
  have e2 : nI k = (2 : Int32) ↔ k = 2 := n_eq (b := 2) (by omega) (by decide)
  have e4 : nI k = (4 : Int32) ↔ k = 4 := n_eq (b := 4) (by omega) (by decide)
  have ea : nI mo + (3 : Int32) = nI (mo + 3) := n_add mo 3
  have eb : nI mo + (2 : Int32) = nI (mo + 2) := n_add mo 2
  have q : ¬ nI (mo + 3) = (0 : Int32) := nI_ne0 (by omega) (by omega)
  have er : ow_irem (nI p) (nI (mo + 3)) = nI (p % (mo + 3)) := n_rem (by omega) (by omega) (by omega)
  have hlt : p % (mo + 3) < mo + 3 := Nat.mod_lt _ (by omega)
  have ecl : (nI h).toNatClampNeg = h := n_cl (by omega)
  have e28 : ∀ w : Int32, L_X9_keepsOf_28 fu (nI h) v w σ = some (if k = 2 then w else if k = 4 then w - (w &&& 1) else v, σ) := by
    intro w
    simp only [L_X9_keepsOf_28]
    rw [e_ckn _ (by omega) h5]
    simp only [ecl, hk, e2, e4]
    by_cases k2 : k = 2
    · rw [if_pos k2, if_pos k2]
    · rw [if_neg k2, if_neg k2, e_ckn _ (by omega) h5]
      by_cases k4 : k = 4
      · rw [if_pos k4, if_pos k4]
      · rw [if_neg k4, if_neg k4]
  simp only [f_X9_keepsOf]
  rw [e_ckn _ (by omega) h5, e_let]
  simp only [ecl, hm, ea, eb, er, e28]
  rw [e_ck _ q]
  unfold h_keeps h_slip
  by_cases hx : p % (mo + 3) = mo + 2
  · rw [if_pos (by rw [hx]), if_pos hx]
  · rw [if_neg (by rw [n_eq (by omega) (by omega)]; exact hx), if_neg hx]
theorem s_X9_maskOf (fu : Nat) {h : Nat} {σ : ow_S} (h5 : h < 5) : f_X9_maskOf fu (nI h) σ = some (h_mask (σ.1 60 (3 * h)), σ) := by
  simp only [f_X9_maskOf]
  rw [show (3 : Int32) = nI 3 from rfl, n_mul, e_ckn _ (by omega) (by omega)]
  simp only [n_cl (a := 3 * h) (by omega), h_mask]
theorem s_X9_comes (fu : Nat) (hfu : 1000 ≤ fu) {ru h k mo p : Nat} {b f s : Int32} {T : Nat → List Nat} (hru : ru < 6) {σ : ow_S} (hR : σ.1 56 12 = nI ru) (hT : m_text σ.1 ru T) (hH : m_head σ.1 h k mo b f s) (h5 : h < 5) (hp : p < 1000) (card : Int32) :
    ∃ σ', f_X9_comes fu (nI h) card (nI p) σ = some σ' ∧ (σ'.1 56 37, σ'.1 56 38) = h_step T (σ.1 56 0) k mo b card p (σ.1 56 37, σ.1 56 38) ∧ m_fw σ σ' := by
  have ecl : (nI h).toNatClampNeg = h := n_cl (by omega)
  simp only [f_X9_comes, s_X9_sees fu hH h5 hp, e_cl]
  by_cases hs : h_sees k mo p = true
  · rw [if_pos hs, if_neg (by decide), e_ckn _ (by omega) h5]
    simp only [ecl, hH.2.1]
    obtain ⟨σ1, a1, b1, e1⟩ := s_X9_asksOf fu hfu hru (p := 0) (by decide) hR hT (σ.1 56 37) (σ.1 56 38) card (nI p) (nI mo)
    have w1 : m_fw σ σ1 := ⟨fun q h1 h2 _ => b1 q h1 h2, fun j _ _ => by rw [b1 56 (by decide) (by decide)]⟩
    rw [show f_X9_asksOf fu 0 (σ.1 56 37) (σ.1 56 38) card (nI p) (nI mo) σ = _ from a1, e_cl, s_X9_keepsOf fu (hH.fw w1) h5 hp, e_cl, e_ckn _ (by omega) h5]
    simp only [ecl, b1 56 (by decide) (by decide), b1 59 (by decide) (by decide), hH.2.1]
    obtain ⟨σ2, a2, b2, e2⟩ := s_X9_asksOf fu hfu hru (p := 1) (by decide) (σ := σ1) (by rw [b1 56 (by decide) (by decide)]; exact hR) (hT.fw w1) (σ.1 56 37) (σ.1 56 38) card (nI p) (nI mo)
    rw [show f_X9_asksOf fu 1 (σ.1 56 37) (σ.1 56 38) card (nI p) (nI mo) σ1 = _ from a2, e_cl, s_X9_maskOf fu h5, e_cl, e_let, s_X9_maskOf fu h5, e_cl, e_let]
    have h60 : σ2.1 60 (3 * h) = b := by rw [b2 60 (by decide) (by decide), b1 60 (by decide) (by decide)]; exact hH.2.2.1
    rw [g_k _ _ (show 60 ≠ 56 by decide), h60, b1 56 (by decide) (by decide)]
    refine ⟨_, rfl, ?_, fun q h1 h2 h3 => ?_, fun j h1 h2 => ?_⟩
    · simp only [g_same, g_if]
      rw [h_step, if_pos hs]
      simp
    · rw [g_k _ _ h3, g_k _ _ h3, b2 q h1 h2, b1 q h1 h2]
    · rw [g_j _ _ h2, g_j _ _ h1, b2 56 (by decide) (by decide), b1 56 (by decide) (by decide)]
  · have hs' : h_sees k mo p = false := by simpa using hs
    rw [hs']
    refine ⟨σ, rfl, ?_, m_fw.rf σ⟩
    rw [h_step, if_neg hs]
theorem h_many_succ (T : Nat → List Nat) (n : Int32) (k mo : Nat) (b : Int32) (l : List Int32) : ∀ (q : Nat) (s : Int32 × Int32), h_many T n k mo b l (q + 1) s = h_go T n k mo b l 0 (h_many T n k mo b l q s) := by
  intro q
  induction q with
  | zero => intro s; rfl
  | succ q ih => intro s; rw [h_many, ih]; rfl
theorem s_X9_timesOf (fu : Nat) {h k mo : Nat} {b f s : Int32} {σ : ow_S} (hh : m_head σ.1 h k mo b f s) (h5 : h < 5) : f_X9_timesOf fu (nI h) σ = some (nI (h_times k mo), σ) := by
  obtain ⟨hk, hm, -, -, -, k6, m10⟩ := hh
  have ecl : (nI h).toNatClampNeg = h := n_cl (by omega)
  have e5 : nI k = (5 : Int32) ↔ k = 5 := n_eq (b := 5) (by omega) (by decide)
  have ed : nI mo / (5 : Int32) = nI (mo / 5) := n_div (b := 5) (by omega) (by decide) (by decide)
  simp only [f_X9_timesOf, h_times]
  rw [e_ckn _ (by omega) h5]
  simp only [ecl, hk, hm, e5, ed]
  by_cases k5 : k = 5
  · rw [if_pos k5, if_pos k5, e_ckn _ (by omega) h5, show (2 : Int32) = nI 2 from rfl, n_add]
  · rw [if_neg k5, if_neg k5]; rfl
/-- the inner loop: the cards from place i on, of a going that looks at m of them; then the next going -/
theorem s_X9_goesBy_in (fu : Nat) (hfu : 1000 ≤ fu) {ru h k mo : Nat} {b f s : Int32} {T : Nat → List Nat} (hru : ru < 6) (h5 : h < 5) {l : List Int32} {m g : Nat} (hg : g < 10) (hm : m ≤ l.length) (k7 : Int32 → Int32 → Int32 → ow_S → Option ow_S) : ∀ (ls : List Int32) (i fn : Nat) (σ : ow_S), σ.1 56 12 = nI ru → m_text σ.1 ru T → m_head σ.1 h k mo b f s → m_goes σ.1 l → (∀ j, j < ls.length → l.getD (i + j) 0 = ls.getD j 0) → i + ls.length = (if g < h_times k mo then l.length else m) → ls.length < fn →
    ∃ σ', L_X9_goesBy_19 fu k7 fn (nI h) (nI m) (nI g) (nI i) σ = k7 (nI h) (nI m) (nI (g + 1)) σ' ∧ (σ'.1 56 37, σ'.1 56 38) = h_go T (σ.1 56 0) k mo b ls i (σ.1 56 37, σ.1 56 38) ∧ m_fw σ σ' := by
  intro ls
  induction ls with
  | nil =>
    intro i fn σ hR hT hH hG hC hi hf
    obtain ⟨fn, rfl⟩ : ∃ q, fn = q + 1 := ⟨fn - 1, by simp at hf; omega⟩
    have ht7 : h_times k mo < 10 := by have := hH.2.2.2.2.2; unfold h_times; split <;> omega
    have h60 := hG.2.1
    refine ⟨σ, ?_, rfl, m_fw.rf σ⟩
    simp only [List.length_nil, Nat.add_zero] at hi
    rw [L_X9_goesBy_19, s_X9_timesOf fu hH h5, e_cl]
    have key : ∀ w : Nat, w = i → w ≤ 60 → L_X9_goesBy_38 fu k7 (L_X9_goesBy_19 fu k7 fn) (nI h) (nI m) (nI g) (nI i) (nI i) (nI w) σ = k7 (nI h) (nI m) (nI (g + 1)) σ := by
      intro w hw hw2
      simp only [L_X9_goesBy_38, e_let]
      rw [if_pos (by rw [n_le (by omega) (by omega)]; omega), show (1 : Int32) = nI 1 from rfl, n_add]
    by_cases hc : g < h_times k mo
    · rw [if_pos hc] at hi
      rw [if_neg (by rw [n_le (by omega) (by omega)]; omega), hG.1, key l.length hi.symm (by omega)]
    · rw [if_neg hc] at hi
      rw [if_pos (by rw [n_le (by omega) (by omega)]; omega), key m hi.symm (by omega)]
  | cons x ls ih =>
    intro i fn σ hR hT hH hG hC hi hf
    simp only [List.length_cons] at hi hf hC
    obtain ⟨fn, rfl⟩ : ∃ q, fn = q + 1 := ⟨fn - 1, by omega⟩
    have ht7 : h_times k mo < 10 := by have := hH.2.2.2.2.2; unfold h_times; split <;> omega
    have h60 := hG.2.1
    have hil : i < l.length := by split at hi <;> omega
    have hx : σ.1 74 i = x := by rw [hG.2.2 i hil]; have := hC 0 (by omega); simpa using this
    obtain ⟨σ1, a1, b1, w1⟩ := s_X9_comes fu hfu hru hR hT hH h5 (p := i) (by omega) x
    have h0 : σ1.1 56 0 = σ.1 56 0 := w1.2 0 (by decide) (by decide)
    obtain ⟨σ2, a2, b2, w2⟩ := ih (i + 1) fn σ1 (by rw [w1.2 12 (by decide) (by decide)]; exact hR) (hT.fw w1) (hH.fw w1) (hG.fw w1) (fun j hj => by
      rw [show i + 1 + j = i + (j + 1) by omega, hC (j + 1) (by omega), List.getD_cons_succ]) (by omega) (by omega)
    refine ⟨σ2, ?_, ?_, w1.tr w2⟩
    · rw [L_X9_goesBy_19, s_X9_timesOf fu hH h5, e_cl]
      have key : ∀ w : Nat, i < w → w ≤ 60 → L_X9_goesBy_38 fu k7 (L_X9_goesBy_19 fu k7 fn) (nI h) (nI m) (nI g) (nI i) (nI i) (nI w) σ = k7 (nI h) (nI m) (nI (g + 1)) σ2 := by
        intro w hw hw2
        simp only [L_X9_goesBy_38]
        rw [if_neg (by rw [n_le (by omega) (by omega)]; omega), e_ckn _ (by omega) (by omega)]
        simp only [n_cl (a := i) (by omega), hx, a1, e_cv, e_let]
        rw [show (1 : Int32) = nI 1 from rfl, n_add]
        exact a2
      by_cases hc : g < h_times k mo
      · rw [if_pos hc] at hi
        rw [if_neg (by rw [n_le (by omega) (by omega)]; omega), hG.1, key l.length (by omega) (by omega)]
      · rw [if_neg hc] at hi
        rw [if_pos (by rw [n_le (by omega) (by omega)]; omega), key m (by omega) (by omega)]
    · rw [b2, b1, h0, h_go]
theorem s_X9_goesBy_out (fu : Nat) (hfu : 1000 ≤ fu) {ru h k mo : Nat} {b f s : Int32} {T : Nat → List Nat} (hru : ru < 6) (h5 : h < 5) {l : List Int32} {m : Nat} (hm : m ≤ l.length) : ∀ (q g fn : Nat) (σ : ow_S), σ.1 56 12 = nI ru → m_text σ.1 ru T → m_head σ.1 h k mo b f s → m_goes σ.1 l → g + q = h_times k mo → q + 1 < fn →
    ∃ σ', L_X9_goesBy_7 fu fn (nI h) (nI m) (nI g) σ = some σ' ∧ (σ'.1 56 37, σ'.1 56 38) = h_go T (σ.1 56 0) k mo b (l.take m) 0 (h_many T (σ.1 56 0) k mo b l q (σ.1 56 37, σ.1 56 38)) ∧ m_fw σ σ' := by
  intro q
  induction q with
  | zero =>
    intro g fn σ hR hT hH hG hg hf
    obtain ⟨fn, rfl⟩ : ∃ z, fn = z + 2 := ⟨fn - 2, by omega⟩
    have ht7 : h_times k mo < 10 := by have := hH.2.2.2.2.2; unfold h_times; split <;> omega
    have h60 := hG.2.1
    have hlen : (l.take m).length = m := by rw [List.length_take]; omega
    rw [L_X9_goesBy_7, s_X9_timesOf fu hH h5, e_cl, if_neg (by rw [n_lt (by omega) (by omega)]; omega)]
    obtain ⟨σ1, a1, b1, w1⟩ := s_X9_goesBy_in fu hfu hru h5 (g := g) (by omega) hm (L_X9_goesBy_7 fu (fn + 1)) (l.take m) 0 fu σ hR hT hH hG (fun j hj => by
      rw [hlen] at hj
      rw [Nat.zero_add]
      simp [List.getD_eq_getElem?_getD, List.getElem?_take, hj]) (by rw [hlen, if_neg (by omega)]; omega) (by rw [hlen]; omega)
    rw [show (0 : Int32) = nI 0 from rfl, a1, L_X9_goesBy_7, s_X9_timesOf fu (hH.fw w1) h5, e_cl, if_pos (by rw [n_lt (by omega) (by omega)]; omega)]
    exact ⟨σ1, rfl, b1, w1⟩
  | succ q ih =>
    intro g fn σ hR hT hH hG hg hf
    obtain ⟨fn, rfl⟩ : ∃ z, fn = z + 1 := ⟨fn - 1, by omega⟩
    have ht7 : h_times k mo < 10 := by have := hH.2.2.2.2.2; unfold h_times; split <;> omega
    have h60 := hG.2.1
    rw [L_X9_goesBy_7, s_X9_timesOf fu hH h5, e_cl, if_neg (by rw [n_lt (by omega) (by omega)]; omega)]
    obtain ⟨σ1, a1, b1, w1⟩ := s_X9_goesBy_in fu hfu hru h5 (g := g) (by omega) hm (L_X9_goesBy_7 fu fn) l 0 fu σ hR hT hH hG (fun j hj => by rw [Nat.zero_add]) (by rw [if_pos (by omega)]; omega) (by omega)
    have h0 : σ1.1 56 0 = σ.1 56 0 := w1.2 0 (by decide) (by decide)
    obtain ⟨σ2, a2, b2, w2⟩ := ih (g + 1) fn σ1 (by rw [w1.2 12 (by decide) (by decide)]; exact hR) (hT.fw w1) (hH.fw w1) (hG.fw w1) (by omega) (by omega)
    rw [show (0 : Int32) = nI 0 from rfl, a1]
    refine ⟨σ2, a2, ?_, w1.tr w2⟩
    rw [b2, b1, h0]
    rfl
/-- all goings but the last one, and m cards of that -/
theorem s_X9_goesBy (fu : Nat) (hfu : 1000 ≤ fu) {ru h k mo : Nat} {b f s : Int32} {T : Nat → List Nat} (hru : ru < 6) (h5 : h < 5) {l : List Int32} {m : Nat} (hm : m ≤ l.length) {σ : ow_S} (hR : σ.1 56 12 = nI ru) (hT : m_text σ.1 ru T) (hH : m_head σ.1 h k mo b f s) (hG : m_goes σ.1 l) :
    ∃ σ', f_X9_goesBy fu (nI h) (nI m) σ = some σ' ∧ (σ'.1 56 37, σ'.1 56 38) = h_go T (σ.1 56 0) k mo b (l.take m) 0 (h_many T (σ.1 56 0) k mo b l (h_times k mo - 1) (f &&& h_mask b, s &&& h_mask b)) ∧ m_fw σ σ' := by
  have hH' := hH
  obtain ⟨hk, hmo, hb, hf, hs, k6, m10⟩ := hH
  have ht1 : 1 ≤ h_times k mo ∧ h_times k mo < 10 := by unfold h_times; split <;> omega
  simp only [f_X9_goesBy, f_X9_beginsOn, s_X9_maskOf fu h5, e_cl, e_let]
  rw [show (3 : Int32) = nI 3 from rfl, show (1 : Int32) = nI 1 from rfl, show (2 : Int32) = nI 2 from rfl, n_mul, n_add, n_add, e_ckn _ (by omega) (by omega), e_ckn _ (by omega) (by omega)]
  simp only [n_cl (a := 3 * h + 1) (by omega), n_cl (a := 3 * h + 2) (by omega), g_k _ _ (show 60 ≠ 56 by decide), hb, hf, hs, e_cv]
  generalize hτ : ow_sI (ow_sI σ 56 37 (f &&& h_mask b)) 56 38 (s &&& h_mask b) = τ
  have w0 : m_fw σ τ := by
    rw [← hτ]
    exact ⟨fun q _ _ h3 => by rw [g_k _ _ h3, g_k _ _ h3], fun j h1 h2 => by rw [g_j _ _ h2, g_j _ _ h1]⟩
  have h37 : τ.1 56 37 = f &&& h_mask b := by rw [← hτ]; simp [g_if]
  have h38 : τ.1 56 38 = s &&& h_mask b := by rw [← hτ]; simp [g_if]
  obtain ⟨σ1, a1, b1, w1⟩ := s_X9_goesBy_out fu hfu hru h5 hm (h_times k mo - 1) 1 fu τ (by rw [w0.2 12 (by decide) (by decide)]; exact hR) (hT.fw w0) (hH'.fw w0) (hG.fw w0) (by omega) (by omega)
  refine ⟨σ1, a1, ?_, w0.tr w1⟩
  rw [b1, h37, h38, w0.2 0 (by decide) (by decide)]
theorem h_bd_m (fu : Nat) (v : Int32) (σ : ow_S) : f_X9_within fu v (-1000000) 1000000 σ = some (h_bd v, σ) := by
  simp only [f_X9_within, h_bd]
  by_cases h1 : (-1000000 : Int32) ≤ v
  · rw [if_pos h1, if_neg (Int32.not_lt.mpr h1)]
    by_cases h2 : v ≤ 1000000
    · rw [if_pos h2, if_neg (Int32.not_lt.mpr h2)]
    · rw [if_neg h2, if_pos (Int32.not_le.mp h2)]
  · rw [if_neg h1, if_pos (Int32.not_le.mp h1)]
theorem s_X9_saysOf (fu : Nat) (hfu : 1000 ≤ fu) {ru h k mo : Nat} {b f s : Int32} {T : Nat → List Nat} (hru : ru < 6) (h5 : h < 5) {l : List Int32} {σ : ow_S} (hR : σ.1 56 12 = nI ru) (hT : m_text σ.1 ru T) (hH : m_head σ.1 h k mo b f s) (hG : m_goes σ.1 l) :
    ∃ σ', f_X9_saysOf fu (nI h) σ = some (h_say T (σ.1 56 0) k mo b f s l, σ') ∧ m_fw σ σ' := by
  have h60 := hG.2.1
  have ecl : (nI h).toNatClampNeg = h := n_cl (by omega)
  have ht1 : 1 ≤ h_times k mo := by unfold h_times; split <;> omega
  obtain ⟨σ1, a1, b1, w1⟩ := s_X9_goesBy fu hfu hru h5 (Nat.le_refl _) hR hT hH hG
  simp only [f_X9_saysOf, hG.1, a1, e_cv]
  rw [e_ckn _ (by omega) h5]
  simp only [ecl, (hH.fw w1).2.1, w1.2 36 (by decide) (by decide), hG.1]
  obtain ⟨σ2, a2, b2, e2⟩ := s_X9_asksOf fu hfu hru (p := 2) (by decide) (σ := σ1) (by rw [w1.2 12 (by decide) (by decide)]; exact hR) (hT.fw w1) (σ1.1 56 37) (σ1.1 56 38) 0 (nI l.length) (nI mo)
  rw [show (2 : Int32) = nI 2 from rfl, a2, e_cl, h_bd_m, e_cl]
  refine ⟨σ2, ?_, w1.tr ⟨fun q h1 h2 _ => b2 q h1 h2, fun j _ _ => by rw [b2 56 (by decide) (by decide)]⟩⟩
  rw [List.take_length, ← h_many_succ, Nat.sub_add_cancel ht1] at b1
  have q1 : σ1.1 56 37 = _ := congrArg Prod.fst b1
  have q2 : σ1.1 56 38 = _ := congrArg Prod.snd b1
  rw [q1, q2, w1.2 0 (by decide) (by decide), h_say]
