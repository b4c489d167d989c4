/-! the signs of a text's bytes -/
def lx_b (B : Nat → Nat) : Nat → Nat → Nat
  | 0, p => p
  | q + 1, p => if B p = 32 ∨ B p = 10 then lx_b B q (p + 1) else p
def lx_l (B : Nat → Nat) : Nat → Nat → Nat
  | 0, p => p
  | q + 1, p => if 97 ≤ B p ∧ B p ≤ 122 then lx_l B q (p + 1) else p
def lx_n (B : Nat → Nat) : Nat → Nat → Nat → Nat → Nat × Nat × Nat
  | 0, p, c, v => (p, c, v)
  | q + 1, p, c, v => if 48 ≤ B p ∧ B p ≤ 57 then lx_n B q (p + 1) (c + 1) (if c < 4 then 10 * v + (B p - 48) else v) else (p, c, v)
def wd : List (List Nat) := [[97], [98], [105, 116, 101, 109], [112, 108, 97, 99, 101], [110], [109, 111, 114, 101], [111, 114], [97, 110, 100], [110, 111, 116], [102, 105, 114, 115, 116], [115, 101, 99, 111, 110, 100], [115, 97, 121, 115]]
def lx_W (B : Nat → Nat) (p e : Nat) : List Nat := (List.range (e - p)).map (fun j => B (p + j))
def lx_w (W : List Nat) : Nat :=
  if W = wd.getD 0 [] then 0 else if W = wd.getD 1 [] then 1 else if W = wd.getD 2 [] then 2 else if W = wd.getD 3 [] then 3 else if W = wd.getD 4 [] then 4 else if W = wd.getD 5 [] then 5 else if W = wd.getD 6 [] then 6 else if W = wd.getD 7 [] then 7 else if W = wd.getD 8 [] then 8 else if W = wd.getD 9 [] then 18 else if W = wd.getD 10 [] then 19 else if W = wd.getD 11 [] then 20 else 22
def lx_s (v : Nat) : Nat := if v = 40 then 15 else if v = 41 then 16 else if v = 42 then 13 else if v = 43 then 11 else if v = 45 then 12 else if v = 59 then 17 else if v = 60 then 9 else if v = 61 then 10 else 22
/-- kind of the sign at p, its end -/
def lx_at (B : Nat → Nat) (n p : Nat) : Nat × Nat :=
  if n ≤ p then (21, p)
  else if 97 ≤ B p ∧ B p ≤ 122 then (lx_w (lx_W B p (lx_l B (n - p) p)), lx_l B (n - p) p)
  else if 48 ≤ B p ∧ B p ≤ 57 then (if 4 < (lx_n B (n - p) p 0 0).2.1 then 22 else 100 + (lx_n B (n - p) p 0 0).2.2, (lx_n B (n - p) p 0 0).1)
  else (lx_s (B p), p + 1)
theorem lx_b_le (B : Nat → Nat) : ∀ (q p : Nat), p ≤ lx_b B q p ∧ lx_b B q p ≤ p + q := by
  intro q
  induction q with
  | zero => intro p; exact ⟨Nat.le_refl _, Nat.le_refl _⟩
  | succ q ih =>
    intro p
    rw [lx_b]
    split
    · have := ih (p + 1); omega
    · omega
theorem lx_l_le (B : Nat → Nat) : ∀ (q p : Nat), p ≤ lx_l B q p ∧ lx_l B q p ≤ p + q := by
  intro q
  induction q with
  | zero => intro p; exact ⟨Nat.le_refl _, Nat.le_refl _⟩
  | succ q ih =>
    intro p
    rw [lx_l]
    split
    · have := ih (p + 1); omega
    · omega
theorem lx_n_le (B : Nat → Nat) : ∀ (q p c v : Nat), p ≤ (lx_n B q p c v).1 ∧ (lx_n B q p c v).1 ≤ p + q ∧ (lx_n B q p c v).1 = p + ((lx_n B q p c v).2.1 - c) ∧ c ≤ (lx_n B q p c v).2.1 := by
  intro q
  induction q with
  | zero => intro p c v; simp [lx_n]
  | succ q ih =>
    intro p c v
    rw [lx_n]
    split
    · have := ih (p + 1) (c + 1) (if c < 4 then 10 * v + (B p - 48) else v); omega
    · simp
def lx_nv (c v : Nat) : Prop := (c = 0 → v < 1) ∧ (c = 1 → v < 10) ∧ (c = 2 → v < 100) ∧ (c = 3 → v < 1000) ∧ v < 10000
theorem lx_n_v (B : Nat → Nat) : ∀ (q p c v : Nat), lx_nv c v → lx_nv (lx_n B q p c v).2.1 (lx_n B q p c v).2.2 := by
  intro q
  induction q with
  | zero => intro p c v h; exact h
  | succ q ih =>
    intro p c v h
    rw [lx_n]
    split
    · refine ih _ _ _ ?_
      unfold lx_nv at h ⊢
      split <;> omega
    · exact h
/-- the sign at or after p: its place, kind, end -/
def lx_pl (B : Nat → Nat) (n p : Nat) : Nat := lx_b B (n - p) p
def lx_tk (B : Nat → Nat) (n p : Nat) : Nat := (lx_at B n (lx_pl B n p)).1
def lx_nx (B : Nat → Nat) (n p : Nat) : Nat := (lx_at B n (lx_pl B n p)).2
theorem lx_pl_le (B : Nat → Nat) {n p : Nat} (h : p ≤ n) : p ≤ lx_pl B n p ∧ lx_pl B n p ≤ n := by
  have := lx_b_le B (n - p) p; unfold lx_pl; omega
theorem lx_nx_le (B : Nat → Nat) {n p : Nat} (h : p ≤ n) : lx_pl B n p ≤ lx_nx B n p ∧ lx_nx B n p ≤ n ∧ (lx_tk B n p ≠ 21 → p < lx_nx B n p) := by
  have h1 := lx_pl_le B h
  unfold lx_nx lx_tk lx_at
  split
  · exact ⟨Nat.le_refl _, h1.2, fun h => absurd rfl h⟩
  · rename_i hn
    obtain ⟨q, hq⟩ : ∃ q, n - lx_pl B n p = q + 1 := ⟨n - lx_pl B n p - 1, by omega⟩
    split
    · rename_i hl
      dsimp only
      have := lx_l_le B (n - lx_pl B n p) (lx_pl B n p)
      have h3 : lx_pl B n p + 1 ≤ lx_l B (n - lx_pl B n p) (lx_pl B n p) := by
        rw [hq, lx_l, if_pos hl]; exact (lx_l_le B q _).1
      omega
    · split
      · rename_i hl
        dsimp only
        have := lx_n_le B (n - lx_pl B n p) (lx_pl B n p) 0 0
        have h3 : lx_pl B n p + 1 ≤ (lx_n B (n - lx_pl B n p) (lx_pl B n p) 0 0).1 := by
          rw [hq, lx_n, if_pos hl]; exact (lx_n_le B q _ _ _).1
        omega
      · dsimp only
        omega
theorem lx_w_le (W : List Nat) : lx_w W ≤ 22 ∧ lx_w W ≠ 21 ∧ (lx_w W < 9 ∨ 17 < lx_w W) := by
  unfold lx_w
  (repeat' split) <;> decide
theorem lx_s_le (v : Nat) : lx_s v ≤ 22 ∧ lx_s v ≠ 21 := by
  unfold lx_s
  (repeat' split) <;> decide
theorem lx_tk_ok (B : Nat → Nat) (n p : Nat) : lx_tk B n p ≤ 22 ∨ (100 ≤ lx_tk B n p ∧ lx_tk B n p < 10100) := by
  unfold lx_tk lx_at
  split
  · left; exact (by decide : 21 ≤ 22)
  · split
    · left; exact (lx_w_le _).1
    · split
      · have := lx_n_v B (n - lx_pl B n p) (lx_pl B n p) 0 0 (by unfold lx_nv; omega)
        unfold lx_nv at this
        dsimp only
        split
        · left; decide
        · right; omega
      · left; exact (lx_s_le _).1
theorem l_Weq (f : Nat → Nat) (m : Nat) (l : List Nat) : (List.range m).map f = l ↔ m = l.length ∧ ∀ z, z < m → f z = l.getD z 0 := by
  constructor
  · rintro rfl
    refine ⟨by simp, fun z hz => ?_⟩
    rw [List.getD_eq_getElem?_getD, List.getElem?_map, List.getElem?_range hz]; rfl
  · rintro ⟨h1, h2⟩
    apply List.ext_getElem?
    intro z
    by_cases hz : z < m
    · rw [List.getElem?_map, List.getElem?_range hz, List.getElem?_eq_getElem (by omega)]
      have := h2 z hz
      rw [List.getD_eq_getElem?_getD, List.getElem?_eq_getElem (by omega)] at this
      simp [this]
    · rw [List.getElem?_eq_none (by simp; omega), List.getElem?_eq_none (by omega)]
/-- the bytes that wait, in the class's reader -/
def x_by (σ : ow_S) (B : Nat → Nat) (n : Nat) : Prop := σ.1 7 1 = nI n ∧ n ≤ 160 ∧ (∀ i, i < n → σ.1 8 i = nI (B i)) ∧ ∀ i, B i < 256
/-- only the reader's own notes have changed -/
def x_rfr (σ σ' : ow_S) : Prop := (∀ c z, (c ≠ 7 ∨ (z ≠ 2 ∧ z ≠ 3 ∧ z ≠ 4)) → σ'.1 c z = σ.1 c z) ∧ σ'.2 = σ.2
theorem x_rfr.rf (σ : ow_S) : x_rfr σ σ := ⟨fun _ _ _ => rfl, rfl⟩
theorem x_rfr.tr {a b c : ow_S} (h : x_rfr a b) (h' : x_rfr b c) : x_rfr a c := ⟨fun k z h1 => (h'.1 k z h1).trans (h.1 k z h1), h'.2.trans h.2⟩
theorem x_rfr.w (σ : ow_S) {j : Nat} (hj : j = 2 ∨ j = 3 ∨ j = 4) (v : Int32) : x_rfr σ (ow_sI σ 7 j v) := ⟨fun c z h => by
  rw [g_if]
  by_cases e : c = 7
  · rw [if_pos e, if_neg (by omega), e]
  · rw [if_neg e], rfl⟩
theorem x_by.fr {σ σ' : ow_S} {B : Nat → Nat} {n : Nat} (h : x_by σ B n) (w : x_rfr σ σ') : x_by σ' B n := ⟨(w.1 7 1 (by omega)).trans h.1, h.2.1, fun i hi => (w.1 8 i (by omega)).trans (h.2.2.1 i hi), h.2.2.2⟩
theorem s_X3_isBlank (fu : Nat) (v : Nat) (hv : v < 256) (σ : ow_S) : f_X3_isBlank fu (nI v) σ = some (if v = 32 ∨ v = 10 then 1 else 0, σ) := by
  have e1 : nI v = (32 : Int32) ↔ v = 32 := n_eq (b := 32) (by omega) (by decide)
  have e2 : nI v = (10 : Int32) ↔ v = 10 := n_eq (b := 10) (by omega) (by decide)
  simp only [f_X3_isBlank, L_X3_isBlank_12, e1, e2]
  by_cases h1 : v = 32 <;> by_cases h2 : v = 10 <;> simp [h1, h2]
theorem s_X3_isLetter (fu : Nat) (v : Nat) (hv : v < 256) (σ : ow_S) : f_X3_isLetter fu (nI v) σ = some (if 97 ≤ v ∧ v ≤ 122 then 1 else 0, σ) := by
  have e1 : nI v < (97 : Int32) ↔ v < 97 := n_lt (b := 97) (by omega) (by decide)
  have e2 : (122 : Int32) < nI v ↔ 122 < v := n_lt (a := 122) (by decide) (by omega)
  simp only [f_X3_isLetter, e1, e2]
  by_cases h1 : v < 97
  · rw [if_pos h1, if_neg (by omega)]
  · rw [if_neg h1]
    by_cases h2 : 122 < v
    · rw [if_pos h2, if_neg (by omega)]
    · rw [if_neg h2, if_pos (by omega)]
theorem s_X3_isDigit (fu : Nat) (v : Nat) (hv : v < 256) (σ : ow_S) : f_X3_isDigit fu (nI v) σ = some (if 48 ≤ v ∧ v ≤ 57 then 1 else 0, σ) := by
  have e1 : nI v < (48 : Int32) ↔ v < 48 := n_lt (b := 48) (by omega) (by decide)
  have e2 : (57 : Int32) < nI v ↔ 57 < v := n_lt (a := 57) (by decide) (by omega)
  simp only [f_X3_isDigit, e1, e2]
  by_cases h1 : v < 48
  · rw [if_pos h1, if_neg (by omega)]
  · rw [if_neg h1]
    by_cases h2 : 57 < v
    · rw [if_pos h2, if_neg (by omega)]
    · rw [if_neg h2, if_pos (by omega)]
theorem s_X3_signToken (fu : Nat) (v : Nat) (hv : v < 256) (σ : ow_S) : f_X3_signToken fu (nI v) σ = some (nI (lx_s v), σ) := by
  have e : ∀ k : Nat, k < 2 ^ 31 → ((nI v = (OfNat.ofNat k : Int32)) ↔ v = k) := fun k hk => n_eq (by omega) hk
  simp only [f_X3_signToken, e 40 (by decide), e 41 (by decide), e 42 (by decide), e 43 (by decide), e 44 (by decide), e 45 (by decide), e 46 (by decide), e 47 (by decide), e 48 (by decide), e 49 (by decide), e 50 (by decide), e 51 (by decide), e 52 (by decide), e 53 (by decide), e 54 (by decide), e 55 (by decide), e 56 (by decide), e 57 (by decide), e 58 (by decide), e 59 (by decide), e 60 (by decide), e 61 (by decide)]
  by_cases h : v ≤ 39
  · (repeat rw [if_neg (by omega)])
    unfold lx_s
    (repeat rw [if_neg (by omega)])
    rfl
  · by_cases h2 : 62 ≤ v
    · (repeat rw [if_neg (by omega)])
      unfold lx_s
      (repeat rw [if_neg (by omega)])
      rfl
    · have : ∀ w : Fin 22, v = 40 + w.val → (if v = 40 then some ((15 : Int32), σ) else if v = 41 then some (16, σ) else if v = 42 then some (13, σ) else if v = 43 then some (11, σ) else if v = 44 then some (22, σ) else if v = 45 then some (12, σ) else if v = 46 then some (22, σ) else if v = 47 then some (22, σ) else if v = 48 then some (22, σ) else if v = 49 then some (22, σ) else if v = 50 then some (22, σ) else if v = 51 then some (22, σ) else if v = 52 then some (22, σ) else if v = 53 then some (22, σ) else if v = 54 then some (22, σ) else if v = 55 then some (22, σ) else if v = 56 then some (22, σ) else if v = 57 then some (22, σ) else if v = 58 then some (22, σ) else if v = 59 then some (17, σ) else if v = 60 then some (9, σ) else if v = 61 then some (10, σ) else some (22, σ)) = some (nI (lx_s v), σ) := by
        intro w hw
        match w, hw with
        | ⟨0, _⟩, hw => subst hw; rfl
        | ⟨1, _⟩, hw => subst hw; rfl
        | ⟨2, _⟩, hw => subst hw; rfl
        | ⟨3, _⟩, hw => subst hw; rfl
        | ⟨4, _⟩, hw => subst hw; rfl
        | ⟨5, _⟩, hw => subst hw; rfl
        | ⟨6, _⟩, hw => subst hw; rfl
        | ⟨7, _⟩, hw => subst hw; rfl
        | ⟨8, _⟩, hw => subst hw; rfl
        | ⟨9, _⟩, hw => subst hw; rfl
        | ⟨10, _⟩, hw => subst hw; rfl
        | ⟨11, _⟩, hw => subst hw; rfl
        | ⟨12, _⟩, hw => subst hw; rfl
        | ⟨13, _⟩, hw => subst hw; rfl
        | ⟨14, _⟩, hw => subst hw; rfl
        | ⟨15, _⟩, hw => subst hw; rfl
        | ⟨16, _⟩, hw => subst hw; rfl
        | ⟨17, _⟩, hw => subst hw; rfl
        | ⟨18, _⟩, hw => subst hw; rfl
        | ⟨19, _⟩, hw => subst hw; rfl
        | ⟨20, _⟩, hw => subst hw; rfl
        | ⟨21, _⟩, hw => subst hw; rfl
        | ⟨w + 22, h⟩, _ => exact absurd h (by omega)
      exact this ⟨v - 40, by omega⟩ (by simp; omega)
theorem s_end_loop (fu : Nat) {B : Nat → Nat} {n : Nat} {σ : ow_S} (h : x_by σ B n) : ∀ (q p fn : Nat), p + q = n → q < fn → L_X3_endOfLetters_10 fu fn (nI p) (nI p) σ = some (nI (lx_l B q p), σ) := by
  obtain ⟨h1, h2, h3, h4⟩ := h
  intro q
  induction q with
  | zero =>
    intro p fn hp hf
    obtain ⟨fn, rfl⟩ : ∃ q, fn = q + 1 := ⟨fn - 1, by omega⟩
    rw [L_X3_endOfLetters_10, h1, if_pos (by rw [n_le (by omega) (by omega)]; omega), lx_l]
  | succ q ih =>
    intro p fn hp hf
    obtain ⟨fn, rfl⟩ : ∃ q, fn = q + 1 := ⟨fn - 1, by omega⟩
    rw [L_X3_endOfLetters_10, h1, if_neg (by rw [n_le (by omega) (by omega)]; omega), e_ckn _ (by omega) (by omega), n_cl (by omega), h3 p (by omega), s_X3_isLetter fu _ (h4 p), e_cl, lx_l]
    by_cases hb : 97 ≤ B p ∧ B p ≤ 122
    · rw [if_pos hb, if_pos hb, if_neg (by decide), e_let, e_let, show (1 : Int32) = nI 1 from rfl, n_add]
      exact ih (p + 1) fn (by omega) (by omega)
    · rw [if_neg hb, if_neg hb, if_pos rfl]
theorem wd_len : ∀ i, i < 12 → ow_sl.getD (i + 1) 0 = (wd.getD i []).length ∧ (wd.getD i []).length ≤ 8 := by decide +kernel
theorem wd_ch : ∀ i, i < 12 → ∀ z, z < (wd.getD i []).length → ow_ch (i + 1) (nI z) = nI ((wd.getD i []).getD z 0) ∧ (wd.getD i []).getD z 0 < 256 := by decide +kernel
theorem s_isWord_loop (fu : Nat) {B : Nat → Nat} {n : Nat} {σ : ow_S} (h : x_by σ B n) {i p : Nat} (hi : i < 12) (hp : p + (wd.getD i []).length ≤ n) : ∀ (q j fn : Nat), j + q = (wd.getD i []).length → q < fn → L_X3_isWord_26 fu fn (nI p) (nI (wd.getD i []).length) (i + 1) (nI j) σ = some (if ∀ z, z < (wd.getD i []).length → j ≤ z → B (p + z) = (wd.getD i []).getD z 0 then 1 else 0, σ) := by
  obtain ⟨h1, h2, h3, h4⟩ := h
  have hl8 := (wd_len i hi).2
  intro q
  induction q with
  | zero =>
    intro j fn hj hf
    obtain ⟨fn, rfl⟩ : ∃ q, fn = q + 1 := ⟨fn - 1, by omega⟩
    rw [L_X3_isWord_26, if_pos (by rw [n_le (by omega) (by omega)]; omega), if_pos (fun z h1 h2 => by omega)]
  | succ q ih =>
    intro j fn hj hf
    obtain ⟨fn, rfl⟩ : ∃ q, fn = q + 1 := ⟨fn - 1, by omega⟩
    rw [L_X3_isWord_26, if_neg (by rw [n_le (by omega) (by omega)]; omega), n_add, e_ckn _ (by omega) (by omega), (wd_len i hi).1, e_ckn _ (by omega) (by omega), n_cl (by omega), h3 _ (by omega), (wd_ch i hi j (by omega)).1]
    have e := n_eq (a := B (p + j)) (b := (wd.getD i []).getD j 0) (by have := h4 (p + j); omega) (by have := (wd_ch i hi j (by omega)).2; omega)
    simp only [e]
    by_cases hb : B (p + j) = (wd.getD i []).getD j 0
    · rw [if_pos hb, e_let, show (1 : Int32) = nI 1 from rfl, n_add, ih (j + 1) fn (by omega) (by omega)]
      have : (∀ z, z < (wd.getD i []).length → j + 1 ≤ z → B (p + z) = (wd.getD i []).getD z 0) ↔ (∀ z, z < (wd.getD i []).length → j ≤ z → B (p + z) = (wd.getD i []).getD z 0) := by
        constructor
        · intro h z hz hjz
          by_cases e : z = j
          · subst e; exact hb
          · exact h z hz (by omega)
        · intro h z hz hjz; exact h z hz (by omega)
      simp only [this, show nI 1 = (1 : Int32) from rfl]
    · rw [if_neg hb, if_neg (fun h => hb (h j (by omega) (Nat.le_refl _)))]
theorem s_X3_isWord (fu : Nat) (hfu : 1000 ≤ fu) {B : Nat → Nat} {n : Nat} {σ : ow_S} (h : x_by σ B n) {i p e : Nat} (hi : i < 12) (hp : p ≤ e) (he : e ≤ n) : f_X3_isWord fu (nI p) (nI (e - p)) (i + 1) σ = some (if lx_W B p e = wd.getD i [] then 1 else 0, σ) := by
  have hl8 := (wd_len i hi).2
  have h2 := h.2.1
  rw [f_X3_isWord, (wd_len i hi).1]
  have e1 := n_eq (a := e - p) (b := (wd.getD i []).length) (by omega) (by omega)
  simp only [e1]
  by_cases hl : e - p = (wd.getD i []).length
  · rw [if_pos hl, if_neg (nI_pos (by omega)), n_add, if_pos (by rw [show (160 : Int32) = nI 160 from rfl, n_le (by omega) (by decide)]; omega), hl, show (0 : Int32) = nI 0 from rfl, s_isWord_loop fu h hi (by omega) (wd.getD i []).length 0 fu (by omega) (by omega)]
    have : (∀ z, z < (wd.getD i []).length → 0 ≤ z → B (p + z) = (wd.getD i []).getD z 0) ↔ lx_W B p e = wd.getD i [] := by
      unfold lx_W
      rw [l_Weq]
      constructor
      · intro h; exact ⟨hl, fun z hz => h z (by omega) (by omega)⟩
      · intro h z hz _; exact h.2 z (by omega)
    simp only [this]
    rfl
  · rw [if_neg hl, if_neg (fun hh => hl (by unfold lx_W at hh; exact ((l_Weq _ _ _).mp hh).1))]
