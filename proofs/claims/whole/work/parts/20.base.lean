/-! plain rows for the functions of the state -/
theorem e_let {α β : Type} (v : α) (K : α → β) : ow_let v K = K v := rfl
theorem e_cl {α β : Type} (r : α) (σ : ow_S) (K : α → ow_S → Option β) : ow_cl (some (r, σ)) K = K r σ := rfl
theorem e_cv {β : Type} (σ : ow_S) (K : ow_S → Option β) : ow_cv (some σ) K = K σ := rfl
theorem e_op {α β : Type} (t : α) (A : Option β) (K : α → Option β) : ow_op (some t) A K = K t := rfl
theorem e_on {α β : Type} (A : Option β) (K : α → Option β) : ow_op none A K = A := rfl
theorem e_ck {α : Type} {b : Prop} [Decidable b] (K : Option α) (h : b) : ow_ck b K = K := if_pos h
theorem e_ckn {α : Type} {i : Nat} {L : Nat} (K : Option α) (hi : i < 2 ^ 31) (h : i < L) : ow_ck (ow_bd (nI i) L) K = K := by
  refine e_ck K ?_
  intro q
  rcases q with q | q
  · exact nI_pos hi q
  · rw [nI_clamp hi] at q; omega
/-! reads behind writes -/
theorem g_same (σ : ow_S) (k j : Nat) (v : Int32) : (ow_sI σ k j v).1 k j = v := by simp [ow_sI, va_up, upd]
theorem g_j (σ : ow_S) {k j b : Nat} (v : Int32) (h : b ≠ j) : (ow_sI σ k j v).1 k b = σ.1 k b := by simp [ow_sI, va_up, upd, h]
theorem g_k (σ : ow_S) {k j a : Nat} (v : Int32) (h : a ≠ k) : (ow_sI σ k j v).1 a = σ.1 a := by simp [ow_sI, va_up, h]
theorem g_2 (σ : ow_S) (k j : Nat) (v : Int32) : (ow_sI σ k j v).2 = σ.2 := rfl
theorem g_row (σ : ow_S) (k j : Nat) (v : Int32) : (ow_sI σ k j v).1 k = upd (σ.1 k) j v := by simp [ow_sI, va_up]
theorem g_if (σ : ow_S) (k j : Nat) (v : Int32) (a b : Nat) : (ow_sI σ k j v).1 a b = if a = k then (if b = j then v else σ.1 k b) else σ.1 a b := by
  by_cases h : a = k
  · subst h; by_cases h2 : b = j <;> simp [ow_sI, va_up, upd, h2]
  · simp [ow_sI, va_up, h]
theorem gA_row (σ : ow_S) (k : Nat) (f : Nat → Int32) : (ow_sA σ k f).1 k = f := by simp [ow_sA, va_up]
theorem gA_k (σ : ow_S) {k a : Nat} (f : Nat → Int32) (h : a ≠ k) : (ow_sA σ k f).1 a = σ.1 a := by simp [ow_sA, va_up, h]
theorem gR_1 (σ : ow_S) (k j : Nat) (v : Option Nat) : (ow_sR σ k j v).1 = σ.1 := rfl
theorem gR_s (σ : ow_S) (k j : Nat) (v : Option Nat) : (ow_sR σ k j v).2.2 k j = v := by simp [ow_sR, va_up]
theorem gR_n (σ : ow_S) {k j a b : Nat} (v : Option Nat) (h : a ≠ k) : (ow_sR σ k j v).2.2 a b = σ.2.2 a b := by simp [ow_sR, va_up, h]
theorem gL_1 (σ : ow_S) (k : Nat) (v : Int64) : (ow_sL σ k v).1 = σ.1 := rfl
theorem gL_s (σ : ow_S) (k : Nat) (v : Int64) : (ow_sL σ k v).2.1 k = v := by simp [ow_sL, va_up]
theorem gL_2 (σ : ow_S) (k : Nat) (v : Int64) : (ow_sL σ k v).2.2 = σ.2.2 := rfl
/-! numbers -/
theorem n0 : (0 : Int32) = nI 0 := rfl
theorem n_lit (n : Nat) : (OfNat.ofNat n : Int32) = nI n := rfl
theorem n_lt {a b : Nat} (ha : a < 2 ^ 31) (hb : b < 2 ^ 31) : nI a < nI b ↔ a < b := nI_ltI ha hb
theorem n_le {a b : Nat} (ha : a < 2 ^ 31) (hb : b < 2 ^ 31) : nI a ≤ nI b ↔ a ≤ b := nI_leI ha hb
theorem n_eq {a b : Nat} (ha : a < 2 ^ 31) (hb : b < 2 ^ 31) : nI a = nI b ↔ a = b := nI_eq ha hb
theorem n_cl {a : Nat} (ha : a < 2 ^ 31) : (nI a).toNatClampNeg = a := nI_clamp ha
theorem n_add (a b : Nat) : nI a + nI b = nI (a + b) := nI_add a b
theorem n_sub {a b : Nat} (h : b ≤ a) : nI a - nI b = nI (a - b) := pk_sub h
theorem n_mul (a b : Nat) : nI a * nI b = nI (a * b) := pk_mul a b
theorem n_div {a b : Nat} (ha : a < 2 ^ 31) (hb : b < 2 ^ 31) (h0 : 0 < b) : nI a / nI b = nI (a / b) := pk_div ha h0 hb
theorem n_rem {a b : Nat} (ha : a < 2 ^ 31) (hb : b < 2 ^ 31) (h0 : 0 < b) : ow_irem (nI a) (nI b) = nI (a % b) := pk_rem ha h0 hb
theorem n_of {x : Int32} (h : ¬ x < 0) : ∃ j : Nat, j < 2 ^ 31 ∧ x = nI j := nI_of h
/-- an int that is not below 0 and not above a natural -/
theorem n_rng {x : Int32} {L : Nat} (hL : L < 2 ^ 31) (h0 : ¬ x < 0) (h : ¬ nI L < x) : ∃ j : Nat, j ≤ L ∧ x = nI j := by
  obtain ⟨j, hj, rfl⟩ := nI_of h0
  exact ⟨j, by rw [n_lt hL hj] at h; omega, rfl⟩
