abbrev vwCl : List vw_C := [(RX0, TX0, 5), (RX1, TX1, 6), (RX2, TX2, 1), (RX3, TX3, 7), (RX4, TX4, 2), (RX5, TX5, 3), (RX6, TX6, 4), (RX7, TX7, 3), (RX8, TX8, 15), (RX9, TX9, 41)]
/-! THE OWN WORLD: every object and row that the class (cells 0 .. 55) and the reference (cells 56 .. 75) ever make, by number in the order in which they are made. A state: ints by cell and place, longs by cell, references by cell and place (cell numbers). -/
abbrev ow_S : Type := (Nat → Nat → Int32) × (Nat → Int64) × (Nat → Nat → Option Nat)
/-- kinds: 0 Head, 1 Image, 2 Lots, 3 Reader, 4 Row, 5 Sheet, 6 Text, 7 Walk, 8 the class, 9 the reference, 10 int[], 11 Head[], 12 Sheet[], 13 Text[] -/
def ow_Kl : List Nat := [8, 4,10, 4,10, 11, 0, 3,10, 13, 7,10,10, 2, 10, 12, 1,4,10,11,0,0,0,0,0, 0,0,0,0,0, 6,10,10, 6,10,10, 6,10,10, 6,10,10, 6,10,10, 6,10,10, 5,10, 5,10, 5,10, 5,10, 9, 10,10,10,10,10,10,10,10,10,10,10,10,10,10,10,10,10,10,10]
def ow_K (k : Nat) : Nat := ow_Kl.getD k 99
def ow_nl : List Nat := [0, 0,60, 0,60, 5, 0, 0,160, 6, 0,6,160, 0, 259, 4, 0,0,60,5,0,0,0,0,0, 0,0,0,0,0, 0,160,3, 0,160,3, 0,160,3, 0,160,3, 0,160,3, 0,160,3, 0,40, 0,40, 0,40, 0,40, 0, 60,5,5,15,160,1200,24,60,15,4,4,160,40,96,200,200,6,60,260]
def ow_n (k : Nat) : Nat := ow_nl.getD k 0
/-- a class's fields: 0 int, 1 long, 2 reference -/
def ow_fl : List (List Nat) := [[0,0,0,0,0], [2,2,0,0,0,0], [1], [2,0,0,0,0,0,2], [2,0], [2,0,0], [2,2,0,0], [2,2,2], [2,2,2,2,2,2,2,2,2,2,2,0,0,0,0], [0,2,0,0,2,2,2,2,0,2,2,0,0,0,0,0,0,0,2,2,2,2,2,2,0,0,0,0,2,2,0,0,0,2,2,2,0,0,0,2,0]]
def ow_f (c : Nat) : List Nat := ow_fl.getD c []
/-- where a reference that never changes points; none: it changes -/
def ow_rl (k j : Nat) : Option Nat :=
  if ow_K k = 4 ∧ j = 0 then some (k + 1)
  else if ow_K k = 5 ∧ j = 0 then some (k + 1)
  else if ow_K k = 6 ∧ j < 2 then some (k + 1 + j)
  else if ow_K k = 3 ∧ j = 0 then some (k + 1)
  else if ow_K k = 7 ∧ j < 2 then some (k + 1 + j)
  else if ow_K k = 1 ∧ j < 2 then some (k + 1 + 2 * j)
  else if k = 0 ∧ j < 11 then some ([1, 3, 5, 6, 7, 9, 10, 13, 14, 15, 16].getD j 0)
  else if k = 5 ∧ j < 5 then some (25 + j)
  else if k = 9 ∧ j < 6 then some (30 + 3 * j)
  else if k = 15 ∧ j < 4 then some (48 + 2 * j)
  else if k = 19 ∧ j < 5 then some (20 + j)
  else if k = 56 then [none, some 57, none, none, some 58, some 59, some 60, some 61, none, some 62, some 63, none, none, none, none, none, none, none, some 64, some 65, some 66, some 67, some 68, some 69, none, none, none, none, some 70, some 71, none, none, none, some 72, some 73, some 74, none, none, none, some 75, none].getD j none
  else none
/-- all references that never change are where they belong; the two that do (the reader's target, the walk's text) are a text or null -/
def ow_Ok (lo n : Nat) (r : Nat → Nat → Option Nat) : Prop := (∀ k j c, lo ≤ k → k < lo + n → ow_rl k j = some c → r k j = some c) ∧ (∀ k t, (k = 7 ∨ k = 10) → r k (if k = 7 then 6 else 2) = some t → ow_K t = 6 ∧ t < 56)
abbrev ow_Z : Type := va_G × (Nat → ClassId) × (Nat → Nat) × (Nat → Nat) × (Nat → Nat) × Nat
def ow_ad (Z : ow_Z) (k : Nat) : Nat := Z.2.2.1 k
def ow_v (Z : ow_Z) (σ : ow_S) (k j fk : Nat) : Value := if fk = 0 then .int (σ.1 k j) else if fk = 1 then .long (σ.2.1 k) else va_rf ((σ.2.2 k j).map (ow_ad Z))
def ow_E (Z : ow_Z) (σ : ow_S) (k : Nat) : va_E :=
  if ow_K k < 10 then .inr (ow_K k, (ow_f (ow_K k)).zipIdx.map (fun q => ow_v Z σ k q.2 q.1))
  else if ow_K k = 10 then .inl (Z.2.1 10, ow_n k, .inl (σ.1 k))
  else .inl (Z.2.1 (ow_K k), ow_n k, .inr (.inr (.inr (.inr (fun j => (σ.2.2 k j).map (ow_ad Z))))))
def ow_W (Z : ow_Z) (lo n : Nat) (σ : ow_S) : va_W := (List.range n).map (fun i => (ow_ad Z (lo + i), ow_E Z σ (lo + i)))
def ow_ty (Z : ow_Z) : List (ClassId × FieldType) := [(Z.2.1 10, .int), (Z.2.1 11, .object "FiftyOneCards$Head"), (Z.2.1 12, .object "FiftyOneCards$Sheet"), (Z.2.1 13, .object "FiftyOneCards$Text")]
theorem ow_W_at (Z : ow_Z) {lo n : Nat} (σ : ow_S) {k : Nat} (h1 : lo ≤ k) (h2 : k < lo + n) : (ow_W Z lo n σ)[k - lo]? = some (ow_ad Z k, ow_E Z σ k) := by
  unfold ow_W
  rw [List.getElem?_map, List.getElem?_range (by omega)]
  show some (ow_ad Z (lo + (k - lo)), ow_E Z σ (lo + (k - lo))) = _
  rw [Nat.add_sub_cancel' h1]
theorem ow_W_set (Z : ow_Z) {lo n : Nat} {σ σ' : ow_S} {k : Nat} (h1 : lo ≤ k) (h2 : k < lo + n) (h : ∀ j, j ≠ k → ow_E Z σ' j = ow_E Z σ j) : (ow_W Z lo n σ).set (k - lo) (ow_ad Z k, ow_E Z σ' k) = ow_W Z lo n σ' := by
  refine List.ext_getElem? (fun i => ?_)
  by_cases hi : i < n
  · by_cases hk : i = k - lo
    · subst hk
      rw [List.getElem?_set_self (by simp [ow_W]; omega), ow_W_at Z σ' h1 h2]
    · rw [List.getElem?_set_ne (Ne.symm hk)]
      have e1 := ow_W_at Z (lo := lo) (n := n) σ (k := lo + i) (by omega) (by omega)
      have e2 := ow_W_at Z (lo := lo) (n := n) σ' (k := lo + i) (by omega) (by omega)
      rw [Nat.add_sub_cancel_left] at e1 e2
      rw [e1, e2, h (lo + i) (by omega)]
  · rw [List.getElem?_eq_none (by simp [ow_W]; omega), List.getElem?_eq_none (by simp [ow_W]; omega)]
theorem ow_D_same {A : Nat → Prop} {Z : ow_Z} {lo n : Nat} {σ σ' : ow_S} (h : va_D A (ow_W Z lo n σ)) : va_D A (ow_W Z lo n σ') := by
  have key : ∀ (k : Nat) (q : Nat × va_E), (ow_W Z lo n σ')[k]? = some q → ∃ q0, (ow_W Z lo n σ)[k]? = some q0 ∧ q0.1 = q.1 := by
    intro k q hq
    have hk : k < n := by
      have := (List.getElem?_eq_some_iff.mp hq).1
      simpa [ow_W] using this
    have e1 := ow_W_at Z (lo := lo) (n := n) σ (k := lo + k) (by omega) (by omega)
    have e2 := ow_W_at Z (lo := lo) (n := n) σ' (k := lo + k) (by omega) (by omega)
    rw [Nat.add_sub_cancel_left] at e1 e2
    rw [e2] at hq
    cases hq
    exact ⟨_, e1, rfl⟩
  refine ⟨fun i j p q hi hj hpq => ?_, fun k q hk => ?_⟩
  · obtain ⟨p0, a1, b1⟩ := key i p hi
    obtain ⟨q0, a2, b2⟩ := key j q hj
    exact h.1 i j p0 q0 a1 a2 (b1.trans (hpq.trans b2.symm))
  · obtain ⟨q0, a1, b1⟩ := key k q hk
    rw [← b1]
    exact h.2 k q0 a1
/-! the words across the nest -/
def ow_nw : List Cond := [Cond.methodLinkNest "FiftyOneCards" 9 ({ cls := "FiftyOneCards$Row", name := "<init>", desc := "()V" } : MethodName) "FiftyOneCards", Cond.fieldLinkNest "FiftyOneCards" 132 "FiftyOneCards$Row" "cards" "[I" "FiftyOneCards", Cond.fieldLinkNest "FiftyOneCards$Walk" 66 "FiftyOneCards$Row" "cards" "[I" "FiftyOneCards", Cond.fieldLinkNest "FiftyOneCards" 108 "FiftyOneCards$Row" "size" "I" "FiftyOneCards", Cond.fieldLinkNest "FiftyOneCards$Walk" 61 "FiftyOneCards$Row" "size" "I" "FiftyOneCards", Cond.methodLinkNest "FiftyOneCards" 25 ({ cls := "FiftyOneCards$Head", name := "<init>", desc := "()V" } : MethodName) "FiftyOneCards", Cond.fieldLinkNest "FiftyOneCards" 191 "FiftyOneCards$Head" "kind" "I" "FiftyOneCards", Cond.fieldLinkNest "FiftyOneCards$Walk" 22 "FiftyOneCards$Head" "more" "I" "FiftyOneCards", Cond.fieldLinkNest "FiftyOneCards" 194 "FiftyOneCards$Head" "more" "I" "FiftyOneCards", Cond.fieldLinkNest "FiftyOneCards" 197 "FiftyOneCards$Head" "bits" "I" "FiftyOneCards", Cond.fieldLinkNest "FiftyOneCards$Walk" 32 "FiftyOneCards$Head" "first" "I" "FiftyOneCards", Cond.fieldLinkNest "FiftyOneCards" 200 "FiftyOneCards$Head" "first" "I" "FiftyOneCards", Cond.fieldLinkNest "FiftyOneCards$Walk" 39 "FiftyOneCards$Head" "second" "I" "FiftyOneCards", Cond.fieldLinkNest "FiftyOneCards" 203 "FiftyOneCards$Head" "second" "I" "FiftyOneCards", Cond.methodLinkNest "FiftyOneCards" 32 ({ cls := "FiftyOneCards$Reader", name := "<init>", desc := "()V" } : MethodName) "FiftyOneCards", Cond.fieldLinkNest "FiftyOneCards" 111 "FiftyOneCards$Reader" "size" "I" "FiftyOneCards", Cond.methodLinkNest "FiftyOneCards" 45 ({ cls := "FiftyOneCards$Walk", name := "<init>", desc := "()V" } : MethodName) "FiftyOneCards", Cond.fieldLinkNest "FiftyOneCards" 229 "FiftyOneCards$Walk" "names" "[I" "FiftyOneCards", Cond.methodLinkNest "FiftyOneCards" 52 ({ cls := "FiftyOneCards$Lots", name := "<init>", desc := "()V" } : MethodName) "FiftyOneCards", Cond.methodLinkNest "FiftyOneCards" 69 ({ cls := "FiftyOneCards$Image", name := "<init>", desc := "()V" } : MethodName) "FiftyOneCards", Cond.methodLinkNest "FiftyOneCards$Image" 11 ({ cls := "FiftyOneCards$Row", name := "<init>", desc := "()V" } : MethodName) "FiftyOneCards", Cond.methodLinkNest "FiftyOneCards$Image" 38 ({ cls := "FiftyOneCards$Head", name := "<init>", desc := "()V" } : MethodName) "FiftyOneCards", Cond.fieldLinkNest "FiftyOneCards" 307 "FiftyOneCards$Image" "row" "LFiftyOneCards$Row;" "FiftyOneCards", Cond.fieldLinkNest "FiftyOneCards" 308 "FiftyOneCards$Image" "heads" "[LFiftyOneCards$Head;" "FiftyOneCards", Cond.fieldLinkNest "FiftyOneCards" 300 "FiftyOneCards$Image" "there" "Z" "FiftyOneCards", Cond.fieldLinkNest "FiftyOneCards" 304 "FiftyOneCards$Image" "pack" "I" "FiftyOneCards", Cond.fieldLinkNest "FiftyOneCards" 305 "FiftyOneCards$Image" "headCount" "I" "FiftyOneCards", Cond.fieldLinkNest "FiftyOneCards" 306 "FiftyOneCards$Image" "law" "I" "FiftyOneCards", Cond.methodLinkNest "FiftyOneCards" 87 ({ cls := "FiftyOneCards$Text", name := "<init>", desc := "()V" } : MethodName) "FiftyOneCards", Cond.fieldLinkNest "FiftyOneCards$Walk" 106 "FiftyOneCards$Text" "codes" "[I" "FiftyOneCards", Cond.methodLinkNest "FiftyOneCards" 88 ({ cls := "FiftyOneCards$Sheet", name := "<init>", desc := "()V" } : MethodName) "FiftyOneCards", Cond.fieldLinkNest "FiftyOneCards" 321 "FiftyOneCards$Sheet" "cells" "[I" "FiftyOneCards", Cond.fieldLinkNest "FiftyOneCards" 314 "FiftyOneCards$Sheet" "sort" "I" "FiftyOneCards", Cond.fieldLinkNest "FiftyOneCards" 352 "FiftyOneCards$Sheet" "size" "I" "FiftyOneCards", Cond.methodLinkNest "FiftyOneCards" 101 ({ cls := "FiftyOneCards$Reader", name := "take", desc := "(I)V" } : MethodName) "FiftyOneCards", Cond.methodLinkNest "FiftyOneCards" 163 ({ cls := "FiftyOneCards$Reader", name := "readInto", desc := "(LFiftyOneCards$Text;)I" } : MethodName) "FiftyOneCards", Cond.methodLinkNest "FiftyOneCards$Reader" 35 ({ cls := "FiftyOneCards$Text", name := "clear", desc := "()V" } : MethodName) "FiftyOneCards", Cond.methodLinkNest "FiftyOneCards$Reader" 53 ({ cls := "FiftyOneCards$Text", name := "add", desc := "(I)V" } : MethodName) "FiftyOneCards", Cond.methodLinkNest "FiftyOneCards$Reader" 62 ({ cls := "FiftyOneCards$Text", name := "endPart", desc := "()V" } : MethodName) "FiftyOneCards", Cond.methodLinkNest "FiftyOneCards" 112 ({ cls := "FiftyOneCards$Row", name := "dropAbove", desc := "(I)V" } : MethodName) "FiftyOneCards"]
def ow_nw2 : List Cond := [Cond.methodLinkNest "FiftyOneCards" 119 ({ cls := "FiftyOneCards$Row", name := "add", desc := "(I)Z" } : MethodName) "FiftyOneCards", Cond.methodLinkNest "FiftyOneCards" 125 ({ cls := "FiftyOneCards$Row", name := "becomeAllBut", desc := "(III)V" } : MethodName) "FiftyOneCards", Cond.methodLinkNest "FiftyOneCards" 129 ({ cls := "FiftyOneCards$Row", name := "has", desc := "(I)Z" } : MethodName) "FiftyOneCards", Cond.methodLinkNest "FiftyOneCards" 135 ({ cls := "FiftyOneCards$Row", name := "beTurned", desc := "(I)V" } : MethodName) "FiftyOneCards", Cond.methodLinkNest "FiftyOneCards" 138 ({ cls := "FiftyOneCards$Row", name := "timesOf", desc := "(I)I" } : MethodName) "FiftyOneCards", Cond.methodLinkNest "FiftyOneCards" 148 ({ cls := "FiftyOneCards$Row", name := "earliestTwice", desc := "()I" } : MethodName) "FiftyOneCards", Cond.methodLinkNest "FiftyOneCards" 151 ({ cls := "FiftyOneCards$Row", name := "sum", desc := "()I" } : MethodName) "FiftyOneCards", Cond.methodLinkNest "FiftyOneCards" 154 ({ cls := "FiftyOneCards$Row", name := "squares", desc := "()I" } : MethodName) "FiftyOneCards", Cond.methodLinkNest "FiftyOneCards" 174 ({ cls := "FiftyOneCards$Walk", name := "setOut", desc := "(LFiftyOneCards$Text;II)V" } : MethodName) "FiftyOneCards", Cond.methodLinkNest "FiftyOneCards" 178 ({ cls := "FiftyOneCards$Walk", name := "keepBoth", desc := "(II)V" } : MethodName) "FiftyOneCards", Cond.methodLinkNest "FiftyOneCards" 182 ({ cls := "FiftyOneCards$Walk", name := "meet", desc := "(II)V" } : MethodName) "FiftyOneCards", Cond.methodLinkNest "FiftyOneCards" 185 ({ cls := "FiftyOneCards$Walk", name := "tellsBounded", desc := "(I)I" } : MethodName) "FiftyOneCards", Cond.methodLinkNest "FiftyOneCards$Walk" 98 ({ cls := "FiftyOneCards$Text", name := "endOf", desc := "(I)I" } : MethodName) "FiftyOneCards", Cond.methodLinkNest "FiftyOneCards$Walk" 103 ({ cls := "FiftyOneCards$Text", name := "startOf", desc := "(I)I" } : MethodName) "FiftyOneCards", Cond.methodLinkNest "FiftyOneCards" 341 ({ cls := "FiftyOneCards$Walk", name := "says", desc := "(LFiftyOneCards$Head;LFiftyOneCards$Row;LFiftyOneCards$Text;I)I" } : MethodName) "FiftyOneCards", Cond.methodLinkNest "FiftyOneCards$Walk" 35 ({ cls := "FiftyOneCards$Head", name := "lowest", desc := "(I)I" } : MethodName) "FiftyOneCards", Cond.methodLinkNest "FiftyOneCards$Walk" 77 ({ cls := "FiftyOneCards$Head", name := "goings", desc := "()I" } : MethodName) "FiftyOneCards", Cond.methodLinkNest "FiftyOneCards$Walk" 47 ({ cls := "FiftyOneCards$Head", name := "sees", desc := "(I)Z" } : MethodName) "FiftyOneCards", Cond.methodLinkNest "FiftyOneCards$Walk" 57 ({ cls := "FiftyOneCards$Head", name := "keepsFirst", desc := "(II)I" } : MethodName) "FiftyOneCards", Cond.methodLinkNest "FiftyOneCards" 218 ({ cls := "FiftyOneCards$Walk", name := "setOutAs", desc := "(LFiftyOneCards$Head;LFiftyOneCards$Text;I)V" } : MethodName) "FiftyOneCards", Cond.methodLinkNest "FiftyOneCards" 222 ({ cls := "FiftyOneCards$Head", name := "goings", desc := "()I" } : MethodName) "FiftyOneCards", Cond.methodLinkNest "FiftyOneCards" 225 ({ cls := "FiftyOneCards$Walk", name := "goAlong", desc := "(LFiftyOneCards$Head;LFiftyOneCards$Row;I)V" } : MethodName) "FiftyOneCards", Cond.methodLinkNest "FiftyOneCards" 238 ({ cls := "FiftyOneCards$Head", name := "become", desc := "(LFiftyOneCards$Head;)V" } : MethodName) "FiftyOneCards", Cond.methodLinkNest "FiftyOneCards" 250 ({ cls := "FiftyOneCards$Row", name := "become", desc := "(LFiftyOneCards$Row;)V" } : MethodName) "FiftyOneCards", Cond.methodLinkNest "FiftyOneCards" 253 ({ cls := "FiftyOneCards$Row", name := "becomeEverySecond", desc := "(LFiftyOneCards$Row;I)V" } : MethodName) "FiftyOneCards", Cond.methodLinkNest "FiftyOneCards" 257 ({ cls := "FiftyOneCards$Walk", name := "pair", desc := "()I" } : MethodName) "FiftyOneCards", Cond.methodLinkNest "FiftyOneCards" 345 ({ cls := "FiftyOneCards$Walk", name := "keepPair", desc := "(I)V" } : MethodName) "FiftyOneCards", Cond.methodLinkNest "FiftyOneCards" 348 ({ cls := "FiftyOneCards$Walk", name := "pass", desc := "(LFiftyOneCards$Head;II)V" } : MethodName) "FiftyOneCards", Cond.methodLinkNest "FiftyOneCards" 269 ({ cls := "FiftyOneCards$Row", name := "becomeWithout", desc := "(LFiftyOneCards$Row;I)V" } : MethodName) "FiftyOneCards", Cond.methodLinkNest "FiftyOneCards" 309 ({ cls := "FiftyOneCards$Sheet", name := "isMissing", desc := "()Z" } : MethodName) "FiftyOneCards", Cond.methodLinkNest "FiftyOneCards" 286 ({ cls := "FiftyOneCards$Sheet", name := "become", desc := "(II)V" } : MethodName) "FiftyOneCards", Cond.methodLinkNest "FiftyOneCards" 288 ({ cls := "FiftyOneCards$Sheet", name := "put", desc := "(II)V" } : MethodName) "FiftyOneCards", Cond.methodLinkNest "FiftyOneCards" 353 ({ cls := "FiftyOneCards$Lots", name := "start", desc := "(I)V" } : MethodName) "FiftyOneCards", Cond.methodLinkNest "FiftyOneCards" 356 ({ cls := "FiftyOneCards$Lots", name := "below", desc := "(I)I" } : MethodName) "FiftyOneCards", Cond.methodLinkNest "FiftyOneCards" 359 ({ cls := "FiftyOneCards$Row", name := "change", desc := "(II)V" } : MethodName) "FiftyOneCards", Cond.methodLinkNest "FiftyOneCards" 313 ({ cls := "FiftyOneCards$Sheet", name := "has", desc := "(I)Z" } : MethodName) "FiftyOneCards", Cond.methodLinkNest "FiftyOneCards" 317 ({ cls := "FiftyOneCards$Sheet", name := "hasRun", desc := "(II)Z" } : MethodName) "FiftyOneCards"]
/-- the String constants: whose pool, which entry, the text -/
def ow_so : List (String × Nat × String) := [("FiftyOneCards", 89, "first a - item ; second b + 1 ; says a ;"), ("FiftyOneCards$Reader", 107, "a"), ("FiftyOneCards$Reader", 113, "b"), ("FiftyOneCards$Reader", 115, "item"), ("FiftyOneCards$Reader", 117, "place"), ("FiftyOneCards$Reader", 119, "n"), ("FiftyOneCards$Reader", 121, "more"), ("FiftyOneCards$Reader", 123, "or"), ("FiftyOneCards$Reader", 125, "and"), ("FiftyOneCards$Reader", 127, "not"), ("FiftyOneCards$Reader", 129, "first"), ("FiftyOneCards$Reader", 131, "second"), ("FiftyOneCards$Reader", 133, "says")]
def ow_sq (i : Nat) : String × Nat × String := ow_so.getD i ("", 0, "")
def ow_sl : List Nat := [40, 1, 1, 4, 5, 1, 4, 2, 3, 3, 5, 6, 4]
def ow_sb : List (List Int32) := [[102, 105, 114, 115, 116, 32, 97, 32, 45, 32, 105, 116, 101, 109, 32, 59, 32, 115, 101, 99, 111, 110, 100, 32, 98, 32, 43, 32, 49, 32, 59, 32, 115, 97, 121, 115, 32, 97, 32, 59], [97], [98], [105, 116, 101, 109], [112, 108, 97, 99, 101], [110], [109, 111, 114, 101], [111, 114], [97, 110, 100], [110, 111, 116], [102, 105, 114, 115, 116], [115, 101, 99, 111, 110, 100], [115, 97, 121, 115]]

def ow_isN : Cond → Bool
  | .fieldLinkNest _ _ _ _ _ _ => true
  | .methodLinkNest _ _ _ _ => true
  | _ => false
theorem ow_nw_is : ∀ w ∈ ow_nw, ow_isN w = true := by decide +kernel
theorem ow_nw2_is : ∀ w ∈ ow_nw2, ow_isN w = true := by decide +kernel
theorem ow_isN_pass {w : Cond} (hw : ow_isN w = true) {s U : State} (hW : s.WarmedH U.vm) (h : va_Nw w s) : va_Nw w U := by
  cases w <;> first | (simp [ow_isN] at hw; done) | exact va_Nw.warmF hW h | exact va_Nw.warmM hW h
theorem ow_isN_on {w : Cond} (hw : ow_isN w = true) : w.onTables = true := by
  cases w <;> first | (simp [ow_isN] at hw; done) | rfl
def ow_Nw (U : State) : Prop := (∀ w ∈ ow_nw, va_Nw w U) ∧ ∀ w ∈ ow_nw2, va_Nw w U
theorem ow_Nw.pass {s U : State} (hW : s.WarmedH U.vm) (h : ow_Nw s) : ow_Nw U := ⟨fun w hw => ow_isN_pass (ow_nw_is w hw) hW (h.1 w hw), fun w hw => ow_isN_pass (ow_nw2_is w hw) hW (h.2 w hw)⟩
theorem ow_Nw.same {s U : State} (hv : s.vm = U.vm) (h : ow_Nw s) : ow_Nw U := ⟨fun w hw => va_Nw.same (ow_isN_on (ow_nw_is w hw)) hv (h.1 w hw), fun w hw => va_Nw.same (ow_isN_on (ow_nw2_is w hw)) hv (h.2 w hw)⟩
def ow_adK (Z : ow_Z) (i : Nat) : Nat := Z.2.2.2.1 i
def ow_adV (Z : ow_Z) (i : Nat) : Nat := Z.2.2.2.2.1 i
def ow_tk (Z : ow_Z) : Nat := Z.2.2.2.2.2
/-- KIND_ABOVE -/
def ow_ka (j : Nat) : Int32 := [(-1), 0, 0, 1, 2, 0].getD j 0
def ow_Gs (Z : ow_Z) (A : Nat → Prop) (U : State) (H : Heap) : Prop := vk_S 13 ow_sl ow_sb (ow_adK Z) (ow_adV Z) A U H ∧ va_Z "java/lang/String" "COMPACT_STRINGS" "Z" (.int 1) A U H ∧ va_Zq "jdk/internal/util/Preconditions" "SIOOBE_FORMATTER" "Ljava/util/function/BiFunction;" A U H ∧ va_Z "FiftyOneCards" "KIND_ABOVE" "[I" (.ref (ow_tk Z)) A U H ∧ va_T .int (ow_tk Z) 6 (fun j => .int (ow_ka j)) A U H
def ow_Gv (Z : ow_Z) (U : State) : Prop := va_K Z.1 vwCl (ow_ty Z) U ∧ ow_Nw U ∧ (∀ i, i < 13 → vk_R (ow_sq i).1 (ow_sq i).2.1 (ow_sq i).2.2 (ow_adK Z i) U) ∧ va_AO "FiftyOneCards$Head" U ∧ va_AO "FiftyOneCards$Sheet" U ∧ va_AO "FiftyOneCards$Text" U
def ow_G (Z : ow_Z) (A : Nat → Prop) (U : State) (H : Heap) : Prop := ow_Gv Z U ∧ ow_Gs Z A U H
theorem ow_Gs.moved {Z : ow_Z} {A : Nat → Prop} {u U : State} {H : Heap} (hvm : u.vm.Alike U.vm) (h : ow_Gs Z A u H) : ow_Gs Z A U H := ⟨vk_S.moved hvm h.1, va_Z.moved hvm h.2.1, va_Zq.moved hvm h.2.2.1, va_Z.moved hvm h.2.2.2.1, va_T.moved hvm h.2.2.2.2⟩
theorem ow_Gs.kept {Z : ow_Z} {A : Nat → Prop} {U : State} {H H1 : Heap} (h : ow_Gs Z A U H) (hq : ∀ a : Nat, a < H.size → ¬ A a → H1[a]? = H[a]?) : ow_Gs Z A U H1 := ⟨h.1.kept hq, h.2.1.kept hq, h.2.2.1.kept hq, h.2.2.2.1.kept hq, h.2.2.2.2.kept hq⟩
theorem ow_Gs.narrow {Z : ow_Z} {A B : Nat → Prop} {U : State} {H : Heap} (h : ow_Gs Z A U H) (hAB : ∀ q, B q → A q) : ow_Gs Z B U H := ⟨h.1.narrow hAB, h.2.1.narrow hAB, h.2.2.1.narrow hAB, h.2.2.2.1.narrow hAB, h.2.2.2.2.narrow hAB⟩
theorem ow_Gv.pass {Z : ow_Z} {s U : State} (hW : s.WarmedH U.vm) (h : ow_Gv Z s) : ow_Gv Z U := ⟨va_K.moved hW.alike h.1, h.2.1.pass hW, fun i hi => vk_R.warm hW (h.2.2.1 i hi), va_AO.moved hW.alike h.2.2.2.1, va_AO.moved hW.alike h.2.2.2.2.1, va_AO.moved hW.alike h.2.2.2.2.2⟩
theorem ow_alike {s U : State} (hv : s.vm = U.vm) : s.vm.Alike U.vm := hv ▸ Vm.Alike.refl s.vm
theorem ow_Gv.same {Z : ow_Z} {s U : State} (hv : s.vm = U.vm) (h : ow_Gv Z s) : ow_Gv Z U := ⟨va_K.moved (ow_alike hv) h.1, h.2.1.same hv, fun i hi => vk_R.same hv.symm (h.2.2.1 i hi), va_AO.moved (ow_alike hv) h.2.2.2.1, va_AO.moved (ow_alike hv) h.2.2.2.2.1, va_AO.moved (ow_alike hv) h.2.2.2.2.2⟩
theorem ow_G.pass {Z : ow_Z} {A : Nat → Prop} {s U : State} {H : Heap} {locs : List Loc} (h : ow_G Z A s s.heap) (hS : va_S A s.heap H locs) (hW : s.WarmedH U.vm) (hU : U.heap = H) : ow_G Z A U U.heap := ⟨h.1.pass hW, by rw [hU]; exact (h.2.moved hW.alike).kept hS.2.1⟩
theorem ow_G.same {Z : ow_Z} {A : Nat → Prop} {s U : State} (hv : s.vm = U.vm) (hh : U.heap = s.heap) (h : ow_G Z A s s.heap) : ow_G Z A U U.heap := ⟨h.1.same hv, by rw [hh]; exact h.2.moved (ow_alike hv)⟩
/-! updates -/
def ow_sI (σ : ow_S) (k j : Nat) (v : Int32) : ow_S := (va_up σ.1 k (upd (σ.1 k) j v), σ.2)
def ow_sA (σ : ow_S) (k : Nat) (f : Nat → Int32) : ow_S := (va_up σ.1 k f, σ.2)
def ow_sL (σ : ow_S) (k : Nat) (v : Int64) : ow_S := (σ.1, va_up σ.2.1 k v, σ.2.2)
def ow_sR (σ : ow_S) (k j : Nat) (v : Option Nat) : ow_S := (σ.1, σ.2.1, va_up σ.2.2 k (va_up (σ.2.2 k) j v))
theorem ow_E_sA (Z : ow_Z) (σ : ow_S) {k j : Nat} (f : Nat → Int32) (h : j ≠ k) : ow_E Z (ow_sA σ k f) j = ow_E Z σ j := by
  simp only [ow_E, ow_v, ow_sA, va_up_ne _ _ h]
theorem ow_E_sI (Z : ow_Z) (σ : ow_S) {k j i : Nat} (v : Int32) (h : j ≠ k) : ow_E Z (ow_sI σ k i v) j = ow_E Z σ j := ow_E_sA Z σ _ h
theorem ow_E_sL (Z : ow_Z) (σ : ow_S) {k j : Nat} (v : Int64) (h : j ≠ k) : ow_E Z (ow_sL σ k v) j = ow_E Z σ j := by
  simp only [ow_E, ow_v, ow_sL, va_up_ne _ _ h]
theorem ow_E_sR (Z : ow_Z) (σ : ow_S) {k j i : Nat} (v : Option Nat) (h : j ≠ k) : ow_E Z (ow_sR σ k i v) j = ow_E Z σ j := by
  simp only [ow_E, ow_v, ow_sR, va_up_ne _ _ h]
theorem ow_E_obj (Z : ow_Z) (σ : ow_S) {k ci : Nat} (h : ow_K k = ci) (hc : ci < 10) : ow_E Z σ k = .inr (ci, (ow_f ci).zipIdx.map (fun q => ow_v Z σ k q.2 q.1)) := by
  subst h
  simp only [ow_E, hc, if_true]
theorem ow_E_int (Z : ow_Z) (σ : ow_S) {k : Nat} (h : ow_K k = 10) : ow_E Z σ k = .inl (Z.2.1 10, ow_n k, .inl (σ.1 k)) := by
  simp [ow_E, h]
theorem ow_E_ref (Z : ow_Z) (σ : ow_S) {k ci : Nat} (h : ow_K k = ci) (hc : 10 < ci) : ow_E Z σ k = .inl (Z.2.1 ci, ow_n k, .inr (.inr (.inr (.inr (fun j => (σ.2.2 k j).map (ow_ad Z)))))) := by
  subst h
  have h1 : ¬ ow_K k < 10 := by omega
  have h2 : ¬ ow_K k = 10 := by omega
  simp only [ow_E, h1, h2, if_false]
theorem ow_fs_get (Z : ow_Z) (σ : ow_S) (k : Nat) {fs : List Nat} {j fk : Nat} (hj : fs[j]? = some fk) : (fs.zipIdx.map (fun q => ow_v Z σ k q.2 q.1))[j]? = some (ow_v Z σ k j fk) := by
  rw [List.getElem?_map, List.getElem?_zipIdx, hj]
  simp
theorem ow_fs_set (Z : ow_Z) (σ σ' : ow_S) (k : Nat) {fs : List Nat} {j fk : Nat} {v : Value} (hj : fs[j]? = some fk) (hv : ow_v Z σ' k j fk = v) (ho : ∀ i f, i ≠ j → fs[i]? = some f → ow_v Z σ' k i f = ow_v Z σ k i f) : (fs.zipIdx.map (fun q => ow_v Z σ k q.2 q.1)).set j v = fs.zipIdx.map (fun q => ow_v Z σ' k q.2 q.1) := by
  have hl : j < fs.length := (List.getElem?_eq_some_iff.mp hj).1
  refine List.ext_getElem? (fun i => ?_)
  by_cases hi : i = j
  · subst hi
    rw [List.getElem?_set_self (by simpa using hl), ow_fs_get Z σ' k hj, hv]
  · rw [List.getElem?_set_ne (Ne.symm hi)]
    cases hf : fs[i]? with
    | none => rw [List.getElem?_map, List.getElem?_map, List.getElem?_zipIdx, hf]; rfl
    | some f => rw [ow_fs_get Z σ k hf, ow_fs_get Z σ' k hf, ho i f hi hf]
