/-! What the log says, over its arrays: e is the event that holds at a; a count; a place of the sorted row. -/
def hld (sf rf pf : Nat → Int32) (e : Nat) (a : Int32) : Prop := sf e ≠ 0 ∧ rf e ≤ a ∧ a < pf e
noncomputable def cnt (Pr : Nat → Prop) : Nat → Nat
  | 0 => 0
  | n + 1 => cnt Pr n + @ite Nat (Pr n) (Classical.propDecidable _) 1 0
theorem cnt_1 {Pr : Nat → Prop} {n : Nat} (h : Pr n) : cnt Pr (n + 1) = cnt Pr n + 1 := by simp [cnt, h]
theorem cnt_0 {Pr : Nat → Prop} {n : Nat} (h : ¬ Pr n) : cnt Pr (n + 1) = cnt Pr n := by simp [cnt, h]
theorem cnt_le (Pr : Nat → Prop) (n : Nat) : cnt Pr n ≤ n := by
  induction n with
  | zero => exact Nat.le_refl 0
  | succ n ih =>
    by_cases h : Pr n
    · rw [cnt_1 h]; omega
    · rw [cnt_0 h]; omega
theorem ls_or {j i : Nat} (h : j < i + 1) : j < i ∨ j = i := by omega
theorem i_nlt {a b : Int32} (h : ¬ a < b) : b ≤ a := Int32.not_lt.mp h
theorem i_nle {a b : Int32} (h : ¬ a ≤ b) : b < a := Int32.not_le.mp h
theorem i_ltn {a b : Int32} (h : a < b) : ¬ b ≤ a := Int32.not_le.mpr h
theorem i_len {a b : Int32} (h : a ≤ b) : ¬ b < a := Int32.not_lt.mpr h
/-- the row of events by key: ev is put in among the places below ev -/
def srt (kf : Nat → Int32) (bn : Nat → Nat) (b1 : Nat → Int32) (ev : Nat) : Prop := ∃ pl, pl ≤ ev ∧ b1 pl = nI ev ∧ (∀ q, q < pl → b1 q = nI (bn q)) ∧ (∀ q, pl < q → q ≤ ev → b1 q = nI (bn (q - 1))) ∧ (pl = 0 ∨ kf (bn (pl - 1)) ≤ kf ev) ∧ ∀ q, pl ≤ q → q < ev → kf ev < kf (bn q)
