/-! What the log says, over its arrays: e is the event that holds at a; a count; a place of the sorted row. -/
def hld (sf rf pf : Nat → Int32) (e : Nat) (a : Int32) : Prop := sf e ≠ 0 ∧ rf e ≤ a ∧ a < pf e
noncomputable def cnt (Pr : Nat → Prop) : Nat → Nat
  | 0 => 0
  | n + 1 => cnt Pr n + @ite Nat (Pr n) (Classical.propDecidable _) 1 0
theorem cnt_1 {Pr : Nat → Prop} {n : Nat} (h : Pr n) : cnt Pr (n + 1) = cnt Pr n + 1 := by simp [cnt, h]
theorem cnt_0 {Pr : Nat → Prop} {n : Nat} (h : ¬ Pr n) : cnt Pr (n + 1) = cnt Pr n := by simp [cnt, h]
theorem cnt_le (Pr : Nat → Prop) (n : Nat) : cnt Pr n ≤ n := by
  induction n with
  | zero => exact Nat.le_refl 0
  | succ n ih =>
    by_cases h : Pr n
    · rw [cnt_1 h]; omega
    · rw [cnt_0 h]; omega
theorem ls_or {j i : Nat} (h : j < i + 1) : j < i ∨ j = i := by omega
theorem i_nlt {a b : Int32} (h : ¬ a < b) : b ≤ a := Int32.not_lt.mp h
theorem i_nle {a b : Int32} (h : ¬ a ≤ b) : b < a := Int32.not_le.mp h
theorem i_ltn {a b : Int32} (h : a < b) : ¬ b ≤ a := Int32.not_le.mpr h
theorem i_len {a b : Int32} (h : a ≤ b) : ¬ b < a := Int32.not_lt.mpr h
/-- the row of events by key: ev is put in among the places below ev -/
def srt (kf : Nat → Int32) (bn : Nat → Nat) (b1 : Nat → Int32) (ev : Nat) : Prop := ∃ pl, pl ≤ ev ∧ b1 pl = nI ev ∧ (∀ q, q < pl → b1 q = nI (bn q)) ∧ (∀ q, pl < q → q ≤ ev → b1 q = nI (bn (q - 1))) ∧ (pl = 0 ∨ kf (bn (pl - 1)) ≤ kf ev) ∧ ∀ q, pl ≤ q → q < ev → kf ev < kf (bn q)
/-- the log's data: size, keys, revisions, sets, values, versions, creations, replacedIn, byKey -/
abbrev LD : Type := Nat × (Nat → Int32) × (Nat → Int32) × (Nat → Int32) × (Nat → Int64) × (Nat → Int32) × (Nat → Int32) × (Nat → Int32) × (Nat → Int32)
abbrev eN (d : LD) : Nat := d.1
abbrev eK (d : LD) : Nat → Int32 := d.2.1
abbrev eR (d : LD) : Nat → Int32 := d.2.2.1
abbrev eS (d : LD) : Nat → Int32 := d.2.2.2.1
abbrev eV (d : LD) : Nat → Int64 := d.2.2.2.2.1
abbrev eW (d : LD) : Nat → Int32 := d.2.2.2.2.2.1
abbrev eC (d : LD) : Nat → Int32 := d.2.2.2.2.2.2.1
abbrev eP (d : LD) : Nat → Int32 := d.2.2.2.2.2.2.2.1
abbrev eB (d : LD) : Nat → Int32 := d.2.2.2.2.2.2.2.2
/-- j holds for key at a -/
def hol (d : LD) (key a : Int32) (j : Nat) : Prop := eK d j = key ∧ hld (eS d) (eR d) (eP d) j a
def thr (d : LD) (key a : Int32) : Prop := ∃ j, j < eN d ∧ hol d key a j
def bnk (d : LD) (bn : Nat → Nat) : Prop := ∀ q, q < eN d → eB d q = nI (bn q) ∧ bn q < eN d
def setR (r : Nat) (key : Int32) (v : Int64) (d d1 : LD) : Prop :=
  eN d1 = eN d + 1 ∧ eK d1 = upd (eK d) (eN d) key ∧ eR d1 = upd (eR d) (eN d) (nI r) ∧ eS d1 = upd (eS d) (eN d) (nI 1) ∧ eV d1 = vp_updL (eV d) (eN d) v ∧ (∃ bn, bnk d bn ∧ srt (upd (eK d) (eN d) key) bn (eB d1) (eN d)) ∧
  (((∀ j, j < eN d → ¬ hol d key (nI r) j) ∧ eP d1 = upd (eP d) (eN d) (nI 301) ∧ eW d1 = upd (eW d) (eN d) (nI 1) ∧ eC d1 = upd (eC d) (eN d) (nI r)) ∨ (∃ j, j < eN d ∧ hol d key (nI r) j ∧ eP d1 = upd (upd (eP d) j (nI r)) (eN d) (nI 301) ∧ eW d1 = upd (eW d) (eN d) (eW d j + nI 1) ∧ eC d1 = upd (eC d) (eN d) (eC d j)))
def remR (r : Nat) (key : Int32) (d d1 : LD) : Prop :=
  (d1 = d ∧ ∀ j, j < eN d → ¬ hol d key (nI r) j) ∨ (eN d1 = eN d + 1 ∧ eK d1 = upd (eK d) (eN d) key ∧ eR d1 = upd (eR d) (eN d) (nI r) ∧ eS d1 = eS d ∧ eV d1 = eV d ∧ eW d1 = eW d ∧ eC d1 = eC d ∧ (∃ bn, bnk d bn ∧ srt (upd (eK d) (eN d) key) bn (eB d1) (eN d)) ∧ ∃ j, j < eN d ∧ hol d key (nI r) j ∧ eP d1 = upd (upd (eP d) j (nI r)) (eN d) (nI 301))
/-- the first i steps done -/
def aps (r : Nat) (ka sa : Nat → Int32) (va : Nat → Int64) (d : LD) : Nat → LD → Prop
  | 0, d1 => d1 = d
  | i + 1, d1 => ∃ d2, aps r ka sa va d i d2 ∧ ((sa i ≠ 0 ∧ setR r (ka i) (va i) d2 d1) ∨ (sa i = 0 ∧ remR r (ka i) d2 d1))
/-- what a key's value, version, creation or set is told to be -/
def rdv (d : LD) (key a w : Int32) (x : Int64) : Prop := (x = 0 ∧ ∀ j, j < eN d → ¬ hol d key a j) ∨ (∃ j, j < eN d ∧ hol d key a j ∧ ((w = nI 0 ∧ x = eV d j) ∨ (w ≠ nI 0 ∧ w = nI 1 ∧ x = (eW d j).toInt64) ∨ (w ≠ nI 0 ∧ w ≠ nI 1 ∧ w = nI 2 ∧ x = (eC d j).toInt64) ∨ (w ≠ nI 0 ∧ w ≠ nI 1 ∧ w ≠ nI 2 ∧ x = (eR d j).toInt64)))
/-- a test's relation -/
def tst (rel : Int32) (h b : Int64) : Prop := (rel < 0 ∧ h < b) ∨ (¬ rel < 0 ∧ 0 < rel ∧ b < h) ∨ (¬ rel < 0 ∧ ¬ 0 < rel ∧ h = b)
/-- is the key of step i there when the steps before are done -/
def itb (ka sa : Nat → Int32) (th : Int32 → Prop) (i : Nat) : Prop := (∃ j, j < i ∧ ka j = ka i ∧ (∀ t, j < t → t < i → ka t ≠ ka i) ∧ sa j ≠ 0) ∨ ((∀ j, j < i → ka j ≠ ka i) ∧ th (ka i))
theorem zn_dec (x : Int32) : x + Int32.ofInt (-1) = x - nI 1 := by
  rw [Int32.sub_eq_add_neg]
  rfl
theorem zn_m0 {j : Nat} (h : j < 2 ^ 31) : nI j - nI 1 < 0 ↔ j = 0 := by
  cases j with
  | zero => decide
  | succ j => rw [pk_sub (by omega)]; simp only [Nat.add_sub_cancel]; constructor <;> intro q; (exact absurd q (nI_pos (by omega))); omega
