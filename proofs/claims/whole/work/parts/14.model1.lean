/-! The reference's data and answers. -/
/-- events, keys, revisions, next, values, sets -/
abbrev ME : Type := Nat × (Nat → Int32) × (Nat → Int32) × (Nat → Int32) × (Nat → Int64) × (Nat → Int32)
abbrev mN (d : ME) : Nat := d.1
abbrev mK (d : ME) : Nat → Int32 := d.2.1
abbrev mR (d : ME) : Nat → Int32 := d.2.2.1
abbrev mX (d : ME) : Nat → Int32 := d.2.2.2.1
abbrev mV (d : ME) : Nat → Int64 := d.2.2.2.2.1
abbrev mS (d : ME) : Nat → Int32 := d.2.2.2.2.2
/-- mm: how many of the n events are of revisions up to a -/
def pre (er : Nat → Int32) (n : Nat) (a : Int32) (mm : Nat) : Prop := mm ≤ n ∧ (∀ q, q < mm → er q ≤ a) ∧ (mm = n ∨ ¬ er mm ≤ a)
def lsj (ek : Nat → Int32) (key : Int32) (mm j : Nat) : Prop := j < mm ∧ ek j = key ∧ ∀ q, j < q → q < mm → ek q ≠ key
def lst (ek : Nat → Int32) (key : Int32) (mm : Nat) (x : Int32) : Prop := (x = -1 ∧ ∀ q, q < mm → ek q ≠ key) ∨ (∃ j, x = nI j ∧ lsj ek key mm j)
def thY (d : ME) (key a : Int32) : Prop := ∃ mm, pre (mR d) (mN d) a mm ∧ ∃ j, lsj (mK d) key mm j ∧ mS d j ≠ 0
def thN (d : ME) (key a : Int32) : Prop := ∃ mm, pre (mR d) (mN d) a mm ∧ ((∀ q, q < mm → mK d q ≠ key) ∨ ∃ j, lsj (mK d) key mm j ∧ mS d j = 0)
def addR (a key b : Int32) (v : Int64) (d d1 : ME) : Prop := mN d1 = mN d + 1 ∧ mK d1 = upd (mK d) (mN d) key ∧ mR d1 = upd (mR d) (mN d) a ∧ mV d1 = vp_updL (mV d) (mN d) v ∧ mS d1 = upd (mS d) (mN d) b ∧ ∃ mm, pre (mR d) (mN d) a mm ∧ (((∀ q, q < mm → mK d q ≠ key) ∧ mX d1 = upd (mX d) (mN d) (-1)) ∨ (∃ j, lsj (mK d) key mm j ∧ mX d1 = upd (upd (mX d) j (nI (mN d))) (mN d) (-1)))
/-- what telling goes through: version, created, set, value -/
def tf (d : ME) (key : Int32) : Nat → Nat × Int32 × Int32 × Int64
  | 0 => (0, nI 0, nI 0, 0)
  | i + 1 => if mK d i = key then (if mS d i = 0 then (0, (tf d key i).2) else ((tf d key i).1 + 1, (if (tf d key i).1 = 0 then mR d i else (tf d key i).2.1), mR d i, mV d i)) else tf d key i
theorem tf_a {d : ME} {key : Int32} {i : Nat} {t : Nat × Int32 × Int32 × Int64} (ht : tf d key i = t) (h : ¬ mK d i = key) : tf d key (i + 1) = t := by simp [tf, h, ht]
theorem tf_b {d : ME} {key : Int32} {i : Nat} {t : Nat × Int32 × Int32 × Int64} (ht : tf d key i = t) (h : mK d i = key) (h2 : mS d i = 0) : tf d key (i + 1) = (0, t.2) := by simp [tf, h, h2, ht]
theorem tf_c {d : ME} {key : Int32} {i : Nat} {t : Nat × Int32 × Int32 × Int64} (ht : tf d key i = t) (h : mK d i = key) (h2 : ¬ mS d i = 0) (h3 : t.1 = 0) : tf d key (i + 1) = (t.1 + 1, mR d i, mR d i, mV d i) := by simp [tf, h, h2, ht, h3]
theorem tf_d {d : ME} {key : Int32} {i : Nat} {t : Nat × Int32 × Int32 × Int64} (ht : tf d key i = t) (h : mK d i = key) (h2 : ¬ mS d i = 0) (h3 : ¬ t.1 = 0) : tf d key (i + 1) = (t.1 + 1, t.2.1, mR d i, mV d i) := by simp [tf, h, h2, ht, h3]
def tld (t : Nat × Int32 × Int32 × Int64) (w : Int32) (x : Int64) : Prop := (t.1 = 0 ∧ x = 0) ∨ (t.1 ≠ 0 ∧ ((w = 0 ∧ x = t.2.2.2) ∨ (w ≠ 0 ∧ w = nI 1 ∧ x = (nI t.1).toInt64) ∨ (w ≠ 0 ∧ w ≠ nI 1 ∧ w = nI 2 ∧ x = t.2.1.toInt64) ∨ (w ≠ 0 ∧ w ≠ nI 1 ∧ w ≠ nI 2 ∧ x = t.2.2.1.toInt64)))
def tlR (d : ME) (key a w : Int32) (x : Int64) : Prop := ∃ mm, pre (mR d) (mN d) a mm ∧ tld (tf d key mm) w x
def tsm (rel : Int32) (y b : Int64) : Prop := (y < b ∧ rel = -1) ∨ (¬ y < b ∧ y = b ∧ rel = nI 0) ∨ (¬ y < b ∧ ¬ y = b ∧ rel = nI 1)
def rdM (r : Nat) (co rev bb x t : Int32) : Prop := ((rev = 0 ∧ x = nI r) ∨ (rev ≠ 0 ∧ x = rev)) ∧ (((bb ≠ 0 ∨ rev < 0) ∧ t = nI 1) ∨ (¬ (bb ≠ 0 ∨ rev < 0) ∧ rev ≠ 0 ∧ (rev < co ∨ nI r < rev) ∧ t = nI 2) ∨ (¬ (bb ≠ 0 ∨ rev < 0) ∧ (rev = 0 ∨ ¬ (rev < co ∨ nI r < rev)) ∧ t = nI 0))
def lastM (d : ME) (a : Int32) (j : Nat) : Prop := mX d j < 0 ∨ ∃ i, i < mN d ∧ mX d j = nI i ∧ ¬ mR d i ≤ a
def gM (d : ME) (lw hg a : Int32) (j : Nat) : Prop := lastM d a j ∧ mS d j ≠ 0 ∧ lw ≤ mK d j ∧ mK d j < hg
def nxOk (d : ME) : Prop := ∀ q, q < mN d → mX d q < 0 ∨ ∃ j, j < mN d ∧ mX d q = nI j
def gat (d : ME) (lw hg a : Int32) (mm cv : Nat) (b : Nat → Int32) : Prop := cv = cnt (gM d lw hg a) mm ∧ ∀ j, j < mm → gM d lw hg a j → b (cnt (gM d lw hg a) j) = mK d j
theorem cnt_mono {Pr : Nat → Prop} {i j : Nat} (h : i ≤ j) : cnt Pr i ≤ cnt Pr j := by
  induction h with
  | refl => exact Nat.le_refl _
  | step h ih => exact Nat.le_trans ih (by simp only [cnt]; omega)
theorem cnt_lt {Pr : Nat → Prop} {i j : Nat} (h : i < j) (hi : Pr i) : cnt Pr i < cnt Pr j := by
  have := cnt_mono (Pr := Pr) (show i + 1 ≤ j from h)
  rw [cnt_1 hi] at this
  omega
theorem gat_s {d : ME} {lw hg a : Int32} {i cv : Nat} {b : Nat → Int32} (h : gat d lw hg a i cv b) (hg1 : gM d lw hg a i) : gat d lw hg a (i + 1) (cv + 1) (upd b cv (mK d i)) := by
  obtain ⟨h1, h2⟩ := h
  refine ⟨by rw [cnt_1 hg1, h1], fun j hj hgj => ?_⟩
  rcases ls_or hj with h | h
  · rw [pk_un (by have := cnt_lt h hgj; omega)]
    exact h2 j h hgj
  · subst h
    rw [← h1]
    exact pk_us
theorem gat_n {d : ME} {lw hg a : Int32} {i cv : Nat} {b : Nat → Int32} (h : gat d lw hg a i cv b) (hg1 : ¬ gM d lw hg a i) : gat d lw hg a (i + 1) cv b := by
  obtain ⟨h1, h2⟩ := h
  refine ⟨by rw [cnt_0 hg1, h1], fun j hj hgj => ?_⟩
  rcases ls_or hj with h | h
  · exact h2 j h hgj
  · subst h
    exact absurd hgj hg1
/-- the steps done on the reference's events -/
def apM (a : Int32) (pk pb : Nat → Int32) (pv : Nat → Int64) (fr : Nat) (d : ME) : Nat → ME → Prop
  | 0, d1 => d1 = d
  | i + 1, d1 => ∃ d2, apM a pk pb pv fr d i d2 ∧ (((pb (fr + i) ≠ 0 ∨ thY d2 (pk (fr + i)) a) ∧ addR a (pk (fr + i)) (pb (fr + i)) (pv (fr + i)) d2 d1) ∨ (pb (fr + i) = 0 ∧ thN d2 (pk (fr + i)) a ∧ d1 = d2))
def rbk (n : Nat) (x y : Nat → Int32) : Prop := ∀ q, q < n → (nI n ≤ x q ∧ y q = -1) ∨ (¬ nI n ≤ x q ∧ y q = x q)
/-- the buffer's part k is sorted, nothing is lost -/
def srtB (cv : Nat) (b0 b : Nat → Int32) (k : Nat) : Prop := (∀ x, cnt (fun t => b t < x) cv = cnt (fun t => b0 t < x) cv) ∧ (∀ t, t < cv → ∃ t0, t0 < cv ∧ b t = b0 t0) ∧ ((∀ t u, t < cv → u < cv → b0 t = b0 u → t = u) → ∀ t u, t < cv → u < cv → b t = b u → t = u) ∧ ∀ t u, t < k → t < u → u < cv → b t ≤ b u
theorem cnt_ext {P Q : Nat → Prop} {n : Nat} (h : ∀ j, j < n → (P j ↔ Q j)) : cnt P n = cnt Q n := by
  induction n with
  | zero => rfl
  | succ n ih =>
    have e1 := ih (fun j hj => h j (by omega))
    by_cases hp : P n
    · rw [cnt_1 hp, cnt_1 ((h n (by omega)).mp hp), e1]
    · rw [cnt_0 hp, cnt_0 (fun q => hp ((h n (by omega)).mpr q)), e1]
/-- one place changed -/
theorem cnt_upd {P Q : Nat → Prop} {n i : Nat} (hi : i < n) (h : ∀ j, j < n → j ≠ i → (P j ↔ Q j)) : cnt P n + @ite Nat (Q i) (Classical.propDecidable _) 1 0 = cnt Q n + @ite Nat (P i) (Classical.propDecidable _) 1 0 := by
  induction n with
  | zero => omega
  | succ n ih =>
    by_cases he : i = n
    · subst he
      have e1 : cnt P i = cnt Q i := cnt_ext (fun j hj => h j (by omega) (by omega))
      simp only [cnt, e1]
      omega
    · have e1 := ih (by omega) (fun j hj hne => h j (by omega) hne)
      have e2 := h n (by omega) (fun q => he q.symm)
      by_cases hp : P n
      · rw [cnt_1 hp, cnt_1 (e2.mp hp)]; omega
      · rw [cnt_0 hp, cnt_0 (fun q => hp (e2.mpr q))]; exact e1
theorem cnt_swap {b : Nat → Int32} {n i j : Nat} (x : Int32) (hi : i < n) (hj : j < n) : cnt (fun t => upd (upd b i (b j)) j (b i) t < x) n = cnt (fun t => b t < x) n := by
  by_cases hij : i = j
  · subst hij
    refine cnt_ext (fun t ht => ?_)
    by_cases h : t = i
    · subst h; rw [pk_us]
    · rw [pk_un h, pk_un h]
  · have e1 := cnt_upd (P := fun t => upd (upd b i (b j)) j (b i) t < x) (Q := fun t => upd b i (b j) t < x) hj (fun t ht hne => by rw [pk_un hne])
    have e2 := cnt_upd (P := fun t => upd b i (b j) t < x) (Q := fun t => b t < x) hi (fun t ht hne => by rw [pk_un hne])
    have a1 : upd (upd b i (b j)) j (b i) j = b i := pk_us
    have a2 : upd b i (b j) j = b j := pk_un (fun q => hij q.symm)
    have a3 : upd b i (b j) i = b j := pk_us
    rw [a1, a2] at e1
    rw [a3] at e2
    generalize @ite Nat (b i < x) (Classical.propDecidable _) 1 0 = z1 at e1 e2
    generalize @ite Nat (b j < x) (Classical.propDecidable _) 1 0 = z2 at e1 e2
    omega
theorem srtB_0 (cv : Nat) (b : Nat → Int32) : srtB cv b b 0 := ⟨fun _ => rfl, fun t ht => ⟨t, ht, rfl⟩, fun h => h, fun t u h => absurd h (Nat.not_lt_zero t)⟩
/-- the least of the rest comes to place k -/
theorem srtB_s {cv k l : Nat} {b0 b : Nat → Int32} (h : srtB cv b0 b k) (hk : k ≤ l) (hl : l < cv) (hm : ∀ t, k ≤ t → t < cv → b l ≤ b t) : srtB cv b0 (upd (upd b k (b l)) l (b k)) (k + 1) := by
  obtain ⟨h1, h2, h3, h4⟩ := h
  have hkc : k < cv := by omega
  have at' : ∀ t, t < cv → ∃ s, s < cv ∧ upd (upd b k (b l)) l (b k) t = b s ∧ ((t = l ∧ s = k) ∨ (t ≠ l ∧ t = k ∧ s = l) ∨ (t ≠ l ∧ t ≠ k ∧ s = t)) := by
    intro t ht
    by_cases e1 : t = l
    · exact ⟨k, hkc, by rw [e1]; exact pk_us, Or.inl ⟨e1, rfl⟩⟩
    · by_cases e2 : t = k
      · exact ⟨l, hl, by rw [pk_un e1, e2]; exact pk_us, Or.inr (Or.inl ⟨e1, e2, rfl⟩)⟩
      · exact ⟨t, ht, by rw [pk_un e1, pk_un e2], Or.inr (Or.inr ⟨e1, e2, rfl⟩)⟩
  refine ⟨fun x => by rw [cnt_swap x hkc hl]; exact h1 x, fun t ht => ?_, fun hi t u ht hu e => ?_, fun t u ht htu hu => ?_⟩
  · obtain ⟨s, hs, e, -⟩ := at' t ht
    rw [e]
    exact h2 s hs
  · obtain ⟨s, hs, e1, o1⟩ := at' t ht
    obtain ⟨z, hz, e2, o2⟩ := at' u hu
    rw [e1, e2] at e
    have := h3 hi s z hs hz e
    omega
  · obtain ⟨s, hs, e1, o1⟩ := at' t (by omega)
    obtain ⟨z, hz, e2, o2⟩ := at' u hu
    rw [e1, e2]
    by_cases hk2 : t < k
    · have es : s = t := by omega
      rw [es]
      exact h4 t z hk2 (by omega) hz
    · have es : s = l := by omega
      rw [es]
      exact hm z (by omega) hz
set_option maxHeartbeats 4000000 in
set_option maxRecDepth 100000 in
theorem c_X4_thrown (l : Launch) (D : va_G) (cI cJ cZ : ClassId) (m0 mk mr mn mv ms mtk mtw mtr mtv msk mss msv mkb r n tz zz zn : Nat) (th co : Int32) (ek er en : Nat → Int32) (ev : Nat → Int64) (es ta tv tq : Nat → Int32) (tl : Nat → Int64) (pk pb : Nat → Int32) (pv : Nat → Int64) (kq : Nat → Int32)  : Met l yX4_thrown (Cond.code yX4_thrown cX4_thrown 1 (some .int) :: wB) ({ frames := 0, cells := 0, slots := 0, locals := 0 } : Room) (ro_Pc D cI cJ cZ [.ref m0] [(m0, .inr (4, [.int th, .ref mk, .ref mr, .ref mn, .ref mv, .ref ms, .int (nI n), .int (nI r), .int co, .ref mtk, .ref mtw, .ref mtr, .ref mtv, .int (nI tz), .ref msk, .ref mss, .ref msv, .int (nI zz), .int (nI zn), .ref mkb])), (mk, .inl (cI, 2040, .inl ek)), (mr, .inl (cI, 2040, .inl er)), (mn, .inl (cI, 2040, .inl en)), (mv, .inl (cJ, 2040, .inr (.inl ev))), (ms, .inl (cZ, 2040, .inl es)), (mtk, .inl (cI, 20, .inl ta)), (mtw, .inl (cI, 20, .inl tv)), (mtr, .inl (cI, 20, .inl tq)), (mtv, .inl (cJ, 20, .inr (.inl tl))), (msk, .inl (cI, 40, .inl pk)), (mss, .inl (cZ, 40, .inl pb)), (msv, .inl (cJ, 40, .inr (.inl pv))), (mkb, .inl (cI, 2000, .inl kq))]) (vp_Si (fun x => x = th)) 0 0 (fun _ => False) := by
  refine Met.ofW (cc := cX4_thrown) (maxL := 1) (ret := (some .int)) (by decide) rfl ?_
  intro p e s m args below meth c s₁ B hml hv
  obtain ⟨rfl, hP, hK⟩ := hv
  have hx := B.exec
  have hb := B.bytes
  have hr := B.returns
  have hts := atoms_spec (ws := (Cond.code yX4_thrown cX4_thrown 1 (some .int) :: wB)) B.pre
  have hown : s.vm.findClass RX4 = some m.cls := findClass_of_methodNamed B.named
  have hlocks := B.notSynchronized
  have hl := lv_entry ([.ref m0]) (n := 1) (Nat.le_of_ble_eq_true rfl)
  rw [lg_entry_eq]
  generalize (lg_sl ([.ref m0]) ++ List.replicate (1 - (lg_sl ([.ref m0])).length) Slot.unset).toArray = ls at hl ⊢
  have hl : lv_has ls 1 [(0, .ref m0)] := hl
  refine lv_aload_n hx hb dX4_thrown_0 rfl (lv_at hl 0 rfl) ?_
  refine va_get (D := D) (ci := 4) (v := .int th) (C := RX4) (T := TX4) (N := 20) hx hb hts mu_X4 hown hK hP 0 rfl rfl 0 (by decide) (hts _ (List.mem_cons_of_mem _ mw_434)) (fun _ h9 => h9) rfl dX4_thrown_1 ?_
  exact W.iret (v := th) hx hb hr (fun t ht hW => ⟨_, rfl, rfl, ht⟩) (fun q h => nomatch h) dX4_thrown_4
set_option maxHeartbeats 4000000 in
set_option maxRecDepth 100000 in
theorem c_X4_no (l : Launch) (D : va_G) (cI cJ cZ : ClassId) (sz : Nat) (m0 mk mr mn mv ms mtk mtw mtr mtv msk mss msv mkb r n tz zz zn : Nat) (th co : Int32) (ek er en : Nat → Int32) (ev : Nat → Int64) (es ta tv tq : Nat → Int32) (tl : Nat → Int64) (pk pb : Nat → Int32) (pv : Nat → Int64) (kq : Nat → Int32) (cd : Int32) : Met l yX4_no (Cond.code yX4_no cX4_no 2 (some .int) :: wB) ({ frames := 0, cells := 0, slots := 0, locals := 0 } : Room) (rw_Pc D cI cJ cZ sz [.ref m0, .int cd] [(m0, .inr (4, [.int th, .ref mk, .ref mr, .ref mn, .ref mv, .ref ms, .int (nI n), .int (nI r), .int co, .ref mtk, .ref mtw, .ref mtr, .ref mtv, .int (nI tz), .ref msk, .ref mss, .ref msv, .int (nI zz), .int (nI zn), .ref mkb])), (mk, .inl (cI, 2040, .inl ek)), (mr, .inl (cI, 2040, .inl er)), (mn, .inl (cI, 2040, .inl en)), (mv, .inl (cJ, 2040, .inr (.inl ev))), (ms, .inl (cZ, 2040, .inl es)), (mtk, .inl (cI, 20, .inl ta)), (mtw, .inl (cI, 20, .inl tv)), (mtr, .inl (cI, 20, .inl tq)), (mtv, .inl (cJ, 20, .inr (.inl tl))), (msk, .inl (cI, 40, .inl pk)), (mss, .inl (cZ, 40, .inl pb)), (msv, .inl (cJ, 40, .inr (.inl pv))), (mkb, .inl (cI, 2000, .inl kq))]) (rw_Qi (S := Unit) D cI cJ cZ sz [(m0, .inr (4, [.int th, .ref mk, .ref mr, .ref mn, .ref mv, .ref ms, .int (nI n), .int (nI r), .int co, .ref mtk, .ref mtw, .ref mtr, .ref mtv, .int (nI tz), .ref msk, .ref mss, .ref msv, .int (nI zz), .int (nI zn), .ref mkb])), (mk, .inl (cI, 2040, .inl ek)), (mr, .inl (cI, 2040, .inl er)), (mn, .inl (cI, 2040, .inl en)), (mv, .inl (cJ, 2040, .inr (.inl ev))), (ms, .inl (cZ, 2040, .inl es)), (mtk, .inl (cI, 20, .inl ta)), (mtw, .inl (cI, 20, .inl tv)), (mtr, .inl (cI, 20, .inl tq)), (mtv, .inl (cJ, 20, .inr (.inl tl))), (msk, .inl (cI, 40, .inl pk)), (mss, .inl (cZ, 40, .inl pb)), (msv, .inl (cJ, 40, .inr (.inl pv))), (mkb, .inl (cI, 2000, .inl kq))] (fun u => [(m0, .inr (4, [.int cd, .ref mk, .ref mr, .ref mn, .ref mv, .ref ms, .int (nI n), .int (nI r), .int co, .ref mtk, .ref mtw, .ref mtr, .ref mtv, .int (nI tz), .ref msk, .ref mss, .ref msv, .int (nI zz), .int (nI zn), .ref mkb])), (mk, .inl (cI, 2040, .inl ek)), (mr, .inl (cI, 2040, .inl er)), (mn, .inl (cI, 2040, .inl en)), (mv, .inl (cJ, 2040, .inr (.inl ev))), (ms, .inl (cZ, 2040, .inl es)), (mtk, .inl (cI, 20, .inl ta)), (mtw, .inl (cI, 20, .inl tv)), (mtr, .inl (cI, 20, .inl tq)), (mtv, .inl (cJ, 20, .inr (.inl tl))), (msk, .inl (cI, 40, .inl pk)), (mss, .inl (cZ, 40, .inl pb)), (msv, .inl (cJ, 40, .inr (.inl pv))), (mkb, .inl (cI, 2000, .inl kq))]) (fun x _ => x = nI 0)) 0 0 (va_A [(m0, .inr (4, [.int th, .ref mk, .ref mr, .ref mn, .ref mv, .ref ms, .int (nI n), .int (nI r), .int co, .ref mtk, .ref mtw, .ref mtr, .ref mtv, .int (nI tz), .ref msk, .ref mss, .ref msv, .int (nI zz), .int (nI zn), .ref mkb])), (mk, .inl (cI, 2040, .inl ek)), (mr, .inl (cI, 2040, .inl er)), (mn, .inl (cI, 2040, .inl en)), (mv, .inl (cJ, 2040, .inr (.inl ev))), (ms, .inl (cZ, 2040, .inl es)), (mtk, .inl (cI, 20, .inl ta)), (mtw, .inl (cI, 20, .inl tv)), (mtr, .inl (cI, 20, .inl tq)), (mtv, .inl (cJ, 20, .inr (.inl tl))), (msk, .inl (cI, 40, .inl pk)), (mss, .inl (cZ, 40, .inl pb)), (msv, .inl (cJ, 40, .inr (.inl pv))), (mkb, .inl (cI, 2000, .inl kq))] sz) := by
  refine Met.ofW (cc := cX4_no) (maxL := 2) (ret := (some .int)) (by decide) rfl ?_
  intro p e s m args below meth c s₁ B hml hv
  obtain ⟨rfl, hsz, hP, hK, hD0⟩ := hv
  have hx := B.exec
  have hb := B.bytes
  have hr := B.returns
  have hts := atoms_spec (ws := (Cond.code yX4_no cX4_no 2 (some .int) :: wB)) B.pre
  have hown : s.vm.findClass RX4 = some m.cls := findClass_of_methodNamed B.named
  have hlocks := B.notSynchronized
  subst hsz
  have hD := hD0.self (sz := s.heap.size)
  obtain ⟨A, hAe⟩ : ∃ A, A = va_A [(m0, .inr (4, [.int th, .ref mk, .ref mr, .ref mn, .ref mv, .ref ms, .int (nI n), .int (nI r), .int co, .ref mtk, .ref mtw, .ref mtr, .ref mtv, .int (nI tz), .ref msk, .ref mss, .ref msv, .int (nI zz), .int (nI zn), .ref mkb])), (mk, .inl (cI, 2040, .inl ek)), (mr, .inl (cI, 2040, .inl er)), (mn, .inl (cI, 2040, .inl en)), (mv, .inl (cJ, 2040, .inr (.inl ev))), (ms, .inl (cZ, 2040, .inl es)), (mtk, .inl (cI, 20, .inl ta)), (mtw, .inl (cI, 20, .inl tv)), (mtr, .inl (cI, 20, .inl tq)), (mtv, .inl (cJ, 20, .inr (.inl tl))), (msk, .inl (cI, 40, .inl pk)), (mss, .inl (cZ, 40, .inl pb)), (msv, .inl (cJ, 40, .inr (.inl pv))), (mkb, .inl (cI, 2000, .inl kq))] s.heap.size := ⟨_, rfl⟩
  rw [← hAe] at hD
  have hA : ∀ q : Nat, s.heap.size ≤ q → A q := fun q h => by rw [hAe]; exact Or.inr h
  have hS : va_S A s.heap s.heap [] := va_S.rf
  have hl := lv_entry ([.ref m0, .int cd]) (n := 2) (Nat.le_of_ble_eq_true rfl)
  rw [lg_entry_eq]
  generalize (lg_sl ([.ref m0, .int cd]) ++ List.replicate (2 - (lg_sl ([.ref m0, .int cd])).length) Slot.unset).toArray = ls at hl ⊢
  have hl : lv_has ls 2 [(0, .ref m0), (1, .int cd)] := hl
  refine lv_aload_n hx hb dX4_no_0 rfl (lv_at hl 0 rfl) ?_
  refine lv_iload_n hx hb dX4_no_1 rfl (lv_at hl 1 rfl) ?_
  refine va_put (D := D) (ci := 4) (v := .int cd) (ty := .int) (C := RX4) (T := TX4) (N := 20) hx hb hts mu_X4 tyX4 tyX4_ok nmX4 hown hK hP hD hS 0 rfl rfl 0 (by decide) (hts _ (List.mem_cons_of_mem _ mw_434)) (fun _ h9 => h9) rfl (by decide +kernel) rfl rfl (Nat.le_of_ble_eq_true rfl) dX4_no_2 (fun H locs hP hD hS => ?_)
  have hP : va_P D vwCl [(m0, .inr (4, [.int cd, .ref mk, .ref mr, .ref mn, .ref mv, .ref ms, .int (nI n), .int (nI r), .int co, .ref mtk, .ref mtw, .ref mtr, .ref mtv, .int (nI tz), .ref msk, .ref mss, .ref msv, .int (nI zz), .int (nI zn), .ref mkb])), (mk, .inl (cI, 2040, .inl ek)), (mr, .inl (cI, 2040, .inl er)), (mn, .inl (cI, 2040, .inl en)), (mv, .inl (cJ, 2040, .inr (.inl ev))), (ms, .inl (cZ, 2040, .inl es)), (mtk, .inl (cI, 20, .inl ta)), (mtw, .inl (cI, 20, .inl tv)), (mtr, .inl (cI, 20, .inl tq)), (mtv, .inl (cJ, 20, .inr (.inl tl))), (msk, .inl (cI, 40, .inl pk)), (mss, .inl (cZ, 40, .inl pb)), (msv, .inl (cJ, 40, .inr (.inl pv))), (mkb, .inl (cI, 2000, .inl kq))] H := hP
  have hD : va_D A [(m0, .inr (4, [.int cd, .ref mk, .ref mr, .ref mn, .ref mv, .ref ms, .int (nI n), .int (nI r), .int co, .ref mtk, .ref mtw, .ref mtr, .ref mtv, .int (nI tz), .ref msk, .ref mss, .ref msv, .int (nI zz), .int (nI zn), .ref mkb])), (mk, .inl (cI, 2040, .inl ek)), (mr, .inl (cI, 2040, .inl er)), (mn, .inl (cI, 2040, .inl en)), (mv, .inl (cJ, 2040, .inr (.inl ev))), (ms, .inl (cZ, 2040, .inl es)), (mtk, .inl (cI, 20, .inl ta)), (mtw, .inl (cI, 20, .inl tv)), (mtr, .inl (cI, 20, .inl tq)), (mtv, .inl (cJ, 20, .inr (.inl tl))), (msk, .inl (cI, 40, .inl pk)), (mss, .inl (cZ, 40, .inl pb)), (msv, .inl (cJ, 40, .inr (.inl pv))), (mkb, .inl (cI, 2000, .inl kq))] := hD
  refine lv_iconst (v := nI 0) hx hb dX4_no_5 (by decide) ?_
  exact rw_reti (u := ()) (v := (nI 0)) hAe (hP) (hD) hS hK (rfl) (Nat.le_of_ble_eq_true rfl) (Nat.le_of_ble_eq_true rfl) hx hb hr hlocks dX4_no_6
set_option maxHeartbeats 4000000 in
set_option maxRecDepth 100000 in
theorem c_X4_last (l : Launch) (D : va_G) (cI cJ cZ : ClassId) (m0 mk mr mn mv ms mtk mtw mtr mtv msk mss msv mkb r n tz zz zn : Nat) (th co : Int32) (ek er en : Nat → Int32) (ev : Nat → Int64) (es ta tv tq : Nat → Int32) (tl : Nat → Int64) (pk pb : Nat → Int32) (pv : Nat → Int64) (kq : Nat → Int32) (hn : n ≤ 2040) (key a : Int32) : Met l yX4_last (Cond.code yX4_last cX4_last 5 (some .int) :: wB) ({ frames := 0, cells := 0, slots := 0, locals := 0 } : Room) (ro_Pc D cI cJ cZ [.ref m0, .int key, .int a] [(m0, .inr (4, [.int th, .ref mk, .ref mr, .ref mn, .ref mv, .ref ms, .int (nI n), .int (nI r), .int co, .ref mtk, .ref mtw, .ref mtr, .ref mtv, .int (nI tz), .ref msk, .ref mss, .ref msv, .int (nI zz), .int (nI zn), .ref mkb])), (mk, .inl (cI, 2040, .inl ek)), (mr, .inl (cI, 2040, .inl er)), (mn, .inl (cI, 2040, .inl en)), (mv, .inl (cJ, 2040, .inr (.inl ev))), (ms, .inl (cZ, 2040, .inl es)), (mtk, .inl (cI, 20, .inl ta)), (mtw, .inl (cI, 20, .inl tv)), (mtr, .inl (cI, 20, .inl tq)), (mtv, .inl (cJ, 20, .inr (.inl tl))), (msk, .inl (cI, 40, .inl pk)), (mss, .inl (cZ, 40, .inl pb)), (msv, .inl (cJ, 40, .inr (.inl pv))), (mkb, .inl (cI, 2000, .inl kq))]) (vp_Si (fun x => ∃ mm, pre er n a mm ∧ lst ek key mm x)) 0 0 (fun _ => False) := by
  refine Met.ofW (cc := cX4_last) (maxL := 5) (ret := (some .int)) (by decide) rfl ?_
  intro p e s m args below meth c s₁ B hml hv
  obtain ⟨rfl, hP, hK⟩ := hv
  have hx := B.exec
  have hb := B.bytes
  have hr := B.returns
  have hts := atoms_spec (ws := (Cond.code yX4_last cX4_last 5 (some .int) :: wB)) B.pre
  have hown : s.vm.findClass RX4 = some m.cls := findClass_of_methodNamed B.named
  have hlocks := B.notSynchronized
  have hl := lv_entry ([.ref m0, .int key, .int a]) (n := 5) (Nat.le_of_ble_eq_true rfl)
  rw [lg_entry_eq]
  generalize (lg_sl ([.ref m0, .int key, .int a]) ++ List.replicate (5 - (lg_sl ([.ref m0, .int key, .int a])).length) Slot.unset).toArray = ls at hl ⊢
  have hl : lv_has ls 5 [(0, .ref m0), (1, .int key), (2, .int a)] := hl
  refine lv_iconst (v := -1) hx hb dX4_last_0 (by decide) ?_
  refine lv_istore_n (lv' := [(3, .int (-1)), (0, .ref m0), (1, .int key), (2, .int a)]) hx hb dX4_last_1 rfl hl (by decide) rfl (fun ls hl => ?_)
  refine lv_iconst (v := nI 0) hx hb dX4_last_2 (by decide) ?_
  refine lv_istore (lv' := [(4, .int (nI 0)), (3, .int (-1)), (0, .ref m0), (1, .int key), (2, .int a)]) hx hb dX4_last_3 hl (by decide) rfl (fun ls hl => ?_)
  have hloop_5 : ∀ (k : Nat) (i : Nat) (lx : Int32), n - i < k → i ≤ n → (∀ q, q < i → er q ≤ a) → lst ek key i lx → ∀ (ls : Array Slot), lv_has ls 5 [(0, .ref m0), (1, .int key), (2, .int a), (3, .int lx), (4, .int (nI i))] → W p l e ({ frames := 0, cells := 0, slots := 0, locals := 0 } : Room) s m ([.ref m0, .int key, .int a] : List Value).toArray below meth c s.heap [] 0 0 (MQ below (vp_Si (fun x => ∃ mm, pre er n a mm ∧ lst ek key mm x)) ([.ref m0, .int key, .int a] : List Value).toArray s 0 0 (fun _ => False)) (F0 m 5 ls []) := by
    intro k
    induction k with
    | zero => intro i lx hm; exact absurd hm (Nat.not_lt_zero _)
    | succ k ih_5 =>
      intro i lx hm_5 hi hp hq ls hl
      refine lv_iload hx hb dX4_last_5 (lv_at hl 4 rfl) ?_
      refine lv_aload_n hx hb dX4_last_7 rfl (lv_at hl 0 rfl) ?_
      refine va_get (D := D) (ci := 4) (v := .int (nI n)) (C := RX4) (T := TX4) (N := 20) hx hb hts mu_X4 hown hK hP 0 rfl rfl 6 (by decide) (hts _ (List.mem_cons_of_mem _ mw_440)) (fun _ h9 => h9) rfl dX4_last_8 ?_
      refine lv_icmp_ge (tgt := 45) hx hb dX4_last_11 (by decide) (fun c_11 => ?_) (fun c_11 => ?_)
      · have c_11 := (nI_leI (by omega) (by omega)).mp c_11
        refine lv_iload_n hx hb dX4_last_45 rfl (lv_at hl 3 rfl) ?_
        exact W.iret (v := lx) hx hb hr (fun t ht hW => ⟨_, rfl, ⟨i, ⟨hi, hp, by first | exact Or.inr (i_ltn c_22) | exact Or.inl (by omega)⟩, hq⟩, ht⟩) (fun q h => nomatch h) dX4_last_46
      · have c_11 := mt (nI_leI (by omega) (by omega)).mpr c_11
        refine lv_aload_n hx hb dX4_last_14 rfl (lv_at hl 0 rfl) ?_
        refine va_get (D := D) (ci := 4) (v := .ref mr) (C := RX4) (T := TX4) (N := 20) hx hb hts mu_X4 hown hK hP 0 rfl rfl 2 (by decide) (hts _ (List.mem_cons_of_mem _ mw_436)) (fun _ h9 => h9) rfl dX4_last_15 ?_
        refine lv_iload hx hb dX4_last_18 (lv_at hl 4 rfl) ?_
        refine rk_iald hx hb hK hP 2 0 rfl rfl (i := i) (by omega) (by decide) dX4_last_20 ?_
        refine lv_iload_n hx hb dX4_last_21 rfl (lv_at hl 2 rfl) ?_
        refine lv_icmp_gt (tgt := 45) hx hb dX4_last_22 (by decide) (fun c_22 => ?_) (fun c_22 => ?_)
        · skip
          refine lv_iload_n hx hb dX4_last_45 rfl (lv_at hl 3 rfl) ?_
          exact W.iret (v := lx) hx hb hr (fun t ht hW => ⟨_, rfl, ⟨i, ⟨hi, hp, by first | exact Or.inr (i_ltn c_22) | exact Or.inl (by omega)⟩, hq⟩, ht⟩) (fun q h => nomatch h) dX4_last_46
        · skip
          refine lv_aload_n hx hb dX4_last_25 rfl (lv_at hl 0 rfl) ?_
          refine va_get (D := D) (ci := 4) (v := .ref mk) (C := RX4) (T := TX4) (N := 20) hx hb hts mu_X4 hown hK hP 0 rfl rfl 1 (by decide) (hts _ (List.mem_cons_of_mem _ mw_435)) (fun _ h9 => h9) rfl dX4_last_26 ?_
          refine lv_iload hx hb dX4_last_29 (lv_at hl 4 rfl) ?_
          refine rk_iald hx hb hK hP 1 0 rfl rfl (i := i) (by omega) (by decide) dX4_last_31 ?_
          refine lv_iload_n hx hb dX4_last_32 rfl (lv_at hl 1 rfl) ?_
          refine lv_icmp_ne (tgt := 39) hx hb dX4_last_33 (by decide) (fun c_33 => ?_) (fun c_33 => ?_)
          · skip
            refine lv_iinc (v := nI (i + 1)) (lv' := [(4, .int (nI (i + 1))), (0, .ref m0), (1, .int key), (2, .int a), (3, .int lx)]) hx hb dX4_last_39 hl (k := 4) rfl (by rw [show Int32.ofInt 1 = nI 1 by decide, nI_add]) (by decide) rfl (fun ls hl => ?_)
            refine lv_goto (tgt := 5) hx hb dX4_last_42 (by decide) ?_
            exact ih_5 (i + 1) lx (by omega) (by omega) (by intro q hq1; rcases ls_or hq1 with h | h; exact hp q h; subst h; exact i_nlt c_22) (by first | exact Or.inr ⟨i, rfl, by omega, c_33, fun q h1 h2 => absurd h1 (by omega)⟩ | (rcases hq with ⟨h, h1⟩ | ⟨j, h, h1, h2, h3⟩; (refine Or.inl ⟨h, fun q hq1 => ?_⟩; rcases ls_or hq1 with h9 | h9; exact h1 q h9; subst h9; exact c_33); (refine Or.inr ⟨j, h, by omega, h2, fun q hq1 hq2 => ?_⟩; rcases ls_or hq2 with h9 | h9; exact h3 q hq1 h9; subst h9; exact c_33))) ls (lv_sub hl [1, 2, 3, 4, 0] rfl)
          · skip
            refine lv_iload hx hb dX4_last_36 (lv_at hl 4 rfl) ?_
            refine lv_istore_n (lv' := [(3, .int (nI i)), (0, .ref m0), (1, .int key), (2, .int a), (4, .int (nI i))]) hx hb dX4_last_38 rfl hl (by decide) rfl (fun ls hl => ?_)
            refine lv_iinc (v := nI (i + 1)) (lv' := [(4, .int (nI (i + 1))), (3, .int (nI i)), (0, .ref m0), (1, .int key), (2, .int a)]) hx hb dX4_last_39 hl (k := 4) rfl (by rw [show Int32.ofInt 1 = nI 1 by decide, nI_add]) (by decide) rfl (fun ls hl => ?_)
            refine lv_goto (tgt := 5) hx hb dX4_last_42 (by decide) ?_
            exact ih_5 (i + 1) (nI i) (by omega) (by omega) (by intro q hq1; rcases ls_or hq1 with h | h; exact hp q h; subst h; exact i_nlt c_22) (by first | exact Or.inr ⟨i, rfl, by omega, c_33, fun q h1 h2 => absurd h1 (by omega)⟩ | (rcases hq with ⟨h, h1⟩ | ⟨j, h, h1, h2, h3⟩; (refine Or.inl ⟨h, fun q hq1 => ?_⟩; rcases ls_or hq1 with h9 | h9; exact h1 q h9; subst h9; exact c_33); (refine Or.inr ⟨j, h, by omega, h2, fun q hq1 hq2 => ?_⟩; rcases ls_or hq2 with h9 | h9; exact h3 q hq1 h9; subst h9; exact c_33))) ls (lv_sub hl [2, 3, 4, 1, 0] rfl)
  -- on to the loop
  exact hloop_5 ((n - 0) + 1) 0 (-1) (Nat.lt_succ_self _) (by omega) (fun q h => absurd h (Nat.not_lt_zero q)) (Or.inl ⟨rfl, fun q h => absurd h (Nat.not_lt_zero q)⟩) ls (lv_sub hl [2, 3, 4, 1, 0] rfl)
set_option maxHeartbeats 4000000 in
set_option maxRecDepth 100000 in
theorem c_X4_isThere (l : Launch) (D : va_G) (cI cJ cZ : ClassId) (m0 mk mr mn mv ms mtk mtw mtr mtv msk mss msv mkb r n tz zz zn : Nat) (th co : Int32) (ek er en : Nat → Int32) (ev : Nat → Int64) (es ta tv tq : Nat → Int32) (tl : Nat → Int64) (pk pb : Nat → Int32) (pv : Nat → Int64) (kq : Nat → Int32) (hn : n ≤ 2040) (key a : Int32) : Met l yX4_isThere (Cond.code yX4_isThere cX4_isThere 4 (some .boolean) :: wB) ({ frames := 1, cells := 0, slots := 0, locals := 24 } : Room) (ro_Pc D cI cJ cZ [.ref m0, .int key, .int a] [(m0, .inr (4, [.int th, .ref mk, .ref mr, .ref mn, .ref mv, .ref ms, .int (nI n), .int (nI r), .int co, .ref mtk, .ref mtw, .ref mtr, .ref mtv, .int (nI tz), .ref msk, .ref mss, .ref msv, .int (nI zz), .int (nI zn), .ref mkb])), (mk, .inl (cI, 2040, .inl ek)), (mr, .inl (cI, 2040, .inl er)), (mn, .inl (cI, 2040, .inl en)), (mv, .inl (cJ, 2040, .inr (.inl ev))), (ms, .inl (cZ, 2040, .inl es)), (mtk, .inl (cI, 20, .inl ta)), (mtw, .inl (cI, 20, .inl tv)), (mtr, .inl (cI, 20, .inl tq)), (mtv, .inl (cJ, 20, .inr (.inl tl))), (msk, .inl (cI, 40, .inl pk)), (mss, .inl (cZ, 40, .inl pb)), (msv, .inl (cJ, 40, .inr (.inl pv))), (mkb, .inl (cI, 2000, .inl kq))]) (vp_Si (fun x => (x = nI 1 ∧ thY (n, ek, er, en, ev, es) key a) ∨ (x = nI 0 ∧ thN (n, ek, er, en, ev, es) key a))) 0 0 (fun _ => False) := by
  refine Met.ofW (cc := cX4_isThere) (maxL := 4) (ret := (some .boolean)) (by decide) rfl ?_
  intro p e s m args below meth c s₁ B hml hv
  obtain ⟨rfl, hP, hK⟩ := hv
  have hx := B.exec
  have hb := B.bytes
  have hr := B.returns
  have hts := atoms_spec (ws := (Cond.code yX4_isThere cX4_isThere 4 (some .boolean) :: wB)) B.pre
  have hown : s.vm.findClass RX4 = some m.cls := findClass_of_methodNamed B.named
  have hlocks := B.notSynchronized
  have hl := lv_entry ([.ref m0, .int key, .int a]) (n := 4) (Nat.le_of_ble_eq_true rfl)
  rw [lg_entry_eq]
  generalize (lg_sl ([.ref m0, .int key, .int a]) ++ List.replicate (4 - (lg_sl ([.ref m0, .int key, .int a])).length) Slot.unset).toArray = ls at hl ⊢
  have hl : lv_has ls 4 [(0, .ref m0), (1, .int key), (2, .int a)] := hl
  refine lv_aload_n hx hb dX4_isThere_0 rfl (lv_at hl 0 rfl) ?_
  refine lv_iload_n hx hb dX4_isThere_1 rfl (lv_at hl 1 rfl) ?_
  refine lv_iload_n hx hb dX4_isThere_2 rfl (lv_at hl 2 rfl) ?_
  refine ro_callVi (As := [.int key, .int a]) (rest := []) ⟨hx, hb, hml, hown, hts⟩ (c_X4_last l D cI cJ cZ m0 mk mr mn mv ms mtk mtw mtr mtv msk mss msv mkb r n tz zz zn th co ek er en ev es ta tv tq tl pk pb pv kq (by omega) key a) (cwV 2 hts (wB_V mw_511 mw_513 ms_11 mw_5 mw_514) rfl rfl rfl (by decide +kernel) ⟨Nat.le_of_ble_eq_true rfl, Nat.le_of_ble_eq_true rfl⟩) (va_recv hK hP (ci := 4) (q0 := 0) rfl rfl) (hP.sub (ws' := [(m0, .inr (4, [.int th, .ref mk, .ref mr, .ref mn, .ref mv, .ref ms, .int (nI n), .int (nI r), .int co, .ref mtk, .ref mtw, .ref mtr, .ref mtv, .int (nI tz), .ref msk, .ref mss, .ref msv, .int (nI zz), .int (nI zn), .ref mkb])), (mk, .inl (cI, 2040, .inl ek)), (mr, .inl (cI, 2040, .inl er)), (mn, .inl (cI, 2040, .inl en)), (mv, .inl (cJ, 2040, .inr (.inl ev))), (ms, .inl (cZ, 2040, .inl es)), (mtk, .inl (cI, 20, .inl ta)), (mtw, .inl (cI, 20, .inl tv)), (mtr, .inl (cI, 20, .inl tq)), (mtv, .inl (cJ, 20, .inr (.inl tl))), (msk, .inl (cI, 40, .inl pk)), (mss, .inl (cZ, 40, .inl pb)), (msv, .inl (cJ, 40, .inr (.inl pv))), (mkb, .inl (cI, 2000, .inl kq))]) [0, 1, 2, 3, 4, 5, 6, 7, 8, 9, 10, 11, 12, 13] rfl) hK rfl hl.1 (Nat.le_of_ble_eq_true rfl) ⟨Nat.le_of_ble_eq_true rfl, Nat.le_of_ble_eq_true rfl⟩ rfl dX4_isThere_3 (fun r_3 hw_3 => ?_)
  try dsimp only at hw_3
  obtain ⟨mm, hpr, hw_3⟩ := hw_3; rcases hw_3 with ⟨rfl, hw_3⟩ | ⟨j, rfl, hw_3⟩
  · skip
    refine lv_istore_n (lv' := [(3, .int (-1)), (0, .ref m0), (1, .int key), (2, .int a)]) hx hb dX4_isThere_6 rfl hl (by decide) rfl (fun ls hl => ?_)
    refine lv_iload_n hx hb dX4_isThere_7 rfl (lv_at hl 0 rfl) ?_
    refine lv_if_lt (tgt := 24) hx hb dX4_isThere_8 (by decide) (fun _ => ?_) (fun c => absurd (by decide) c)
    refine lv_iconst (v := nI 0) hx hb dX4_isThere_24 (by decide) ?_
    exact W.zret (v := (nI 0)) hx hb hr (by decide) (fun t ht hW => ⟨_, rfl, (by first | exact Or.inl ⟨rfl, mm, hpr, j, hw_3, c_17⟩ | exact Or.inr ⟨rfl, mm, hpr, Or.inr ⟨j, hw_3, c_17⟩⟩ | exact Or.inr ⟨rfl, mm, hpr, Or.inl hw_3⟩), ht⟩) (fun q h => nomatch h) dX4_isThere_25
  · have hj1 := hw_3.1
    have hj2 := hpr.1
    refine lv_istore_n (lv' := [(3, .int (nI j)), (0, .ref m0), (1, .int key), (2, .int a)]) hx hb dX4_isThere_6 rfl hl (by decide) rfl (fun ls hl => ?_)
    refine lv_iload_n hx hb dX4_isThere_7 rfl (lv_at hl 0 rfl) ?_
    refine lv_if_lt (tgt := 24) hx hb dX4_isThere_8 (by decide) (fun c => absurd c (nI_pos (by omega))) (fun _ => ?_)
    refine lv_aload_n hx hb dX4_isThere_11 rfl (lv_at hl 1 rfl) ?_
    refine va_get (D := D) (ci := 4) (v := .ref ms) (C := RX4) (T := TX4) (N := 20) hx hb hts mu_X4 hown hK hP 0 rfl rfl 5 (by decide) (hts _ (List.mem_cons_of_mem _ mw_439)) (fun _ h9 => h9) rfl dX4_isThere_12 ?_
    refine lv_iload_n hx hb dX4_isThere_15 rfl (lv_at hl 0 rfl) ?_
    refine rk_zald hx hb hK hP 5 2 rfl rfl (i := j) (by omega) (by decide) dX4_isThere_16 ?_
    refine lv_if_eq (tgt := 24) hx hb dX4_isThere_17 (by decide) (fun c_17 => ?_) (fun c_17 => ?_)
    · skip
      refine lv_iconst (v := nI 0) hx hb dX4_isThere_24 (by decide) ?_
      exact W.zret (v := (nI 0)) hx hb hr (by decide) (fun t ht hW => ⟨_, rfl, (by first | exact Or.inl ⟨rfl, mm, hpr, j, hw_3, c_17⟩ | exact Or.inr ⟨rfl, mm, hpr, Or.inr ⟨j, hw_3, c_17⟩⟩ | exact Or.inr ⟨rfl, mm, hpr, Or.inl hw_3⟩), ht⟩) (fun q h => nomatch h) dX4_isThere_25
    · skip
      refine lv_iconst (v := nI 1) hx hb dX4_isThere_20 (by decide) ?_
      refine lv_goto (tgt := 25) hx hb dX4_isThere_21 (by decide) ?_
      exact W.zret (v := (nI 1)) hx hb hr (by decide) (fun t ht hW => ⟨_, rfl, (by first | exact Or.inl ⟨rfl, mm, hpr, j, hw_3, c_17⟩ | exact Or.inr ⟨rfl, mm, hpr, Or.inr ⟨j, hw_3, c_17⟩⟩ | exact Or.inr ⟨rfl, mm, hpr, Or.inl hw_3⟩), ht⟩) (fun q h => nomatch h) dX4_isThere_25
set_option maxHeartbeats 4000000 in
set_option maxRecDepth 100000 in
theorem c_X4_add (l : Launch) (D : va_G) (cI cJ cZ : ClassId) (sz : Nat) (m0 mk mr mn mv ms mtk mtw mtr mtv msk mss msv mkb r n tz zz zn : Nat) (th co : Int32) (ek er en : Nat → Int32) (ev : Nat → Int64) (es ta tv tq : Nat → Int32) (tl : Nat → Int64) (pk pb : Nat → Int32) (pv : Nat → Int64) (kq : Nat → Int32) (hn : n < 2040) (key b : Int32) (hb01 : b = nI 0 ∨ b = nI 1) (v : Int64) (a : Int32) : Met l yX4_add (Cond.code yX4_add cX4_add 7 none :: wB) ({ frames := 1, cells := 0, slots := 0, locals := 24 } : Room) (rw_Pc D cI cJ cZ sz [.ref m0, .int key, .int b, .long v, .int a] [(m0, .inr (4, [.int th, .ref mk, .ref mr, .ref mn, .ref mv, .ref ms, .int (nI n), .int (nI r), .int co, .ref mtk, .ref mtw, .ref mtr, .ref mtv, .int (nI tz), .ref msk, .ref mss, .ref msv, .int (nI zz), .int (nI zn), .ref mkb])), (mk, .inl (cI, 2040, .inl ek)), (mr, .inl (cI, 2040, .inl er)), (mn, .inl (cI, 2040, .inl en)), (mv, .inl (cJ, 2040, .inr (.inl ev))), (ms, .inl (cZ, 2040, .inl es)), (mtk, .inl (cI, 20, .inl ta)), (mtw, .inl (cI, 20, .inl tv)), (mtr, .inl (cI, 20, .inl tq)), (mtv, .inl (cJ, 20, .inr (.inl tl))), (msk, .inl (cI, 40, .inl pk)), (mss, .inl (cZ, 40, .inl pb)), (msv, .inl (cJ, 40, .inr (.inl pv))), (mkb, .inl (cI, 2000, .inl kq))]) (rw_Qv (S := Nat → Int32) D cI cJ cZ sz [(m0, .inr (4, [.int th, .ref mk, .ref mr, .ref mn, .ref mv, .ref ms, .int (nI n), .int (nI r), .int co, .ref mtk, .ref mtw, .ref mtr, .ref mtv, .int (nI tz), .ref msk, .ref mss, .ref msv, .int (nI zz), .int (nI zn), .ref mkb])), (mk, .inl (cI, 2040, .inl ek)), (mr, .inl (cI, 2040, .inl er)), (mn, .inl (cI, 2040, .inl en)), (mv, .inl (cJ, 2040, .inr (.inl ev))), (ms, .inl (cZ, 2040, .inl es)), (mtk, .inl (cI, 20, .inl ta)), (mtw, .inl (cI, 20, .inl tv)), (mtr, .inl (cI, 20, .inl tq)), (mtv, .inl (cJ, 20, .inr (.inl tl))), (msk, .inl (cI, 40, .inl pk)), (mss, .inl (cZ, 40, .inl pb)), (msv, .inl (cJ, 40, .inr (.inl pv))), (mkb, .inl (cI, 2000, .inl kq))] (fun x1 => [(m0, .inr (4, [.int th, .ref mk, .ref mr, .ref mn, .ref mv, .ref ms, .int (nI (n + 1)), .int (nI r), .int co, .ref mtk, .ref mtw, .ref mtr, .ref mtv, .int (nI tz), .ref msk, .ref mss, .ref msv, .int (nI zz), .int (nI zn), .ref mkb])), (mk, .inl (cI, 2040, .inl (upd ek n key))), (mr, .inl (cI, 2040, .inl (upd er n a))), (mn, .inl (cI, 2040, .inl x1)), (mv, .inl (cJ, 2040, .inr (.inl (vp_updL ev n v)))), (ms, .inl (cZ, 2040, .inl (upd es n b))), (mtk, .inl (cI, 20, .inl ta)), (mtw, .inl (cI, 20, .inl tv)), (mtr, .inl (cI, 20, .inl tq)), (mtv, .inl (cJ, 20, .inr (.inl tl))), (msk, .inl (cI, 40, .inl pk)), (mss, .inl (cZ, 40, .inl pb)), (msv, .inl (cJ, 40, .inr (.inl pv))), (mkb, .inl (cI, 2000, .inl kq))]) (fun x1 => ∃ mm, pre er n a mm ∧ (((∀ q, q < mm → ek q ≠ key) ∧ x1 = upd en n (-1)) ∨ (∃ j, lsj ek key mm j ∧ x1 = upd (upd en j (nI n)) n (-1))))) 0 0 (va_A [(m0, .inr (4, [.int th, .ref mk, .ref mr, .ref mn, .ref mv, .ref ms, .int (nI n), .int (nI r), .int co, .ref mtk, .ref mtw, .ref mtr, .ref mtv, .int (nI tz), .ref msk, .ref mss, .ref msv, .int (nI zz), .int (nI zn), .ref mkb])), (mk, .inl (cI, 2040, .inl ek)), (mr, .inl (cI, 2040, .inl er)), (mn, .inl (cI, 2040, .inl en)), (mv, .inl (cJ, 2040, .inr (.inl ev))), (ms, .inl (cZ, 2040, .inl es)), (mtk, .inl (cI, 20, .inl ta)), (mtw, .inl (cI, 20, .inl tv)), (mtr, .inl (cI, 20, .inl tq)), (mtv, .inl (cJ, 20, .inr (.inl tl))), (msk, .inl (cI, 40, .inl pk)), (mss, .inl (cZ, 40, .inl pb)), (msv, .inl (cJ, 40, .inr (.inl pv))), (mkb, .inl (cI, 2000, .inl kq))] sz) := by
  refine Met.ofW (cc := cX4_add) (maxL := 7) (ret := none) (by decide) rfl ?_
  intro p e s m args below meth c s₁ B hml hv
  obtain ⟨rfl, hsz, hP, hK, hD0⟩ := hv
  have hx := B.exec
  have hb := B.bytes
  have hr := B.returns
  have hts := atoms_spec (ws := (Cond.code yX4_add cX4_add 7 none :: wB)) B.pre
  have hown : s.vm.findClass RX4 = some m.cls := findClass_of_methodNamed B.named
  have hlocks := B.notSynchronized
  subst hsz
  have hD := hD0.self (sz := s.heap.size)
  obtain ⟨A, hAe⟩ : ∃ A, A = va_A [(m0, .inr (4, [.int th, .ref mk, .ref mr, .ref mn, .ref mv, .ref ms, .int (nI n), .int (nI r), .int co, .ref mtk, .ref mtw, .ref mtr, .ref mtv, .int (nI tz), .ref msk, .ref mss, .ref msv, .int (nI zz), .int (nI zn), .ref mkb])), (mk, .inl (cI, 2040, .inl ek)), (mr, .inl (cI, 2040, .inl er)), (mn, .inl (cI, 2040, .inl en)), (mv, .inl (cJ, 2040, .inr (.inl ev))), (ms, .inl (cZ, 2040, .inl es)), (mtk, .inl (cI, 20, .inl ta)), (mtw, .inl (cI, 20, .inl tv)), (mtr, .inl (cI, 20, .inl tq)), (mtv, .inl (cJ, 20, .inr (.inl tl))), (msk, .inl (cI, 40, .inl pk)), (mss, .inl (cZ, 40, .inl pb)), (msv, .inl (cJ, 40, .inr (.inl pv))), (mkb, .inl (cI, 2000, .inl kq))] s.heap.size := ⟨_, rfl⟩
  rw [← hAe] at hD
  have hA : ∀ q : Nat, s.heap.size ≤ q → A q := fun q h => by rw [hAe]; exact Or.inr h
  have hS : va_S A s.heap s.heap [] := va_S.rf
  have hl := lv_entry ([.ref m0, .int key, .int b, .long v, .int a]) (n := 7) (Nat.le_of_ble_eq_true rfl)
  rw [lg_entry_eq]
  generalize (lg_sl ([.ref m0, .int key, .int b, .long v, .int a]) ++ List.replicate (7 - (lg_sl ([.ref m0, .int key, .int b, .long v, .int a])).length) Slot.unset).toArray = ls at hl ⊢
  have hl : lv_has ls 7 [(0, .ref m0), (1, .int key), (2, .int b), (3, .long v), (5, .int a)] := hl
  refine lv_aload_n hx hb dX4_add_0 rfl (lv_at hl 0 rfl) ?_
  refine lv_iload_n hx hb dX4_add_1 rfl (lv_at hl 1 rfl) ?_
  refine lv_iload hx hb dX4_add_2 (lv_at hl 4 rfl) ?_
  refine ro_callVi (As := [.int key, .int a]) (rest := []) ⟨hx, hb, hml, hown, hts⟩ (c_X4_last l D cI cJ cZ m0 mk mr mn mv ms mtk mtw mtr mtv msk mss msv mkb r n tz zz zn th co ek er en ev es ta tv tq tl pk pb pv kq (by omega) key a) (cwV 2 hts (wB_V mw_511 mw_513 ms_11 mw_5 mw_514) rfl rfl rfl (by decide +kernel) ⟨Nat.le_of_ble_eq_true rfl, Nat.le_of_ble_eq_true rfl⟩) (va_recv hK hP (ci := 4) (q0 := 0) rfl rfl) (hP.sub (ws' := [(m0, .inr (4, [.int th, .ref mk, .ref mr, .ref mn, .ref mv, .ref ms, .int (nI n), .int (nI r), .int co, .ref mtk, .ref mtw, .ref mtr, .ref mtv, .int (nI tz), .ref msk, .ref mss, .ref msv, .int (nI zz), .int (nI zn), .ref mkb])), (mk, .inl (cI, 2040, .inl ek)), (mr, .inl (cI, 2040, .inl er)), (mn, .inl (cI, 2040, .inl en)), (mv, .inl (cJ, 2040, .inr (.inl ev))), (ms, .inl (cZ, 2040, .inl es)), (mtk, .inl (cI, 20, .inl ta)), (mtw, .inl (cI, 20, .inl tv)), (mtr, .inl (cI, 20, .inl tq)), (mtv, .inl (cJ, 20, .inr (.inl tl))), (msk, .inl (cI, 40, .inl pk)), (mss, .inl (cZ, 40, .inl pb)), (msv, .inl (cJ, 40, .inr (.inl pv))), (mkb, .inl (cI, 2000, .inl kq))]) [0, 1, 2, 3, 4, 5, 6, 7, 8, 9, 10, 11, 12, 13] rfl) hK rfl hl.1 (Nat.le_of_ble_eq_true rfl) ⟨Nat.le_of_ble_eq_true rfl, Nat.le_of_ble_eq_true rfl⟩ rfl dX4_add_4 (fun r_4 hw_4 => ?_)
  try dsimp only at hw_4
  obtain ⟨mm, hpr, hw_4⟩ := hw_4; rcases hw_4 with ⟨rfl, hw_4⟩ | ⟨j, rfl, hw_4⟩
  · skip
    refine lv_istore (lv' := [(6, .int (-1)), (0, .ref m0), (1, .int key), (2, .int b), (3, .long v), (5, .int a)]) hx hb dX4_add_7 hl (by decide) rfl (fun ls hl => ?_)
    refine lv_iload hx hb dX4_add_9 (lv_at hl 0 rfl) ?_
    refine lv_if_lt (tgt := 25) hx hb dX4_add_11 (by decide) (fun _ => ?_) (fun c => absurd (by decide) c)
    refine lv_aload_n hx hb dX4_add_25 rfl (lv_at hl 1 rfl) ?_
    refine va_get (D := D) (ci := 4) (v := .ref mk) (C := RX4) (T := TX4) (N := 20) hx hb hts mu_X4 hown hK hP 0 rfl rfl 1 (by decide) (hts _ (List.mem_cons_of_mem _ mw_435)) (fun _ h9 => h9) rfl dX4_add_26 ?_
    refine lv_aload_n hx hb dX4_add_29 rfl (lv_at hl 1 rfl) ?_
    refine va_get (D := D) (ci := 4) (v := .int (nI n)) (C := RX4) (T := TX4) (N := 20) hx hb hts mu_X4 hown hK hP 0 rfl rfl 6 (by decide) (hts _ (List.mem_cons_of_mem _ mw_440)) (fun _ h9 => h9) rfl dX4_add_30 ?_
    refine lv_iload_n hx hb dX4_add_33 rfl (lv_at hl 2 rfl) ?_
    refine rk_iast hx hb hK hP hD hS 1 0 rfl rfl (i := n) (by omega) (by decide) dX4_add_34 (fun H locs hP hD hS => ?_)
    have hP : va_P D vwCl [(m0, .inr (4, [.int th, .ref mk, .ref mr, .ref mn, .ref mv, .ref ms, .int (nI n), .int (nI r), .int co, .ref mtk, .ref mtw, .ref mtr, .ref mtv, .int (nI tz), .ref msk, .ref mss, .ref msv, .int (nI zz), .int (nI zn), .ref mkb])), (mk, .inl (cI, 2040, .inl (upd ek n key))), (mr, .inl (cI, 2040, .inl er)), (mn, .inl (cI, 2040, .inl en)), (mv, .inl (cJ, 2040, .inr (.inl ev))), (ms, .inl (cZ, 2040, .inl es)), (mtk, .inl (cI, 20, .inl ta)), (mtw, .inl (cI, 20, .inl tv)), (mtr, .inl (cI, 20, .inl tq)), (mtv, .inl (cJ, 20, .inr (.inl tl))), (msk, .inl (cI, 40, .inl pk)), (mss, .inl (cZ, 40, .inl pb)), (msv, .inl (cJ, 40, .inr (.inl pv))), (mkb, .inl (cI, 2000, .inl kq))] H := hP
    have hD : va_D A [(m0, .inr (4, [.int th, .ref mk, .ref mr, .ref mn, .ref mv, .ref ms, .int (nI n), .int (nI r), .int co, .ref mtk, .ref mtw, .ref mtr, .ref mtv, .int (nI tz), .ref msk, .ref mss, .ref msv, .int (nI zz), .int (nI zn), .ref mkb])), (mk, .inl (cI, 2040, .inl (upd ek n key))), (mr, .inl (cI, 2040, .inl er)), (mn, .inl (cI, 2040, .inl en)), (mv, .inl (cJ, 2040, .inr (.inl ev))), (ms, .inl (cZ, 2040, .inl es)), (mtk, .inl (cI, 20, .inl ta)), (mtw, .inl (cI, 20, .inl tv)), (mtr, .inl (cI, 20, .inl tq)), (mtv, .inl (cJ, 20, .inr (.inl tl))), (msk, .inl (cI, 40, .inl pk)), (mss, .inl (cZ, 40, .inl pb)), (msv, .inl (cJ, 40, .inr (.inl pv))), (mkb, .inl (cI, 2000, .inl kq))] := hD
    refine lv_aload_n hx hb dX4_add_35 rfl (lv_at hl 1 rfl) ?_
    refine va_get (D := D) (ci := 4) (v := .ref ms) (C := RX4) (T := TX4) (N := 20) hx hb hts mu_X4 hown hK hP 0 rfl rfl 5 (by decide) (hts _ (List.mem_cons_of_mem _ mw_439)) (fun _ h9 => h9) rfl dX4_add_36 ?_
    refine lv_aload_n hx hb dX4_add_39 rfl (lv_at hl 1 rfl) ?_
    refine va_get (D := D) (ci := 4) (v := .int (nI n)) (C := RX4) (T := TX4) (N := 20) hx hb hts mu_X4 hown hK hP 0 rfl rfl 6 (by decide) (hts _ (List.mem_cons_of_mem _ mw_440)) (fun _ h9 => h9) rfl dX4_add_40 ?_
    refine lv_iload_n hx hb dX4_add_43 rfl (lv_at hl 3 rfl) ?_
    refine rk_zast hx hb hK hP hD hS 5 2 rfl rfl (i := n) (by rcases hb01 with h | h <;> rw [h] <;> decide) (by omega) (by decide) dX4_add_44 (fun H locs hP hD hS => ?_)
    have hP : va_P D vwCl [(m0, .inr (4, [.int th, .ref mk, .ref mr, .ref mn, .ref mv, .ref ms, .int (nI n), .int (nI r), .int co, .ref mtk, .ref mtw, .ref mtr, .ref mtv, .int (nI tz), .ref msk, .ref mss, .ref msv, .int (nI zz), .int (nI zn), .ref mkb])), (mk, .inl (cI, 2040, .inl (upd ek n key))), (mr, .inl (cI, 2040, .inl er)), (mn, .inl (cI, 2040, .inl en)), (mv, .inl (cJ, 2040, .inr (.inl ev))), (ms, .inl (cZ, 2040, .inl (upd es n b))), (mtk, .inl (cI, 20, .inl ta)), (mtw, .inl (cI, 20, .inl tv)), (mtr, .inl (cI, 20, .inl tq)), (mtv, .inl (cJ, 20, .inr (.inl tl))), (msk, .inl (cI, 40, .inl pk)), (mss, .inl (cZ, 40, .inl pb)), (msv, .inl (cJ, 40, .inr (.inl pv))), (mkb, .inl (cI, 2000, .inl kq))] H := hP
    have hD : va_D A [(m0, .inr (4, [.int th, .ref mk, .ref mr, .ref mn, .ref mv, .ref ms, .int (nI n), .int (nI r), .int co, .ref mtk, .ref mtw, .ref mtr, .ref mtv, .int (nI tz), .ref msk, .ref mss, .ref msv, .int (nI zz), .int (nI zn), .ref mkb])), (mk, .inl (cI, 2040, .inl (upd ek n key))), (mr, .inl (cI, 2040, .inl er)), (mn, .inl (cI, 2040, .inl en)), (mv, .inl (cJ, 2040, .inr (.inl ev))), (ms, .inl (cZ, 2040, .inl (upd es n b))), (mtk, .inl (cI, 20, .inl ta)), (mtw, .inl (cI, 20, .inl tv)), (mtr, .inl (cI, 20, .inl tq)), (mtv, .inl (cJ, 20, .inr (.inl tl))), (msk, .inl (cI, 40, .inl pk)), (mss, .inl (cZ, 40, .inl pb)), (msv, .inl (cJ, 40, .inr (.inl pv))), (mkb, .inl (cI, 2000, .inl kq))] := hD
    refine lv_aload_n hx hb dX4_add_45 rfl (lv_at hl 1 rfl) ?_
    refine va_get (D := D) (ci := 4) (v := .ref mv) (C := RX4) (T := TX4) (N := 20) hx hb hts mu_X4 hown hK hP 0 rfl rfl 4 (by decide) (hts _ (List.mem_cons_of_mem _ mw_438)) (fun _ h9 => h9) rfl dX4_add_46 ?_
    refine lv_aload_n hx hb dX4_add_49 rfl (lv_at hl 1 rfl) ?_
    refine va_get (D := D) (ci := 4) (v := .int (nI n)) (C := RX4) (T := TX4) (N := 20) hx hb hts mu_X4 hown hK hP 0 rfl rfl 6 (by decide) (hts _ (List.mem_cons_of_mem _ mw_440)) (fun _ h9 => h9) rfl dX4_add_50 ?_
    refine lv_lload_n hx hb dX4_add_53 rfl (lv_at hl 4 rfl) ?_
    refine rk_last hx hb hK hP hD hS 4 1 rfl rfl (i := n) (by omega) (by decide) dX4_add_54 (fun H locs hP hD hS => ?_)
    have hP : va_P D vwCl [(m0, .inr (4, [.int th, .ref mk, .ref mr, .ref mn, .ref mv, .ref ms, .int (nI n), .int (nI r), .int co, .ref mtk, .ref mtw, .ref mtr, .ref mtv, .int (nI tz), .ref msk, .ref mss, .ref msv, .int (nI zz), .int (nI zn), .ref mkb])), (mk, .inl (cI, 2040, .inl (upd ek n key))), (mr, .inl (cI, 2040, .inl er)), (mn, .inl (cI, 2040, .inl en)), (mv, .inl (cJ, 2040, .inr (.inl (vp_updL ev n v)))), (ms, .inl (cZ, 2040, .inl (upd es n b))), (mtk, .inl (cI, 20, .inl ta)), (mtw, .inl (cI, 20, .inl tv)), (mtr, .inl (cI, 20, .inl tq)), (mtv, .inl (cJ, 20, .inr (.inl tl))), (msk, .inl (cI, 40, .inl pk)), (mss, .inl (cZ, 40, .inl pb)), (msv, .inl (cJ, 40, .inr (.inl pv))), (mkb, .inl (cI, 2000, .inl kq))] H := hP
    have hD : va_D A [(m0, .inr (4, [.int th, .ref mk, .ref mr, .ref mn, .ref mv, .ref ms, .int (nI n), .int (nI r), .int co, .ref mtk, .ref mtw, .ref mtr, .ref mtv, .int (nI tz), .ref msk, .ref mss, .ref msv, .int (nI zz), .int (nI zn), .ref mkb])), (mk, .inl (cI, 2040, .inl (upd ek n key))), (mr, .inl (cI, 2040, .inl er)), (mn, .inl (cI, 2040, .inl en)), (mv, .inl (cJ, 2040, .inr (.inl (vp_updL ev n v)))), (ms, .inl (cZ, 2040, .inl (upd es n b))), (mtk, .inl (cI, 20, .inl ta)), (mtw, .inl (cI, 20, .inl tv)), (mtr, .inl (cI, 20, .inl tq)), (mtv, .inl (cJ, 20, .inr (.inl tl))), (msk, .inl (cI, 40, .inl pk)), (mss, .inl (cZ, 40, .inl pb)), (msv, .inl (cJ, 40, .inr (.inl pv))), (mkb, .inl (cI, 2000, .inl kq))] := hD
    refine lv_aload_n hx hb dX4_add_55 rfl (lv_at hl 1 rfl) ?_
    refine va_get (D := D) (ci := 4) (v := .ref mr) (C := RX4) (T := TX4) (N := 20) hx hb hts mu_X4 hown hK hP 0 rfl rfl 2 (by decide) (hts _ (List.mem_cons_of_mem _ mw_436)) (fun _ h9 => h9) rfl dX4_add_56 ?_
    refine lv_aload_n hx hb dX4_add_59 rfl (lv_at hl 1 rfl) ?_
    refine va_get (D := D) (ci := 4) (v := .int (nI n)) (C := RX4) (T := TX4) (N := 20) hx hb hts mu_X4 hown hK hP 0 rfl rfl 6 (by decide) (hts _ (List.mem_cons_of_mem _ mw_440)) (fun _ h9 => h9) rfl dX4_add_60 ?_
    refine lv_iload hx hb dX4_add_63 (lv_at hl 5 rfl) ?_
    refine rk_iast hx hb hK hP hD hS 2 0 rfl rfl (i := n) (by omega) (by decide) dX4_add_65 (fun H locs hP hD hS => ?_)
    have hP : va_P D vwCl [(m0, .inr (4, [.int th, .ref mk, .ref mr, .ref mn, .ref mv, .ref ms, .int (nI n), .int (nI r), .int co, .ref mtk, .ref mtw, .ref mtr, .ref mtv, .int (nI tz), .ref msk, .ref mss, .ref msv, .int (nI zz), .int (nI zn), .ref mkb])), (mk, .inl (cI, 2040, .inl (upd ek n key))), (mr, .inl (cI, 2040, .inl (upd er n a))), (mn, .inl (cI, 2040, .inl en)), (mv, .inl (cJ, 2040, .inr (.inl (vp_updL ev n v)))), (ms, .inl (cZ, 2040, .inl (upd es n b))), (mtk, .inl (cI, 20, .inl ta)), (mtw, .inl (cI, 20, .inl tv)), (mtr, .inl (cI, 20, .inl tq)), (mtv, .inl (cJ, 20, .inr (.inl tl))), (msk, .inl (cI, 40, .inl pk)), (mss, .inl (cZ, 40, .inl pb)), (msv, .inl (cJ, 40, .inr (.inl pv))), (mkb, .inl (cI, 2000, .inl kq))] H := hP
    have hD : va_D A [(m0, .inr (4, [.int th, .ref mk, .ref mr, .ref mn, .ref mv, .ref ms, .int (nI n), .int (nI r), .int co, .ref mtk, .ref mtw, .ref mtr, .ref mtv, .int (nI tz), .ref msk, .ref mss, .ref msv, .int (nI zz), .int (nI zn), .ref mkb])), (mk, .inl (cI, 2040, .inl (upd ek n key))), (mr, .inl (cI, 2040, .inl (upd er n a))), (mn, .inl (cI, 2040, .inl en)), (mv, .inl (cJ, 2040, .inr (.inl (vp_updL ev n v)))), (ms, .inl (cZ, 2040, .inl (upd es n b))), (mtk, .inl (cI, 20, .inl ta)), (mtw, .inl (cI, 20, .inl tv)), (mtr, .inl (cI, 20, .inl tq)), (mtv, .inl (cJ, 20, .inr (.inl tl))), (msk, .inl (cI, 40, .inl pk)), (mss, .inl (cZ, 40, .inl pb)), (msv, .inl (cJ, 40, .inr (.inl pv))), (mkb, .inl (cI, 2000, .inl kq))] := hD
    refine lv_aload_n hx hb dX4_add_66 rfl (lv_at hl 1 rfl) ?_
    refine va_get (D := D) (ci := 4) (v := .ref mn) (C := RX4) (T := TX4) (N := 20) hx hb hts mu_X4 hown hK hP 0 rfl rfl 3 (by decide) (hts _ (List.mem_cons_of_mem _ mw_437)) (fun _ h9 => h9) rfl dX4_add_67 ?_
    refine lv_aload_n hx hb dX4_add_70 rfl (lv_at hl 1 rfl) ?_
    refine va_get (D := D) (ci := 4) (v := .int (nI n)) (C := RX4) (T := TX4) (N := 20) hx hb hts mu_X4 hown hK hP 0 rfl rfl 6 (by decide) (hts _ (List.mem_cons_of_mem _ mw_440)) (fun _ h9 => h9) rfl dX4_add_71 ?_
    refine lv_iconst (v := -1) hx hb dX4_add_74 (by decide) ?_
    refine rk_iast hx hb hK hP hD hS 3 0 rfl rfl (i := n) (by omega) (by decide) dX4_add_75 (fun H locs hP hD hS => ?_)
    have hP : va_P D vwCl [(m0, .inr (4, [.int th, .ref mk, .ref mr, .ref mn, .ref mv, .ref ms, .int (nI n), .int (nI r), .int co, .ref mtk, .ref mtw, .ref mtr, .ref mtv, .int (nI tz), .ref msk, .ref mss, .ref msv, .int (nI zz), .int (nI zn), .ref mkb])), (mk, .inl (cI, 2040, .inl (upd ek n key))), (mr, .inl (cI, 2040, .inl (upd er n a))), (mn, .inl (cI, 2040, .inl (upd en n (-1)))), (mv, .inl (cJ, 2040, .inr (.inl (vp_updL ev n v)))), (ms, .inl (cZ, 2040, .inl (upd es n b))), (mtk, .inl (cI, 20, .inl ta)), (mtw, .inl (cI, 20, .inl tv)), (mtr, .inl (cI, 20, .inl tq)), (mtv, .inl (cJ, 20, .inr (.inl tl))), (msk, .inl (cI, 40, .inl pk)), (mss, .inl (cZ, 40, .inl pb)), (msv, .inl (cJ, 40, .inr (.inl pv))), (mkb, .inl (cI, 2000, .inl kq))] H := hP
    have hD : va_D A [(m0, .inr (4, [.int th, .ref mk, .ref mr, .ref mn, .ref mv, .ref ms, .int (nI n), .int (nI r), .int co, .ref mtk, .ref mtw, .ref mtr, .ref mtv, .int (nI tz), .ref msk, .ref mss, .ref msv, .int (nI zz), .int (nI zn), .ref mkb])), (mk, .inl (cI, 2040, .inl (upd ek n key))), (mr, .inl (cI, 2040, .inl (upd er n a))), (mn, .inl (cI, 2040, .inl (upd en n (-1)))), (mv, .inl (cJ, 2040, .inr (.inl (vp_updL ev n v)))), (ms, .inl (cZ, 2040, .inl (upd es n b))), (mtk, .inl (cI, 20, .inl ta)), (mtw, .inl (cI, 20, .inl tv)), (mtr, .inl (cI, 20, .inl tq)), (mtv, .inl (cJ, 20, .inr (.inl tl))), (msk, .inl (cI, 40, .inl pk)), (mss, .inl (cZ, 40, .inl pb)), (msv, .inl (cJ, 40, .inr (.inl pv))), (mkb, .inl (cI, 2000, .inl kq))] := hD
    refine lv_aload_n hx hb dX4_add_76 rfl (lv_at hl 1 rfl) ?_
    refine lv_dup hx hb dX4_add_77 rfl ?_
    refine va_get (D := D) (ci := 4) (v := .int (nI n)) (C := RX4) (T := TX4) (N := 20) hx hb hts mu_X4 hown hK hP 0 rfl rfl 6 (by decide) (hts _ (List.mem_cons_of_mem _ mw_440)) (fun _ h9 => h9) rfl dX4_add_78 ?_
    refine lv_iconst (v := nI 1) hx hb dX4_add_81 (by decide) ?_
    refine rk_iadd hx hb dX4_add_82 ?_
    refine va_put (D := D) (ci := 4) (v := .int (nI (n + 1))) (ty := .int) (C := RX4) (T := TX4) (N := 20) hx hb hts mu_X4 tyX4 tyX4_ok nmX4 hown hK hP hD hS 0 rfl rfl 6 (by decide) (hts _ (List.mem_cons_of_mem _ mw_440)) (fun _ h9 => h9) rfl (by decide +kernel) rfl rfl (Nat.le_of_ble_eq_true rfl) dX4_add_83 (fun H locs hP hD hS => ?_)
    have hP : va_P D vwCl [(m0, .inr (4, [.int th, .ref mk, .ref mr, .ref mn, .ref mv, .ref ms, .int (nI (n + 1)), .int (nI r), .int co, .ref mtk, .ref mtw, .ref mtr, .ref mtv, .int (nI tz), .ref msk, .ref mss, .ref msv, .int (nI zz), .int (nI zn), .ref mkb])), (mk, .inl (cI, 2040, .inl (upd ek n key))), (mr, .inl (cI, 2040, .inl (upd er n a))), (mn, .inl (cI, 2040, .inl (upd en n (-1)))), (mv, .inl (cJ, 2040, .inr (.inl (vp_updL ev n v)))), (ms, .inl (cZ, 2040, .inl (upd es n b))), (mtk, .inl (cI, 20, .inl ta)), (mtw, .inl (cI, 20, .inl tv)), (mtr, .inl (cI, 20, .inl tq)), (mtv, .inl (cJ, 20, .inr (.inl tl))), (msk, .inl (cI, 40, .inl pk)), (mss, .inl (cZ, 40, .inl pb)), (msv, .inl (cJ, 40, .inr (.inl pv))), (mkb, .inl (cI, 2000, .inl kq))] H := hP
    have hD : va_D A [(m0, .inr (4, [.int th, .ref mk, .ref mr, .ref mn, .ref mv, .ref ms, .int (nI (n + 1)), .int (nI r), .int co, .ref mtk, .ref mtw, .ref mtr, .ref mtv, .int (nI tz), .ref msk, .ref mss, .ref msv, .int (nI zz), .int (nI zn), .ref mkb])), (mk, .inl (cI, 2040, .inl (upd ek n key))), (mr, .inl (cI, 2040, .inl (upd er n a))), (mn, .inl (cI, 2040, .inl (upd en n (-1)))), (mv, .inl (cJ, 2040, .inr (.inl (vp_updL ev n v)))), (ms, .inl (cZ, 2040, .inl (upd es n b))), (mtk, .inl (cI, 20, .inl ta)), (mtw, .inl (cI, 20, .inl tv)), (mtr, .inl (cI, 20, .inl tq)), (mtv, .inl (cJ, 20, .inr (.inl tl))), (msk, .inl (cI, 40, .inl pk)), (mss, .inl (cZ, 40, .inl pb)), (msv, .inl (cJ, 40, .inr (.inl pv))), (mkb, .inl (cI, 2000, .inl kq))] := hD
    exact rw_retv (u := (upd en n (-1))) hAe (hP) (hD) hS hK (⟨mm, hpr, by first | exact Or.inl ⟨hw_4, rfl⟩ | exact Or.inr ⟨j, hw_4, rfl⟩⟩) (Nat.le_of_ble_eq_true rfl) (Nat.le_of_ble_eq_true rfl) hx hb hr hlocks dX4_add_86
  · have hj1 := hw_4.1
    have hj2 := hpr.1
    refine lv_istore (lv' := [(6, .int (nI j)), (0, .ref m0), (1, .int key), (2, .int b), (3, .long v), (5, .int a)]) hx hb dX4_add_7 hl (by decide) rfl (fun ls hl => ?_)
    refine lv_iload hx hb dX4_add_9 (lv_at hl 0 rfl) ?_
    refine lv_if_lt (tgt := 25) hx hb dX4_add_11 (by decide) (fun c => absurd c (nI_pos (by omega))) (fun _ => ?_)
    refine lv_aload_n hx hb dX4_add_14 rfl (lv_at hl 1 rfl) ?_
    refine va_get (D := D) (ci := 4) (v := .ref mn) (C := RX4) (T := TX4) (N := 20) hx hb hts mu_X4 hown hK hP 0 rfl rfl 3 (by decide) (hts _ (List.mem_cons_of_mem _ mw_437)) (fun _ h9 => h9) rfl dX4_add_15 ?_
    refine lv_iload hx hb dX4_add_18 (lv_at hl 0 rfl) ?_
    refine lv_aload_n hx hb dX4_add_20 rfl (lv_at hl 1 rfl) ?_
    refine va_get (D := D) (ci := 4) (v := .int (nI n)) (C := RX4) (T := TX4) (N := 20) hx hb hts mu_X4 hown hK hP 0 rfl rfl 6 (by decide) (hts _ (List.mem_cons_of_mem _ mw_440)) (fun _ h9 => h9) rfl dX4_add_21 ?_
    refine rk_iast hx hb hK hP hD hS 3 0 rfl rfl (i := j) (by omega) (by decide) dX4_add_24 (fun H locs hP hD hS => ?_)
    have hP : va_P D vwCl [(m0, .inr (4, [.int th, .ref mk, .ref mr, .ref mn, .ref mv, .ref ms, .int (nI n), .int (nI r), .int co, .ref mtk, .ref mtw, .ref mtr, .ref mtv, .int (nI tz), .ref msk, .ref mss, .ref msv, .int (nI zz), .int (nI zn), .ref mkb])), (mk, .inl (cI, 2040, .inl ek)), (mr, .inl (cI, 2040, .inl er)), (mn, .inl (cI, 2040, .inl (upd en j (nI n)))), (mv, .inl (cJ, 2040, .inr (.inl ev))), (ms, .inl (cZ, 2040, .inl es)), (mtk, .inl (cI, 20, .inl ta)), (mtw, .inl (cI, 20, .inl tv)), (mtr, .inl (cI, 20, .inl tq)), (mtv, .inl (cJ, 20, .inr (.inl tl))), (msk, .inl (cI, 40, .inl pk)), (mss, .inl (cZ, 40, .inl pb)), (msv, .inl (cJ, 40, .inr (.inl pv))), (mkb, .inl (cI, 2000, .inl kq))] H := hP
    have hD : va_D A [(m0, .inr (4, [.int th, .ref mk, .ref mr, .ref mn, .ref mv, .ref ms, .int (nI n), .int (nI r), .int co, .ref mtk, .ref mtw, .ref mtr, .ref mtv, .int (nI tz), .ref msk, .ref mss, .ref msv, .int (nI zz), .int (nI zn), .ref mkb])), (mk, .inl (cI, 2040, .inl ek)), (mr, .inl (cI, 2040, .inl er)), (mn, .inl (cI, 2040, .inl (upd en j (nI n)))), (mv, .inl (cJ, 2040, .inr (.inl ev))), (ms, .inl (cZ, 2040, .inl es)), (mtk, .inl (cI, 20, .inl ta)), (mtw, .inl (cI, 20, .inl tv)), (mtr, .inl (cI, 20, .inl tq)), (mtv, .inl (cJ, 20, .inr (.inl tl))), (msk, .inl (cI, 40, .inl pk)), (mss, .inl (cZ, 40, .inl pb)), (msv, .inl (cJ, 40, .inr (.inl pv))), (mkb, .inl (cI, 2000, .inl kq))] := hD
    refine lv_aload_n hx hb dX4_add_25 rfl (lv_at hl 1 rfl) ?_
    refine va_get (D := D) (ci := 4) (v := .ref mk) (C := RX4) (T := TX4) (N := 20) hx hb hts mu_X4 hown hK hP 0 rfl rfl 1 (by decide) (hts _ (List.mem_cons_of_mem _ mw_435)) (fun _ h9 => h9) rfl dX4_add_26 ?_
    refine lv_aload_n hx hb dX4_add_29 rfl (lv_at hl 1 rfl) ?_
    refine va_get (D := D) (ci := 4) (v := .int (nI n)) (C := RX4) (T := TX4) (N := 20) hx hb hts mu_X4 hown hK hP 0 rfl rfl 6 (by decide) (hts _ (List.mem_cons_of_mem _ mw_440)) (fun _ h9 => h9) rfl dX4_add_30 ?_
    refine lv_iload_n hx hb dX4_add_33 rfl (lv_at hl 2 rfl) ?_
    refine rk_iast hx hb hK hP hD hS 1 0 rfl rfl (i := n) (by omega) (by decide) dX4_add_34 (fun H locs hP hD hS => ?_)
    have hP : va_P D vwCl [(m0, .inr (4, [.int th, .ref mk, .ref mr, .ref mn, .ref mv, .ref ms, .int (nI n), .int (nI r), .int co, .ref mtk, .ref mtw, .ref mtr, .ref mtv, .int (nI tz), .ref msk, .ref mss, .ref msv, .int (nI zz), .int (nI zn), .ref mkb])), (mk, .inl (cI, 2040, .inl (upd ek n key))), (mr, .inl (cI, 2040, .inl er)), (mn, .inl (cI, 2040, .inl (upd en j (nI n)))), (mv, .inl (cJ, 2040, .inr (.inl ev))), (ms, .inl (cZ, 2040, .inl es)), (mtk, .inl (cI, 20, .inl ta)), (mtw, .inl (cI, 20, .inl tv)), (mtr, .inl (cI, 20, .inl tq)), (mtv, .inl (cJ, 20, .inr (.inl tl))), (msk, .inl (cI, 40, .inl pk)), (mss, .inl (cZ, 40, .inl pb)), (msv, .inl (cJ, 40, .inr (.inl pv))), (mkb, .inl (cI, 2000, .inl kq))] H := hP
    have hD : va_D A [(m0, .inr (4, [.int th, .ref mk, .ref mr, .ref mn, .ref mv, .ref ms, .int (nI n), .int (nI r), .int co, .ref mtk, .ref mtw, .ref mtr, .ref mtv, .int (nI tz), .ref msk, .ref mss, .ref msv, .int (nI zz), .int (nI zn), .ref mkb])), (mk, .inl (cI, 2040, .inl (upd ek n key))), (mr, .inl (cI, 2040, .inl er)), (mn, .inl (cI, 2040, .inl (upd en j (nI n)))), (mv, .inl (cJ, 2040, .inr (.inl ev))), (ms, .inl (cZ, 2040, .inl es)), (mtk, .inl (cI, 20, .inl ta)), (mtw, .inl (cI, 20, .inl tv)), (mtr, .inl (cI, 20, .inl tq)), (mtv, .inl (cJ, 20, .inr (.inl tl))), (msk, .inl (cI, 40, .inl pk)), (mss, .inl (cZ, 40, .inl pb)), (msv, .inl (cJ, 40, .inr (.inl pv))), (mkb, .inl (cI, 2000, .inl kq))] := hD
    refine lv_aload_n hx hb dX4_add_35 rfl (lv_at hl 1 rfl) ?_
    refine va_get (D := D) (ci := 4) (v := .ref ms) (C := RX4) (T := TX4) (N := 20) hx hb hts mu_X4 hown hK hP 0 rfl rfl 5 (by decide) (hts _ (List.mem_cons_of_mem _ mw_439)) (fun _ h9 => h9) rfl dX4_add_36 ?_
    refine lv_aload_n hx hb dX4_add_39 rfl (lv_at hl 1 rfl) ?_
    refine va_get (D := D) (ci := 4) (v := .int (nI n)) (C := RX4) (T := TX4) (N := 20) hx hb hts mu_X4 hown hK hP 0 rfl rfl 6 (by decide) (hts _ (List.mem_cons_of_mem _ mw_440)) (fun _ h9 => h9) rfl dX4_add_40 ?_
    refine lv_iload_n hx hb dX4_add_43 rfl (lv_at hl 3 rfl) ?_
    refine rk_zast hx hb hK hP hD hS 5 2 rfl rfl (i := n) (by rcases hb01 with h | h <;> rw [h] <;> decide) (by omega) (by decide) dX4_add_44 (fun H locs hP hD hS => ?_)
    have hP : va_P D vwCl [(m0, .inr (4, [.int th, .ref mk, .ref mr, .ref mn, .ref mv, .ref ms, .int (nI n), .int (nI r), .int co, .ref mtk, .ref mtw, .ref mtr, .ref mtv, .int (nI tz), .ref msk, .ref mss, .ref msv, .int (nI zz), .int (nI zn), .ref mkb])), (mk, .inl (cI, 2040, .inl (upd ek n key))), (mr, .inl (cI, 2040, .inl er)), (mn, .inl (cI, 2040, .inl (upd en j (nI n)))), (mv, .inl (cJ, 2040, .inr (.inl ev))), (ms, .inl (cZ, 2040, .inl (upd es n b))), (mtk, .inl (cI, 20, .inl ta)), (mtw, .inl (cI, 20, .inl tv)), (mtr, .inl (cI, 20, .inl tq)), (mtv, .inl (cJ, 20, .inr (.inl tl))), (msk, .inl (cI, 40, .inl pk)), (mss, .inl (cZ, 40, .inl pb)), (msv, .inl (cJ, 40, .inr (.inl pv))), (mkb, .inl (cI, 2000, .inl kq))] H := hP
    have hD : va_D A [(m0, .inr (4, [.int th, .ref mk, .ref mr, .ref mn, .ref mv, .ref ms, .int (nI n), .int (nI r), .int co, .ref mtk, .ref mtw, .ref mtr, .ref mtv, .int (nI tz), .ref msk, .ref mss, .ref msv, .int (nI zz), .int (nI zn), .ref mkb])), (mk, .inl (cI, 2040, .inl (upd ek n key))), (mr, .inl (cI, 2040, .inl er)), (mn, .inl (cI, 2040, .inl (upd en j (nI n)))), (mv, .inl (cJ, 2040, .inr (.inl ev))), (ms, .inl (cZ, 2040, .inl (upd es n b))), (mtk, .inl (cI, 20, .inl ta)), (mtw, .inl (cI, 20, .inl tv)), (mtr, .inl (cI, 20, .inl tq)), (mtv, .inl (cJ, 20, .inr (.inl tl))), (msk, .inl (cI, 40, .inl pk)), (mss, .inl (cZ, 40, .inl pb)), (msv, .inl (cJ, 40, .inr (.inl pv))), (mkb, .inl (cI, 2000, .inl kq))] := hD
    refine lv_aload_n hx hb dX4_add_45 rfl (lv_at hl 1 rfl) ?_
    refine va_get (D := D) (ci := 4) (v := .ref mv) (C := RX4) (T := TX4) (N := 20) hx hb hts mu_X4 hown hK hP 0 rfl rfl 4 (by decide) (hts _ (List.mem_cons_of_mem _ mw_438)) (fun _ h9 => h9) rfl dX4_add_46 ?_
    refine lv_aload_n hx hb dX4_add_49 rfl (lv_at hl 1 rfl) ?_
    refine va_get (D := D) (ci := 4) (v := .int (nI n)) (C := RX4) (T := TX4) (N := 20) hx hb hts mu_X4 hown hK hP 0 rfl rfl 6 (by decide) (hts _ (List.mem_cons_of_mem _ mw_440)) (fun _ h9 => h9) rfl dX4_add_50 ?_
    refine lv_lload_n hx hb dX4_add_53 rfl (lv_at hl 4 rfl) ?_
    refine rk_last hx hb hK hP hD hS 4 1 rfl rfl (i := n) (by omega) (by decide) dX4_add_54 (fun H locs hP hD hS => ?_)
    have hP : va_P D vwCl [(m0, .inr (4, [.int th, .ref mk, .ref mr, .ref mn, .ref mv, .ref ms, .int (nI n), .int (nI r), .int co, .ref mtk, .ref mtw, .ref mtr, .ref mtv, .int (nI tz), .ref msk, .ref mss, .ref msv, .int (nI zz), .int (nI zn), .ref mkb])), (mk, .inl (cI, 2040, .inl (upd ek n key))), (mr, .inl (cI, 2040, .inl er)), (mn, .inl (cI, 2040, .inl (upd en j (nI n)))), (mv, .inl (cJ, 2040, .inr (.inl (vp_updL ev n v)))), (ms, .inl (cZ, 2040, .inl (upd es n b))), (mtk, .inl (cI, 20, .inl ta)), (mtw, .inl (cI, 20, .inl tv)), (mtr, .inl (cI, 20, .inl tq)), (mtv, .inl (cJ, 20, .inr (.inl tl))), (msk, .inl (cI, 40, .inl pk)), (mss, .inl (cZ, 40, .inl pb)), (msv, .inl (cJ, 40, .inr (.inl pv))), (mkb, .inl (cI, 2000, .inl kq))] H := hP
    have hD : va_D A [(m0, .inr (4, [.int th, .ref mk, .ref mr, .ref mn, .ref mv, .ref ms, .int (nI n), .int (nI r), .int co, .ref mtk, .ref mtw, .ref mtr, .ref mtv, .int (nI tz), .ref msk, .ref mss, .ref msv, .int (nI zz), .int (nI zn), .ref mkb])), (mk, .inl (cI, 2040, .inl (upd ek n key))), (mr, .inl (cI, 2040, .inl er)), (mn, .inl (cI, 2040, .inl (upd en j (nI n)))), (mv, .inl (cJ, 2040, .inr (.inl (vp_updL ev n v)))), (ms, .inl (cZ, 2040, .inl (upd es n b))), (mtk, .inl (cI, 20, .inl ta)), (mtw, .inl (cI, 20, .inl tv)), (mtr, .inl (cI, 20, .inl tq)), (mtv, .inl (cJ, 20, .inr (.inl tl))), (msk, .inl (cI, 40, .inl pk)), (mss, .inl (cZ, 40, .inl pb)), (msv, .inl (cJ, 40, .inr (.inl pv))), (mkb, .inl (cI, 2000, .inl kq))] := hD
    refine lv_aload_n hx hb dX4_add_55 rfl (lv_at hl 1 rfl) ?_
    refine va_get (D := D) (ci := 4) (v := .ref mr) (C := RX4) (T := TX4) (N := 20) hx hb hts mu_X4 hown hK hP 0 rfl rfl 2 (by decide) (hts _ (List.mem_cons_of_mem _ mw_436)) (fun _ h9 => h9) rfl dX4_add_56 ?_
    refine lv_aload_n hx hb dX4_add_59 rfl (lv_at hl 1 rfl) ?_
    refine va_get (D := D) (ci := 4) (v := .int (nI n)) (C := RX4) (T := TX4) (N := 20) hx hb hts mu_X4 hown hK hP 0 rfl rfl 6 (by decide) (hts _ (List.mem_cons_of_mem _ mw_440)) (fun _ h9 => h9) rfl dX4_add_60 ?_
    refine lv_iload hx hb dX4_add_63 (lv_at hl 5 rfl) ?_
    refine rk_iast hx hb hK hP hD hS 2 0 rfl rfl (i := n) (by omega) (by decide) dX4_add_65 (fun H locs hP hD hS => ?_)
    have hP : va_P D vwCl [(m0, .inr (4, [.int th, .ref mk, .ref mr, .ref mn, .ref mv, .ref ms, .int (nI n), .int (nI r), .int co, .ref mtk, .ref mtw, .ref mtr, .ref mtv, .int (nI tz), .ref msk, .ref mss, .ref msv, .int (nI zz), .int (nI zn), .ref mkb])), (mk, .inl (cI, 2040, .inl (upd ek n key))), (mr, .inl (cI, 2040, .inl (upd er n a))), (mn, .inl (cI, 2040, .inl (upd en j (nI n)))), (mv, .inl (cJ, 2040, .inr (.inl (vp_updL ev n v)))), (ms, .inl (cZ, 2040, .inl (upd es n b))), (mtk, .inl (cI, 20, .inl ta)), (mtw, .inl (cI, 20, .inl tv)), (mtr, .inl (cI, 20, .inl tq)), (mtv, .inl (cJ, 20, .inr (.inl tl))), (msk, .inl (cI, 40, .inl pk)), (mss, .inl (cZ, 40, .inl pb)), (msv, .inl (cJ, 40, .inr (.inl pv))), (mkb, .inl (cI, 2000, .inl kq))] H := hP
    have hD : va_D A [(m0, .inr (4, [.int th, .ref mk, .ref mr, .ref mn, .ref mv, .ref ms, .int (nI n), .int (nI r), .int co, .ref mtk, .ref mtw, .ref mtr, .ref mtv, .int (nI tz), .ref msk, .ref mss, .ref msv, .int (nI zz), .int (nI zn), .ref mkb])), (mk, .inl (cI, 2040, .inl (upd ek n key))), (mr, .inl (cI, 2040, .inl (upd er n a))), (mn, .inl (cI, 2040, .inl (upd en j (nI n)))), (mv, .inl (cJ, 2040, .inr (.inl (vp_updL ev n v)))), (ms, .inl (cZ, 2040, .inl (upd es n b))), (mtk, .inl (cI, 20, .inl ta)), (mtw, .inl (cI, 20, .inl tv)), (mtr, .inl (cI, 20, .inl tq)), (mtv, .inl (cJ, 20, .inr (.inl tl))), (msk, .inl (cI, 40, .inl pk)), (mss, .inl (cZ, 40, .inl pb)), (msv, .inl (cJ, 40, .inr (.inl pv))), (mkb, .inl (cI, 2000, .inl kq))] := hD
    refine lv_aload_n hx hb dX4_add_66 rfl (lv_at hl 1 rfl) ?_
    refine va_get (D := D) (ci := 4) (v := .ref mn) (C := RX4) (T := TX4) (N := 20) hx hb hts mu_X4 hown hK hP 0 rfl rfl 3 (by decide) (hts _ (List.mem_cons_of_mem _ mw_437)) (fun _ h9 => h9) rfl dX4_add_67 ?_
    refine lv_aload_n hx hb dX4_add_70 rfl (lv_at hl 1 rfl) ?_
    refine va_get (D := D) (ci := 4) (v := .int (nI n)) (C := RX4) (T := TX4) (N := 20) hx hb hts mu_X4 hown hK hP 0 rfl rfl 6 (by decide) (hts _ (List.mem_cons_of_mem _ mw_440)) (fun _ h9 => h9) rfl dX4_add_71 ?_
    refine lv_iconst (v := -1) hx hb dX4_add_74 (by decide) ?_
    refine rk_iast hx hb hK hP hD hS 3 0 rfl rfl (i := n) (by omega) (by decide) dX4_add_75 (fun H locs hP hD hS => ?_)
    have hP : va_P D vwCl [(m0, .inr (4, [.int th, .ref mk, .ref mr, .ref mn, .ref mv, .ref ms, .int (nI n), .int (nI r), .int co, .ref mtk, .ref mtw, .ref mtr, .ref mtv, .int (nI tz), .ref msk, .ref mss, .ref msv, .int (nI zz), .int (nI zn), .ref mkb])), (mk, .inl (cI, 2040, .inl (upd ek n key))), (mr, .inl (cI, 2040, .inl (upd er n a))), (mn, .inl (cI, 2040, .inl (upd (upd en j (nI n)) n (-1)))), (mv, .inl (cJ, 2040, .inr (.inl (vp_updL ev n v)))), (ms, .inl (cZ, 2040, .inl (upd es n b))), (mtk, .inl (cI, 20, .inl ta)), (mtw, .inl (cI, 20, .inl tv)), (mtr, .inl (cI, 20, .inl tq)), (mtv, .inl (cJ, 20, .inr (.inl tl))), (msk, .inl (cI, 40, .inl pk)), (mss, .inl (cZ, 40, .inl pb)), (msv, .inl (cJ, 40, .inr (.inl pv))), (mkb, .inl (cI, 2000, .inl kq))] H := hP
    have hD : va_D A [(m0, .inr (4, [.int th, .ref mk, .ref mr, .ref mn, .ref mv, .ref ms, .int (nI n), .int (nI r), .int co, .ref mtk, .ref mtw, .ref mtr, .ref mtv, .int (nI tz), .ref msk, .ref mss, .ref msv, .int (nI zz), .int (nI zn), .ref mkb])), (mk, .inl (cI, 2040, .inl (upd ek n key))), (mr, .inl (cI, 2040, .inl (upd er n a))), (mn, .inl (cI, 2040, .inl (upd (upd en j (nI n)) n (-1)))), (mv, .inl (cJ, 2040, .inr (.inl (vp_updL ev n v)))), (ms, .inl (cZ, 2040, .inl (upd es n b))), (mtk, .inl (cI, 20, .inl ta)), (mtw, .inl (cI, 20, .inl tv)), (mtr, .inl (cI, 20, .inl tq)), (mtv, .inl (cJ, 20, .inr (.inl tl))), (msk, .inl (cI, 40, .inl pk)), (mss, .inl (cZ, 40, .inl pb)), (msv, .inl (cJ, 40, .inr (.inl pv))), (mkb, .inl (cI, 2000, .inl kq))] := hD
    refine lv_aload_n hx hb dX4_add_76 rfl (lv_at hl 1 rfl) ?_
    refine lv_dup hx hb dX4_add_77 rfl ?_
    refine va_get (D := D) (ci := 4) (v := .int (nI n)) (C := RX4) (T := TX4) (N := 20) hx hb hts mu_X4 hown hK hP 0 rfl rfl 6 (by decide) (hts _ (List.mem_cons_of_mem _ mw_440)) (fun _ h9 => h9) rfl dX4_add_78 ?_
    refine lv_iconst (v := nI 1) hx hb dX4_add_81 (by decide) ?_
    refine rk_iadd hx hb dX4_add_82 ?_
    refine va_put (D := D) (ci := 4) (v := .int (nI (n + 1))) (ty := .int) (C := RX4) (T := TX4) (N := 20) hx hb hts mu_X4 tyX4 tyX4_ok nmX4 hown hK hP hD hS 0 rfl rfl 6 (by decide) (hts _ (List.mem_cons_of_mem _ mw_440)) (fun _ h9 => h9) rfl (by decide +kernel) rfl rfl (Nat.le_of_ble_eq_true rfl) dX4_add_83 (fun H locs hP hD hS => ?_)
    have hP : va_P D vwCl [(m0, .inr (4, [.int th, .ref mk, .ref mr, .ref mn, .ref mv, .ref ms, .int (nI (n + 1)), .int (nI r), .int co, .ref mtk, .ref mtw, .ref mtr, .ref mtv, .int (nI tz), .ref msk, .ref mss, .ref msv, .int (nI zz), .int (nI zn), .ref mkb])), (mk, .inl (cI, 2040, .inl (upd ek n key))), (mr, .inl (cI, 2040, .inl (upd er n a))), (mn, .inl (cI, 2040, .inl (upd (upd en j (nI n)) n (-1)))), (mv, .inl (cJ, 2040, .inr (.inl (vp_updL ev n v)))), (ms, .inl (cZ, 2040, .inl (upd es n b))), (mtk, .inl (cI, 20, .inl ta)), (mtw, .inl (cI, 20, .inl tv)), (mtr, .inl (cI, 20, .inl tq)), (mtv, .inl (cJ, 20, .inr (.inl tl))), (msk, .inl (cI, 40, .inl pk)), (mss, .inl (cZ, 40, .inl pb)), (msv, .inl (cJ, 40, .inr (.inl pv))), (mkb, .inl (cI, 2000, .inl kq))] H := hP
    have hD : va_D A [(m0, .inr (4, [.int th, .ref mk, .ref mr, .ref mn, .ref mv, .ref ms, .int (nI (n + 1)), .int (nI r), .int co, .ref mtk, .ref mtw, .ref mtr, .ref mtv, .int (nI tz), .ref msk, .ref mss, .ref msv, .int (nI zz), .int (nI zn), .ref mkb])), (mk, .inl (cI, 2040, .inl (upd ek n key))), (mr, .inl (cI, 2040, .inl (upd er n a))), (mn, .inl (cI, 2040, .inl (upd (upd en j (nI n)) n (-1)))), (mv, .inl (cJ, 2040, .inr (.inl (vp_updL ev n v)))), (ms, .inl (cZ, 2040, .inl (upd es n b))), (mtk, .inl (cI, 20, .inl ta)), (mtw, .inl (cI, 20, .inl tv)), (mtr, .inl (cI, 20, .inl tq)), (mtv, .inl (cJ, 20, .inr (.inl tl))), (msk, .inl (cI, 40, .inl pk)), (mss, .inl (cZ, 40, .inl pb)), (msv, .inl (cJ, 40, .inr (.inl pv))), (mkb, .inl (cI, 2000, .inl kq))] := hD
    exact rw_retv (u := (upd (upd en j (nI n)) n (-1))) hAe (hP) (hD) hS hK (⟨mm, hpr, by first | exact Or.inl ⟨hw_4, rfl⟩ | exact Or.inr ⟨j, hw_4, rfl⟩⟩) (Nat.le_of_ble_eq_true rfl) (Nat.le_of_ble_eq_true rfl) hx hb hr hlocks dX4_add_86
set_option maxHeartbeats 4000000 in
set_option maxRecDepth 100000 in
theorem c_X4_put (l : Launch) (D : va_G) (cI cJ cZ : ClassId) (sz : Nat) (m0 mk mr mn mv ms mtk mtw mtr mtv msk mss msv mkb r n tz zz zn : Nat) (th co : Int32) (ek er en : Nat → Int32) (ev : Nat → Int64) (es ta tv tq : Nat → Int32) (tl : Nat → Int64) (pk pb : Nat → Int32) (pv : Nat → Int64) (kq : Nat → Int32) (hn : n ≤ 300) (key : Int32) (v : Int64) : Met l yX4_put (Cond.code yX4_put cX4_put 4 (some .int) :: wB) ({ frames := 2, cells := 0, slots := 0, locals := 50 } : Room) (rw_Pc D cI cJ cZ sz [.ref m0, .int key, .long v] [(m0, .inr (4, [.int th, .ref mk, .ref mr, .ref mn, .ref mv, .ref ms, .int (nI n), .int (nI r), .int co, .ref mtk, .ref mtw, .ref mtr, .ref mtv, .int (nI tz), .ref msk, .ref mss, .ref msv, .int (nI zz), .int (nI zn), .ref mkb])), (mk, .inl (cI, 2040, .inl ek)), (mr, .inl (cI, 2040, .inl er)), (mn, .inl (cI, 2040, .inl en)), (mv, .inl (cJ, 2040, .inr (.inl ev))), (ms, .inl (cZ, 2040, .inl es)), (mtk, .inl (cI, 20, .inl ta)), (mtw, .inl (cI, 20, .inl tv)), (mtr, .inl (cI, 20, .inl tq)), (mtv, .inl (cJ, 20, .inr (.inl tl))), (msk, .inl (cI, 40, .inl pk)), (mss, .inl (cZ, 40, .inl pb)), (msv, .inl (cJ, 40, .inr (.inl pv))), (mkb, .inl (cI, 2000, .inl kq))]) (rw_Qi (S := Int32 × Nat × ME) D cI cJ cZ sz [(m0, .inr (4, [.int th, .ref mk, .ref mr, .ref mn, .ref mv, .ref ms, .int (nI n), .int (nI r), .int co, .ref mtk, .ref mtw, .ref mtr, .ref mtv, .int (nI tz), .ref msk, .ref mss, .ref msv, .int (nI zz), .int (nI zn), .ref mkb])), (mk, .inl (cI, 2040, .inl ek)), (mr, .inl (cI, 2040, .inl er)), (mn, .inl (cI, 2040, .inl en)), (mv, .inl (cJ, 2040, .inr (.inl ev))), (ms, .inl (cZ, 2040, .inl es)), (mtk, .inl (cI, 20, .inl ta)), (mtw, .inl (cI, 20, .inl tv)), (mtr, .inl (cI, 20, .inl tq)), (mtv, .inl (cJ, 20, .inr (.inl tl))), (msk, .inl (cI, 40, .inl pk)), (mss, .inl (cZ, 40, .inl pb)), (msv, .inl (cJ, 40, .inr (.inl pv))), (mkb, .inl (cI, 2000, .inl kq))] (fun u => [(m0, .inr (4, [.int u.1, .ref mk, .ref mr, .ref mn, .ref mv, .ref ms, .int (nI u.2.2.1), .int (nI u.2.1), .int co, .ref mtk, .ref mtw, .ref mtr, .ref mtv, .int (nI tz), .ref msk, .ref mss, .ref msv, .int (nI zz), .int (nI zn), .ref mkb])), (mk, .inl (cI, 2040, .inl u.2.2.2.1)), (mr, .inl (cI, 2040, .inl u.2.2.2.2.1)), (mn, .inl (cI, 2040, .inl u.2.2.2.2.2.1)), (mv, .inl (cJ, 2040, .inr (.inl u.2.2.2.2.2.2.1))), (ms, .inl (cZ, 2040, .inl u.2.2.2.2.2.2.2)), (mtk, .inl (cI, 20, .inl ta)), (mtw, .inl (cI, 20, .inl tv)), (mtr, .inl (cI, 20, .inl tq)), (mtv, .inl (cJ, 20, .inr (.inl tl))), (msk, .inl (cI, 40, .inl pk)), (mss, .inl (cZ, 40, .inl pb)), (msv, .inl (cJ, 40, .inr (.inl pv))), (mkb, .inl (cI, 2000, .inl kq))]) (fun x u => (n = 300 ∧ x = nI 0 ∧ u = (nI 1, r, n, ek, er, en, ev, es)) ∨ (n ≠ 300 ∧ x = nI (r + 1) ∧ u.1 = nI 0 ∧ u.2.1 = r + 1 ∧ addR (nI (r + 1)) key (nI 1) v (n, ek, er, en, ev, es) u.2.2))) 0 0 (va_A [(m0, .inr (4, [.int th, .ref mk, .ref mr, .ref mn, .ref mv, .ref ms, .int (nI n), .int (nI r), .int co, .ref mtk, .ref mtw, .ref mtr, .ref mtv, .int (nI tz), .ref msk, .ref mss, .ref msv, .int (nI zz), .int (nI zn), .ref mkb])), (mk, .inl (cI, 2040, .inl ek)), (mr, .inl (cI, 2040, .inl er)), (mn, .inl (cI, 2040, .inl en)), (mv, .inl (cJ, 2040, .inr (.inl ev))), (ms, .inl (cZ, 2040, .inl es)), (mtk, .inl (cI, 20, .inl ta)), (mtw, .inl (cI, 20, .inl tv)), (mtr, .inl (cI, 20, .inl tq)), (mtv, .inl (cJ, 20, .inr (.inl tl))), (msk, .inl (cI, 40, .inl pk)), (mss, .inl (cZ, 40, .inl pb)), (msv, .inl (cJ, 40, .inr (.inl pv))), (mkb, .inl (cI, 2000, .inl kq))] sz) := by
  refine Met.ofW (cc := cX4_put) (maxL := 4) (ret := (some .int)) (by decide) rfl ?_
  intro p e s m args below meth c s₁ B hml hv
  obtain ⟨rfl, hsz, hP, hK, hD0⟩ := hv
  have hx := B.exec
  have hb := B.bytes
  have hr := B.returns
  have hts := atoms_spec (ws := (Cond.code yX4_put cX4_put 4 (some .int) :: wB)) B.pre
  have hown : s.vm.findClass RX4 = some m.cls := findClass_of_methodNamed B.named
  have hlocks := B.notSynchronized
  subst hsz
  have hD := hD0.self (sz := s.heap.size)
  obtain ⟨A, hAe⟩ : ∃ A, A = va_A [(m0, .inr (4, [.int th, .ref mk, .ref mr, .ref mn, .ref mv, .ref ms, .int (nI n), .int (nI r), .int co, .ref mtk, .ref mtw, .ref mtr, .ref mtv, .int (nI tz), .ref msk, .ref mss, .ref msv, .int (nI zz), .int (nI zn), .ref mkb])), (mk, .inl (cI, 2040, .inl ek)), (mr, .inl (cI, 2040, .inl er)), (mn, .inl (cI, 2040, .inl en)), (mv, .inl (cJ, 2040, .inr (.inl ev))), (ms, .inl (cZ, 2040, .inl es)), (mtk, .inl (cI, 20, .inl ta)), (mtw, .inl (cI, 20, .inl tv)), (mtr, .inl (cI, 20, .inl tq)), (mtv, .inl (cJ, 20, .inr (.inl tl))), (msk, .inl (cI, 40, .inl pk)), (mss, .inl (cZ, 40, .inl pb)), (msv, .inl (cJ, 40, .inr (.inl pv))), (mkb, .inl (cI, 2000, .inl kq))] s.heap.size := ⟨_, rfl⟩
  rw [← hAe] at hD
  have hA : ∀ q : Nat, s.heap.size ≤ q → A q := fun q h => by rw [hAe]; exact Or.inr h
  have hS : va_S A s.heap s.heap [] := va_S.rf
  have hl := lv_entry ([.ref m0, .int key, .long v]) (n := 4) (Nat.le_of_ble_eq_true rfl)
  rw [lg_entry_eq]
  generalize (lg_sl ([.ref m0, .int key, .long v]) ++ List.replicate (4 - (lg_sl ([.ref m0, .int key, .long v])).length) Slot.unset).toArray = ls at hl ⊢
  have hl : lv_has ls 4 [(0, .ref m0), (1, .int key), (2, .long v)] := hl
  refine lv_aload_n hx hb dX4_put_0 rfl (lv_at hl 0 rfl) ?_
  refine va_get (D := D) (ci := 4) (v := .int (nI n)) (C := RX4) (T := TX4) (N := 20) hx hb hts mu_X4 hown hK hP 0 rfl rfl 6 (by decide) (hts _ (List.mem_cons_of_mem _ mw_440)) (fun _ h9 => h9) rfl dX4_put_1 ?_
  refine lv_sipush (v := nI 300) hx hb dX4_put_4 (by decide) ?_
  refine lv_icmp_ne (tgt := 16) hx hb dX4_put_7 (by decide) (fun c_7 => ?_) (fun c_7 => ?_)
  · have c_7 := mt (nI_eq (by omega) (by omega)).mpr c_7
    refine lv_aload_n hx hb dX4_put_16 rfl (lv_at hl 0 rfl) ?_
    refine lv_iconst (v := nI 0) hx hb dX4_put_17 (by decide) ?_
    refine va_put (D := D) (ci := 4) (v := .int (nI 0)) (ty := .int) (C := RX4) (T := TX4) (N := 20) hx hb hts mu_X4 tyX4 tyX4_ok nmX4 hown hK hP hD hS 0 rfl rfl 0 (by decide) (hts _ (List.mem_cons_of_mem _ mw_434)) (fun _ h9 => h9) rfl (by decide +kernel) rfl rfl (Nat.le_of_ble_eq_true rfl) dX4_put_18 (fun H locs hP hD hS => ?_)
    have hP : va_P D vwCl [(m0, .inr (4, [.int (nI 0), .ref mk, .ref mr, .ref mn, .ref mv, .ref ms, .int (nI n), .int (nI r), .int co, .ref mtk, .ref mtw, .ref mtr, .ref mtv, .int (nI tz), .ref msk, .ref mss, .ref msv, .int (nI zz), .int (nI zn), .ref mkb])), (mk, .inl (cI, 2040, .inl ek)), (mr, .inl (cI, 2040, .inl er)), (mn, .inl (cI, 2040, .inl en)), (mv, .inl (cJ, 2040, .inr (.inl ev))), (ms, .inl (cZ, 2040, .inl es)), (mtk, .inl (cI, 20, .inl ta)), (mtw, .inl (cI, 20, .inl tv)), (mtr, .inl (cI, 20, .inl tq)), (mtv, .inl (cJ, 20, .inr (.inl tl))), (msk, .inl (cI, 40, .inl pk)), (mss, .inl (cZ, 40, .inl pb)), (msv, .inl (cJ, 40, .inr (.inl pv))), (mkb, .inl (cI, 2000, .inl kq))] H := hP
    have hD : va_D A [(m0, .inr (4, [.int (nI 0), .ref mk, .ref mr, .ref mn, .ref mv, .ref ms, .int (nI n), .int (nI r), .int co, .ref mtk, .ref mtw, .ref mtr, .ref mtv, .int (nI tz), .ref msk, .ref mss, .ref msv, .int (nI zz), .int (nI zn), .ref mkb])), (mk, .inl (cI, 2040, .inl ek)), (mr, .inl (cI, 2040, .inl er)), (mn, .inl (cI, 2040, .inl en)), (mv, .inl (cJ, 2040, .inr (.inl ev))), (ms, .inl (cZ, 2040, .inl es)), (mtk, .inl (cI, 20, .inl ta)), (mtw, .inl (cI, 20, .inl tv)), (mtr, .inl (cI, 20, .inl tq)), (mtv, .inl (cJ, 20, .inr (.inl tl))), (msk, .inl (cI, 40, .inl pk)), (mss, .inl (cZ, 40, .inl pb)), (msv, .inl (cJ, 40, .inr (.inl pv))), (mkb, .inl (cI, 2000, .inl kq))] := hD
    refine lv_aload_n hx hb dX4_put_21 rfl (lv_at hl 0 rfl) ?_
    refine lv_dup hx hb dX4_put_22 rfl ?_
    refine va_get (D := D) (ci := 4) (v := .int (nI r)) (C := RX4) (T := TX4) (N := 20) hx hb hts mu_X4 hown hK hP 0 rfl rfl 7 (by decide) (hts _ (List.mem_cons_of_mem _ mw_441)) (fun _ h9 => h9) rfl dX4_put_23 ?_
    refine lv_iconst (v := nI 1) hx hb dX4_put_26 (by decide) ?_
    refine rk_iadd hx hb dX4_put_27 ?_
    refine va_put (D := D) (ci := 4) (v := .int (nI (r + 1))) (ty := .int) (C := RX4) (T := TX4) (N := 20) hx hb hts mu_X4 tyX4 tyX4_ok nmX4 hown hK hP hD hS 0 rfl rfl 7 (by decide) (hts _ (List.mem_cons_of_mem _ mw_441)) (fun _ h9 => h9) rfl (by decide +kernel) rfl rfl (Nat.le_of_ble_eq_true rfl) dX4_put_28 (fun H locs hP hD hS => ?_)
    have hP : va_P D vwCl [(m0, .inr (4, [.int (nI 0), .ref mk, .ref mr, .ref mn, .ref mv, .ref ms, .int (nI n), .int (nI (r + 1)), .int co, .ref mtk, .ref mtw, .ref mtr, .ref mtv, .int (nI tz), .ref msk, .ref mss, .ref msv, .int (nI zz), .int (nI zn), .ref mkb])), (mk, .inl (cI, 2040, .inl ek)), (mr, .inl (cI, 2040, .inl er)), (mn, .inl (cI, 2040, .inl en)), (mv, .inl (cJ, 2040, .inr (.inl ev))), (ms, .inl (cZ, 2040, .inl es)), (mtk, .inl (cI, 20, .inl ta)), (mtw, .inl (cI, 20, .inl tv)), (mtr, .inl (cI, 20, .inl tq)), (mtv, .inl (cJ, 20, .inr (.inl tl))), (msk, .inl (cI, 40, .inl pk)), (mss, .inl (cZ, 40, .inl pb)), (msv, .inl (cJ, 40, .inr (.inl pv))), (mkb, .inl (cI, 2000, .inl kq))] H := hP
    have hD : va_D A [(m0, .inr (4, [.int (nI 0), .ref mk, .ref mr, .ref mn, .ref mv, .ref ms, .int (nI n), .int (nI (r + 1)), .int co, .ref mtk, .ref mtw, .ref mtr, .ref mtv, .int (nI tz), .ref msk, .ref mss, .ref msv, .int (nI zz), .int (nI zn), .ref mkb])), (mk, .inl (cI, 2040, .inl ek)), (mr, .inl (cI, 2040, .inl er)), (mn, .inl (cI, 2040, .inl en)), (mv, .inl (cJ, 2040, .inr (.inl ev))), (ms, .inl (cZ, 2040, .inl es)), (mtk, .inl (cI, 20, .inl ta)), (mtw, .inl (cI, 20, .inl tv)), (mtr, .inl (cI, 20, .inl tq)), (mtv, .inl (cJ, 20, .inr (.inl tl))), (msk, .inl (cI, 40, .inl pk)), (mss, .inl (cZ, 40, .inl pb)), (msv, .inl (cJ, 40, .inr (.inl pv))), (mkb, .inl (cI, 2000, .inl kq))] := hD
    refine lv_aload_n hx hb dX4_put_31 rfl (lv_at hl 0 rfl) ?_
    refine lv_iload_n hx hb dX4_put_32 rfl (lv_at hl 1 rfl) ?_
    refine lv_iconst (v := nI 1) hx hb dX4_put_33 (by decide) ?_
    refine lv_lload_n hx hb dX4_put_34 rfl (lv_at hl 2 rfl) ?_
    refine lv_aload_n hx hb dX4_put_35 rfl (lv_at hl 0 rfl) ?_
    refine va_get (D := D) (ci := 4) (v := .int (nI (r + 1))) (C := RX4) (T := TX4) (N := 20) hx hb hts mu_X4 hown hK hP 0 rfl rfl 7 (by decide) (hts _ (List.mem_cons_of_mem _ mw_441)) (fun _ h9 => h9) rfl dX4_put_36 ?_
    refine rw_callVv (wr := []) (As := [.int key, .int (nI 1), .long v, .int (nI (r + 1))]) (rest := []) ⟨hx, hb, hml, hown, hts⟩ (c_X4_add l D cI cJ cZ H.size m0 mk mr mn mv ms mtk mtw mtr mtv msk mss msv mkb (r + 1) n tz zz zn (nI 0) co ek er en ev es ta tv tq tl pk pb pv kq (by omega) key (nI 1) (Or.inr rfl) v (nI (r + 1))) (cwV 4 hts (wB_V mw_507 mw_509 ms_10 mw_5 mw_510) rfl rfl rfl (by decide +kernel) ⟨Nat.le_of_ble_eq_true rfl, Nat.le_of_ble_eq_true rfl⟩) (va_recv hK hP (ci := 4) (q0 := 0) rfl rfl) hK hP hD hS hA [0, 1, 2, 3, 4, 5, 6, 7, 8, 9, 10, 11, 12, 13] [] rfl rfl rfl (by decide) (by decide) (by decide) rfl hl.1 (Nat.le_of_ble_eq_true rfl) ⟨Nat.le_of_ble_eq_true rfl, Nat.le_of_ble_eq_true rfl⟩ rfl dX4_put_39 (fun u_39 H locs hw_39 hP hD hS => ?_)
    try dsimp only at hw_39
    have hP : va_P D vwCl [(m0, .inr (4, [.int (nI 0), .ref mk, .ref mr, .ref mn, .ref mv, .ref ms, .int (nI (n + 1)), .int (nI (r + 1)), .int co, .ref mtk, .ref mtw, .ref mtr, .ref mtv, .int (nI tz), .ref msk, .ref mss, .ref msv, .int (nI zz), .int (nI zn), .ref mkb])), (mk, .inl (cI, 2040, .inl (upd ek n key))), (mr, .inl (cI, 2040, .inl (upd er n (nI (r + 1))))), (mn, .inl (cI, 2040, .inl u_39)), (mv, .inl (cJ, 2040, .inr (.inl (vp_updL ev n v)))), (ms, .inl (cZ, 2040, .inl (upd es n (nI 1)))), (mtk, .inl (cI, 20, .inl ta)), (mtw, .inl (cI, 20, .inl tv)), (mtr, .inl (cI, 20, .inl tq)), (mtv, .inl (cJ, 20, .inr (.inl tl))), (msk, .inl (cI, 40, .inl pk)), (mss, .inl (cZ, 40, .inl pb)), (msv, .inl (cJ, 40, .inr (.inl pv))), (mkb, .inl (cI, 2000, .inl kq))] H := hP.sub [0, 1, 2, 3, 4, 5, 6, 7, 8, 9, 10, 11, 12, 13] rfl
    have hD : va_D A [(m0, .inr (4, [.int (nI 0), .ref mk, .ref mr, .ref mn, .ref mv, .ref ms, .int (nI (n + 1)), .int (nI (r + 1)), .int co, .ref mtk, .ref mtw, .ref mtr, .ref mtv, .int (nI tz), .ref msk, .ref mss, .ref msv, .int (nI zz), .int (nI zn), .ref mkb])), (mk, .inl (cI, 2040, .inl (upd ek n key))), (mr, .inl (cI, 2040, .inl (upd er n (nI (r + 1))))), (mn, .inl (cI, 2040, .inl u_39)), (mv, .inl (cJ, 2040, .inr (.inl (vp_updL ev n v)))), (ms, .inl (cZ, 2040, .inl (upd es n (nI 1)))), (mtk, .inl (cI, 20, .inl ta)), (mtw, .inl (cI, 20, .inl tv)), (mtr, .inl (cI, 20, .inl tq)), (mtv, .inl (cJ, 20, .inr (.inl tl))), (msk, .inl (cI, 40, .inl pk)), (mss, .inl (cZ, 40, .inl pb)), (msv, .inl (cJ, 40, .inr (.inl pv))), (mkb, .inl (cI, 2000, .inl kq))] := hD.sub [0, 1, 2, 3, 4, 5, 6, 7, 8, 9, 10, 11, 12, 13] (by decide) rfl
    refine lv_aload_n hx hb dX4_put_42 rfl (lv_at hl 0 rfl) ?_
    refine va_get (D := D) (ci := 4) (v := .int (nI (r + 1))) (C := RX4) (T := TX4) (N := 20) hx hb hts mu_X4 hown hK hP 0 rfl rfl 7 (by decide) (hts _ (List.mem_cons_of_mem _ mw_441)) (fun _ h9 => h9) rfl dX4_put_43 ?_
    exact rw_reti (u := ((nI 0), (r + 1), (n + 1), (upd ek n key), (upd er n (nI (r + 1))), u_39, (vp_updL ev n v), (upd es n (nI 1)))) (v := (nI (r + 1))) hAe (hP) (hD) hS hK (Or.inr ⟨by omega, rfl, rfl, rfl, rfl, rfl, rfl, rfl, rfl, hw_39⟩) (Nat.le_of_ble_eq_true rfl) (Nat.le_of_ble_eq_true rfl) hx hb hr hlocks dX4_put_46
  · have c_7 := (nI_eq (by omega) (by omega)).mp c_7
    refine lv_aload_n hx hb dX4_put_10 rfl (lv_at hl 0 rfl) ?_
    refine lv_iconst (v := nI 1) hx hb dX4_put_11 (by decide) ?_
    refine rw_callVi (wr := []) (As := [.int (nI 1)]) (rest := []) ⟨hx, hb, hml, hown, hts⟩ (c_X4_no l D cI cJ cZ s.heap.size m0 mk mr mn mv ms mtk mtw mtr mtv msk mss msv mkb r n tz zz zn th co ek er en ev es ta tv tq tl pk pb pv kq (nI 1)) (cwV 1 hts (wB_V mw_503 mw_505 ms_9 mw_5 mw_506) rfl rfl rfl (by decide +kernel) ⟨Nat.le_of_ble_eq_true rfl, Nat.le_of_ble_eq_true rfl⟩) (va_recv hK hP (ci := 4) (q0 := 0) rfl rfl) hK hP hD hS hA [0, 1, 2, 3, 4, 5, 6, 7, 8, 9, 10, 11, 12, 13] [] rfl rfl rfl (by decide) (by decide) (by decide) rfl hl.1 (Nat.le_of_ble_eq_true rfl) ⟨Nat.le_of_ble_eq_true rfl, Nat.le_of_ble_eq_true rfl⟩ rfl dX4_put_12 (fun r_12 u_12 H locs hw_12 hP hD hS => ?_)
    try dsimp only at hw_12
    have hP : va_P D vwCl [(m0, .inr (4, [.int (nI 1), .ref mk, .ref mr, .ref mn, .ref mv, .ref ms, .int (nI n), .int (nI r), .int co, .ref mtk, .ref mtw, .ref mtr, .ref mtv, .int (nI tz), .ref msk, .ref mss, .ref msv, .int (nI zz), .int (nI zn), .ref mkb])), (mk, .inl (cI, 2040, .inl ek)), (mr, .inl (cI, 2040, .inl er)), (mn, .inl (cI, 2040, .inl en)), (mv, .inl (cJ, 2040, .inr (.inl ev))), (ms, .inl (cZ, 2040, .inl es)), (mtk, .inl (cI, 20, .inl ta)), (mtw, .inl (cI, 20, .inl tv)), (mtr, .inl (cI, 20, .inl tq)), (mtv, .inl (cJ, 20, .inr (.inl tl))), (msk, .inl (cI, 40, .inl pk)), (mss, .inl (cZ, 40, .inl pb)), (msv, .inl (cJ, 40, .inr (.inl pv))), (mkb, .inl (cI, 2000, .inl kq))] H := hP.sub [0, 1, 2, 3, 4, 5, 6, 7, 8, 9, 10, 11, 12, 13] rfl
    have hD : va_D A [(m0, .inr (4, [.int (nI 1), .ref mk, .ref mr, .ref mn, .ref mv, .ref ms, .int (nI n), .int (nI r), .int co, .ref mtk, .ref mtw, .ref mtr, .ref mtv, .int (nI tz), .ref msk, .ref mss, .ref msv, .int (nI zz), .int (nI zn), .ref mkb])), (mk, .inl (cI, 2040, .inl ek)), (mr, .inl (cI, 2040, .inl er)), (mn, .inl (cI, 2040, .inl en)), (mv, .inl (cJ, 2040, .inr (.inl ev))), (ms, .inl (cZ, 2040, .inl es)), (mtk, .inl (cI, 20, .inl ta)), (mtw, .inl (cI, 20, .inl tv)), (mtr, .inl (cI, 20, .inl tq)), (mtv, .inl (cJ, 20, .inr (.inl tl))), (msk, .inl (cI, 40, .inl pk)), (mss, .inl (cZ, 40, .inl pb)), (msv, .inl (cJ, 40, .inr (.inl pv))), (mkb, .inl (cI, 2000, .inl kq))] := hD.sub [0, 1, 2, 3, 4, 5, 6, 7, 8, 9, 10, 11, 12, 13] (by decide) rfl
    subst hw_12
    exact rw_reti (u := (nI 1, r, n, ek, er, en, ev, es)) (v := (nI 0)) hAe (hP) (hD) hS hK (Or.inl ⟨by omega, rfl, rfl⟩) (Nat.le_of_ble_eq_true rfl) (Nat.le_of_ble_eq_true rfl) hx hb hr hlocks dX4_put_15
set_option maxHeartbeats 4000000 in
set_option maxRecDepth 100000 in
theorem c_X4_remove (l : Launch) (D : va_G) (cI cJ cZ : ClassId) (sz : Nat) (m0 mk mr mn mv ms mtk mtw mtr mtv msk mss msv mkb r n tz zz zn : Nat) (th co : Int32) (ek er en : Nat → Int32) (ev : Nat → Int64) (es ta tv tq : Nat → Int32) (tl : Nat → Int64) (pk pb : Nat → Int32) (pv : Nat → Int64) (kq : Nat → Int32) (hn : n ≤ 300) (key : Int32) : Met l yX4_remove (Cond.code yX4_remove cX4_remove 2 (some .int) :: wB) ({ frames := 2, cells := 0, slots := 0, locals := 50 } : Room) (rw_Pc D cI cJ cZ sz [.ref m0, .int key] [(m0, .inr (4, [.int th, .ref mk, .ref mr, .ref mn, .ref mv, .ref ms, .int (nI n), .int (nI r), .int co, .ref mtk, .ref mtw, .ref mtr, .ref mtv, .int (nI tz), .ref msk, .ref mss, .ref msv, .int (nI zz), .int (nI zn), .ref mkb])), (mk, .inl (cI, 2040, .inl ek)), (mr, .inl (cI, 2040, .inl er)), (mn, .inl (cI, 2040, .inl en)), (mv, .inl (cJ, 2040, .inr (.inl ev))), (ms, .inl (cZ, 2040, .inl es)), (mtk, .inl (cI, 20, .inl ta)), (mtw, .inl (cI, 20, .inl tv)), (mtr, .inl (cI, 20, .inl tq)), (mtv, .inl (cJ, 20, .inr (.inl tl))), (msk, .inl (cI, 40, .inl pk)), (mss, .inl (cZ, 40, .inl pb)), (msv, .inl (cJ, 40, .inr (.inl pv))), (mkb, .inl (cI, 2000, .inl kq))]) (rw_Qi (S := Int32 × Nat × ME) D cI cJ cZ sz [(m0, .inr (4, [.int th, .ref mk, .ref mr, .ref mn, .ref mv, .ref ms, .int (nI n), .int (nI r), .int co, .ref mtk, .ref mtw, .ref mtr, .ref mtv, .int (nI tz), .ref msk, .ref mss, .ref msv, .int (nI zz), .int (nI zn), .ref mkb])), (mk, .inl (cI, 2040, .inl ek)), (mr, .inl (cI, 2040, .inl er)), (mn, .inl (cI, 2040, .inl en)), (mv, .inl (cJ, 2040, .inr (.inl ev))), (ms, .inl (cZ, 2040, .inl es)), (mtk, .inl (cI, 20, .inl ta)), (mtw, .inl (cI, 20, .inl tv)), (mtr, .inl (cI, 20, .inl tq)), (mtv, .inl (cJ, 20, .inr (.inl tl))), (msk, .inl (cI, 40, .inl pk)), (mss, .inl (cZ, 40, .inl pb)), (msv, .inl (cJ, 40, .inr (.inl pv))), (mkb, .inl (cI, 2000, .inl kq))] (fun u => [(m0, .inr (4, [.int u.1, .ref mk, .ref mr, .ref mn, .ref mv, .ref ms, .int (nI u.2.2.1), .int (nI u.2.1), .int co, .ref mtk, .ref mtw, .ref mtr, .ref mtv, .int (nI tz), .ref msk, .ref mss, .ref msv, .int (nI zz), .int (nI zn), .ref mkb])), (mk, .inl (cI, 2040, .inl u.2.2.2.1)), (mr, .inl (cI, 2040, .inl u.2.2.2.2.1)), (mn, .inl (cI, 2040, .inl u.2.2.2.2.2.1)), (mv, .inl (cJ, 2040, .inr (.inl u.2.2.2.2.2.2.1))), (ms, .inl (cZ, 2040, .inl u.2.2.2.2.2.2.2)), (mtk, .inl (cI, 20, .inl ta)), (mtw, .inl (cI, 20, .inl tv)), (mtr, .inl (cI, 20, .inl tq)), (mtv, .inl (cJ, 20, .inr (.inl tl))), (msk, .inl (cI, 40, .inl pk)), (mss, .inl (cZ, 40, .inl pb)), (msv, .inl (cJ, 40, .inr (.inl pv))), (mkb, .inl (cI, 2000, .inl kq))]) (fun x u => (thN (n, ek, er, en, ev, es) key (nI r) ∧ x = nI 0 ∧ u = (nI 0, r, n, ek, er, en, ev, es)) ∨ (thY (n, ek, er, en, ev, es) key (nI r) ∧ n = 300 ∧ x = nI 0 ∧ u = (nI 1, r, n, ek, er, en, ev, es)) ∨ (thY (n, ek, er, en, ev, es) key (nI r) ∧ n ≠ 300 ∧ x = nI (r + 1) ∧ u.1 = nI 0 ∧ u.2.1 = r + 1 ∧ addR (nI (r + 1)) key (nI 0) 0 (n, ek, er, en, ev, es) u.2.2))) 0 0 (va_A [(m0, .inr (4, [.int th, .ref mk, .ref mr, .ref mn, .ref mv, .ref ms, .int (nI n), .int (nI r), .int co, .ref mtk, .ref mtw, .ref mtr, .ref mtv, .int (nI tz), .ref msk, .ref mss, .ref msv, .int (nI zz), .int (nI zn), .ref mkb])), (mk, .inl (cI, 2040, .inl ek)), (mr, .inl (cI, 2040, .inl er)), (mn, .inl (cI, 2040, .inl en)), (mv, .inl (cJ, 2040, .inr (.inl ev))), (ms, .inl (cZ, 2040, .inl es)), (mtk, .inl (cI, 20, .inl ta)), (mtw, .inl (cI, 20, .inl tv)), (mtr, .inl (cI, 20, .inl tq)), (mtv, .inl (cJ, 20, .inr (.inl tl))), (msk, .inl (cI, 40, .inl pk)), (mss, .inl (cZ, 40, .inl pb)), (msv, .inl (cJ, 40, .inr (.inl pv))), (mkb, .inl (cI, 2000, .inl kq))] sz) := by
  refine Met.ofW (cc := cX4_remove) (maxL := 2) (ret := (some .int)) (by decide) rfl ?_
  intro p e s m args below meth c s₁ B hml hv
  obtain ⟨rfl, hsz, hP, hK, hD0⟩ := hv
  have hx := B.exec
  have hb := B.bytes
  have hr := B.returns
  have hts := atoms_spec (ws := (Cond.code yX4_remove cX4_remove 2 (some .int) :: wB)) B.pre
  have hown : s.vm.findClass RX4 = some m.cls := findClass_of_methodNamed B.named
  have hlocks := B.notSynchronized
  subst hsz
  have hD := hD0.self (sz := s.heap.size)
  obtain ⟨A, hAe⟩ : ∃ A, A = va_A [(m0, .inr (4, [.int th, .ref mk, .ref mr, .ref mn, .ref mv, .ref ms, .int (nI n), .int (nI r), .int co, .ref mtk, .ref mtw, .ref mtr, .ref mtv, .int (nI tz), .ref msk, .ref mss, .ref msv, .int (nI zz), .int (nI zn), .ref mkb])), (mk, .inl (cI, 2040, .inl ek)), (mr, .inl (cI, 2040, .inl er)), (mn, .inl (cI, 2040, .inl en)), (mv, .inl (cJ, 2040, .inr (.inl ev))), (ms, .inl (cZ, 2040, .inl es)), (mtk, .inl (cI, 20, .inl ta)), (mtw, .inl (cI, 20, .inl tv)), (mtr, .inl (cI, 20, .inl tq)), (mtv, .inl (cJ, 20, .inr (.inl tl))), (msk, .inl (cI, 40, .inl pk)), (mss, .inl (cZ, 40, .inl pb)), (msv, .inl (cJ, 40, .inr (.inl pv))), (mkb, .inl (cI, 2000, .inl kq))] s.heap.size := ⟨_, rfl⟩
  rw [← hAe] at hD
  have hA : ∀ q : Nat, s.heap.size ≤ q → A q := fun q h => by rw [hAe]; exact Or.inr h
  have hS : va_S A s.heap s.heap [] := va_S.rf
  have hl := lv_entry ([.ref m0, .int key]) (n := 2) (Nat.le_of_ble_eq_true rfl)
  rw [lg_entry_eq]
  generalize (lg_sl ([.ref m0, .int key]) ++ List.replicate (2 - (lg_sl ([.ref m0, .int key])).length) Slot.unset).toArray = ls at hl ⊢
  have hl : lv_has ls 2 [(0, .ref m0), (1, .int key)] := hl
  refine lv_aload_n hx hb dX4_remove_0 rfl (lv_at hl 0 rfl) ?_
  refine lv_iconst (v := nI 0) hx hb dX4_remove_1 (by decide) ?_
  refine va_put (D := D) (ci := 4) (v := .int (nI 0)) (ty := .int) (C := RX4) (T := TX4) (N := 20) hx hb hts mu_X4 tyX4 tyX4_ok nmX4 hown hK hP hD hS 0 rfl rfl 0 (by decide) (hts _ (List.mem_cons_of_mem _ mw_434)) (fun _ h9 => h9) rfl (by decide +kernel) rfl rfl (Nat.le_of_ble_eq_true rfl) dX4_remove_2 (fun H locs hP hD hS => ?_)
  have hP : va_P D vwCl [(m0, .inr (4, [.int (nI 0), .ref mk, .ref mr, .ref mn, .ref mv, .ref ms, .int (nI n), .int (nI r), .int co, .ref mtk, .ref mtw, .ref mtr, .ref mtv, .int (nI tz), .ref msk, .ref mss, .ref msv, .int (nI zz), .int (nI zn), .ref mkb])), (mk, .inl (cI, 2040, .inl ek)), (mr, .inl (cI, 2040, .inl er)), (mn, .inl (cI, 2040, .inl en)), (mv, .inl (cJ, 2040, .inr (.inl ev))), (ms, .inl (cZ, 2040, .inl es)), (mtk, .inl (cI, 20, .inl ta)), (mtw, .inl (cI, 20, .inl tv)), (mtr, .inl (cI, 20, .inl tq)), (mtv, .inl (cJ, 20, .inr (.inl tl))), (msk, .inl (cI, 40, .inl pk)), (mss, .inl (cZ, 40, .inl pb)), (msv, .inl (cJ, 40, .inr (.inl pv))), (mkb, .inl (cI, 2000, .inl kq))] H := hP
  have hD : va_D A [(m0, .inr (4, [.int (nI 0), .ref mk, .ref mr, .ref mn, .ref mv, .ref ms, .int (nI n), .int (nI r), .int co, .ref mtk, .ref mtw, .ref mtr, .ref mtv, .int (nI tz), .ref msk, .ref mss, .ref msv, .int (nI zz), .int (nI zn), .ref mkb])), (mk, .inl (cI, 2040, .inl ek)), (mr, .inl (cI, 2040, .inl er)), (mn, .inl (cI, 2040, .inl en)), (mv, .inl (cJ, 2040, .inr (.inl ev))), (ms, .inl (cZ, 2040, .inl es)), (mtk, .inl (cI, 20, .inl ta)), (mtw, .inl (cI, 20, .inl tv)), (mtr, .inl (cI, 20, .inl tq)), (mtv, .inl (cJ, 20, .inr (.inl tl))), (msk, .inl (cI, 40, .inl pk)), (mss, .inl (cZ, 40, .inl pb)), (msv, .inl (cJ, 40, .inr (.inl pv))), (mkb, .inl (cI, 2000, .inl kq))] := hD
  refine lv_aload_n hx hb dX4_remove_5 rfl (lv_at hl 0 rfl) ?_
  refine lv_iload_n hx hb dX4_remove_6 rfl (lv_at hl 1 rfl) ?_
  refine lv_aload_n hx hb dX4_remove_7 rfl (lv_at hl 0 rfl) ?_
  refine va_get (D := D) (ci := 4) (v := .int (nI r)) (C := RX4) (T := TX4) (N := 20) hx hb hts mu_X4 hown hK hP 0 rfl rfl 7 (by decide) (hts _ (List.mem_cons_of_mem _ mw_441)) (fun _ h9 => h9) rfl dX4_remove_8 ?_
  refine ro_callVi (As := [.int key, .int (nI r)]) (rest := []) ⟨hx, hb, hml, hown, hts⟩ (c_X4_isThere l D cI cJ cZ m0 mk mr mn mv ms mtk mtw mtr mtv msk mss msv mkb r n tz zz zn (nI 0) co ek er en ev es ta tv tq tl pk pb pv kq (by omega) key (nI r)) (cwV 2 hts (wB_V mw_519 mw_521 ms_12 mw_5 mw_522) rfl rfl rfl (by decide +kernel) ⟨Nat.le_of_ble_eq_true rfl, Nat.le_of_ble_eq_true rfl⟩) (va_recv hK hP (ci := 4) (q0 := 0) rfl rfl) (hP.sub (ws' := [(m0, .inr (4, [.int (nI 0), .ref mk, .ref mr, .ref mn, .ref mv, .ref ms, .int (nI n), .int (nI r), .int co, .ref mtk, .ref mtw, .ref mtr, .ref mtv, .int (nI tz), .ref msk, .ref mss, .ref msv, .int (nI zz), .int (nI zn), .ref mkb])), (mk, .inl (cI, 2040, .inl ek)), (mr, .inl (cI, 2040, .inl er)), (mn, .inl (cI, 2040, .inl en)), (mv, .inl (cJ, 2040, .inr (.inl ev))), (ms, .inl (cZ, 2040, .inl es)), (mtk, .inl (cI, 20, .inl ta)), (mtw, .inl (cI, 20, .inl tv)), (mtr, .inl (cI, 20, .inl tq)), (mtv, .inl (cJ, 20, .inr (.inl tl))), (msk, .inl (cI, 40, .inl pk)), (mss, .inl (cZ, 40, .inl pb)), (msv, .inl (cJ, 40, .inr (.inl pv))), (mkb, .inl (cI, 2000, .inl kq))]) [0, 1, 2, 3, 4, 5, 6, 7, 8, 9, 10, 11, 12, 13] rfl) hK rfl hl.1 (Nat.le_of_ble_eq_true rfl) ⟨Nat.le_of_ble_eq_true rfl, Nat.le_of_ble_eq_true rfl⟩ rfl dX4_remove_11 (fun r_11 hw_11 => ?_)
  try dsimp only at hw_11
  rcases hw_11 with ⟨rfl, hw_11⟩ | ⟨rfl, hw_11⟩
  · skip
    refine lv_if_ne (tgt := 19) hx hb dX4_remove_14 (by decide) (fun _ => ?_) (fun c => absurd c (by decide))
    refine lv_aload_n hx hb dX4_remove_19 rfl (lv_at hl 0 rfl) ?_
    refine va_get (D := D) (ci := 4) (v := .int (nI n)) (C := RX4) (T := TX4) (N := 20) hx hb hts mu_X4 hown hK hP 0 rfl rfl 6 (by decide) (hts _ (List.mem_cons_of_mem _ mw_440)) (fun _ h9 => h9) rfl dX4_remove_20 ?_
    refine lv_sipush (v := nI 300) hx hb dX4_remove_23 (by decide) ?_
    refine lv_icmp_ne (tgt := 35) hx hb dX4_remove_26 (by decide) (fun c_26 => ?_) (fun c_26 => ?_)
    · have c_26 := mt (nI_eq (by omega) (by omega)).mpr c_26
      refine lv_aload_n hx hb dX4_remove_35 rfl (lv_at hl 0 rfl) ?_
      refine lv_dup hx hb dX4_remove_36 rfl ?_
      refine va_get (D := D) (ci := 4) (v := .int (nI r)) (C := RX4) (T := TX4) (N := 20) hx hb hts mu_X4 hown hK hP 0 rfl rfl 7 (by decide) (hts _ (List.mem_cons_of_mem _ mw_441)) (fun _ h9 => h9) rfl dX4_remove_37 ?_
      refine lv_iconst (v := nI 1) hx hb dX4_remove_40 (by decide) ?_
      refine rk_iadd hx hb dX4_remove_41 ?_
      refine va_put (D := D) (ci := 4) (v := .int (nI (r + 1))) (ty := .int) (C := RX4) (T := TX4) (N := 20) hx hb hts mu_X4 tyX4 tyX4_ok nmX4 hown hK hP hD hS 0 rfl rfl 7 (by decide) (hts _ (List.mem_cons_of_mem _ mw_441)) (fun _ h9 => h9) rfl (by decide +kernel) rfl rfl (Nat.le_of_ble_eq_true rfl) dX4_remove_42 (fun H locs hP hD hS => ?_)
      have hP : va_P D vwCl [(m0, .inr (4, [.int (nI 0), .ref mk, .ref mr, .ref mn, .ref mv, .ref ms, .int (nI n), .int (nI (r + 1)), .int co, .ref mtk, .ref mtw, .ref mtr, .ref mtv, .int (nI tz), .ref msk, .ref mss, .ref msv, .int (nI zz), .int (nI zn), .ref mkb])), (mk, .inl (cI, 2040, .inl ek)), (mr, .inl (cI, 2040, .inl er)), (mn, .inl (cI, 2040, .inl en)), (mv, .inl (cJ, 2040, .inr (.inl ev))), (ms, .inl (cZ, 2040, .inl es)), (mtk, .inl (cI, 20, .inl ta)), (mtw, .inl (cI, 20, .inl tv)), (mtr, .inl (cI, 20, .inl tq)), (mtv, .inl (cJ, 20, .inr (.inl tl))), (msk, .inl (cI, 40, .inl pk)), (mss, .inl (cZ, 40, .inl pb)), (msv, .inl (cJ, 40, .inr (.inl pv))), (mkb, .inl (cI, 2000, .inl kq))] H := hP
      have hD : va_D A [(m0, .inr (4, [.int (nI 0), .ref mk, .ref mr, .ref mn, .ref mv, .ref ms, .int (nI n), .int (nI (r + 1)), .int co, .ref mtk, .ref mtw, .ref mtr, .ref mtv, .int (nI tz), .ref msk, .ref mss, .ref msv, .int (nI zz), .int (nI zn), .ref mkb])), (mk, .inl (cI, 2040, .inl ek)), (mr, .inl (cI, 2040, .inl er)), (mn, .inl (cI, 2040, .inl en)), (mv, .inl (cJ, 2040, .inr (.inl ev))), (ms, .inl (cZ, 2040, .inl es)), (mtk, .inl (cI, 20, .inl ta)), (mtw, .inl (cI, 20, .inl tv)), (mtr, .inl (cI, 20, .inl tq)), (mtv, .inl (cJ, 20, .inr (.inl tl))), (msk, .inl (cI, 40, .inl pk)), (mss, .inl (cZ, 40, .inl pb)), (msv, .inl (cJ, 40, .inr (.inl pv))), (mkb, .inl (cI, 2000, .inl kq))] := hD
      refine lv_aload_n hx hb dX4_remove_45 rfl (lv_at hl 0 rfl) ?_
      refine lv_iload_n hx hb dX4_remove_46 rfl (lv_at hl 1 rfl) ?_
      refine lv_iconst (v := nI 0) hx hb dX4_remove_47 (by decide) ?_
      refine lv_lconst (v := 0) hx hb dX4_remove_48 (by decide) ?_
      refine lv_aload_n hx hb dX4_remove_49 rfl (lv_at hl 0 rfl) ?_
      refine va_get (D := D) (ci := 4) (v := .int (nI (r + 1))) (C := RX4) (T := TX4) (N := 20) hx hb hts mu_X4 hown hK hP 0 rfl rfl 7 (by decide) (hts _ (List.mem_cons_of_mem _ mw_441)) (fun _ h9 => h9) rfl dX4_remove_50 ?_
      refine rw_callVv (wr := []) (As := [.int key, .int (nI 0), .long 0, .int (nI (r + 1))]) (rest := []) ⟨hx, hb, hml, hown, hts⟩ (c_X4_add l D cI cJ cZ H.size m0 mk mr mn mv ms mtk mtw mtr mtv msk mss msv mkb (r + 1) n tz zz zn (nI 0) co ek er en ev es ta tv tq tl pk pb pv kq (by omega) key (nI 0) (Or.inl rfl) 0 (nI (r + 1))) (cwV 4 hts (wB_V mw_507 mw_509 ms_10 mw_5 mw_510) rfl rfl rfl (by decide +kernel) ⟨Nat.le_of_ble_eq_true rfl, Nat.le_of_ble_eq_true rfl⟩) (va_recv hK hP (ci := 4) (q0 := 0) rfl rfl) hK hP hD hS hA [0, 1, 2, 3, 4, 5, 6, 7, 8, 9, 10, 11, 12, 13] [] rfl rfl rfl (by decide) (by decide) (by decide) rfl hl.1 (Nat.le_of_ble_eq_true rfl) ⟨Nat.le_of_ble_eq_true rfl, Nat.le_of_ble_eq_true rfl⟩ rfl dX4_remove_53 (fun u_53 H locs hw_53 hP hD hS => ?_)
      try dsimp only at hw_53
      have hP : va_P D vwCl [(m0, .inr (4, [.int (nI 0), .ref mk, .ref mr, .ref mn, .ref mv, .ref ms, .int (nI (n + 1)), .int (nI (r + 1)), .int co, .ref mtk, .ref mtw, .ref mtr, .ref mtv, .int (nI tz), .ref msk, .ref mss, .ref msv, .int (nI zz), .int (nI zn), .ref mkb])), (mk, .inl (cI, 2040, .inl (upd ek n key))), (mr, .inl (cI, 2040, .inl (upd er n (nI (r + 1))))), (mn, .inl (cI, 2040, .inl u_53)), (mv, .inl (cJ, 2040, .inr (.inl (vp_updL ev n 0)))), (ms, .inl (cZ, 2040, .inl (upd es n (nI 0)))), (mtk, .inl (cI, 20, .inl ta)), (mtw, .inl (cI, 20, .inl tv)), (mtr, .inl (cI, 20, .inl tq)), (mtv, .inl (cJ, 20, .inr (.inl tl))), (msk, .inl (cI, 40, .inl pk)), (mss, .inl (cZ, 40, .inl pb)), (msv, .inl (cJ, 40, .inr (.inl pv))), (mkb, .inl (cI, 2000, .inl kq))] H := hP.sub [0, 1, 2, 3, 4, 5, 6, 7, 8, 9, 10, 11, 12, 13] rfl
      have hD : va_D A [(m0, .inr (4, [.int (nI 0), .ref mk, .ref mr, .ref mn, .ref mv, .ref ms, .int (nI (n + 1)), .int (nI (r + 1)), .int co, .ref mtk, .ref mtw, .ref mtr, .ref mtv, .int (nI tz), .ref msk, .ref mss, .ref msv, .int (nI zz), .int (nI zn), .ref mkb])), (mk, .inl (cI, 2040, .inl (upd ek n key))), (mr, .inl (cI, 2040, .inl (upd er n (nI (r + 1))))), (mn, .inl (cI, 2040, .inl u_53)), (mv, .inl (cJ, 2040, .inr (.inl (vp_updL ev n 0)))), (ms, .inl (cZ, 2040, .inl (upd es n (nI 0)))), (mtk, .inl (cI, 20, .inl ta)), (mtw, .inl (cI, 20, .inl tv)), (mtr, .inl (cI, 20, .inl tq)), (mtv, .inl (cJ, 20, .inr (.inl tl))), (msk, .inl (cI, 40, .inl pk)), (mss, .inl (cZ, 40, .inl pb)), (msv, .inl (cJ, 40, .inr (.inl pv))), (mkb, .inl (cI, 2000, .inl kq))] := hD.sub [0, 1, 2, 3, 4, 5, 6, 7, 8, 9, 10, 11, 12, 13] (by decide) rfl
      refine lv_aload_n hx hb dX4_remove_56 rfl (lv_at hl 0 rfl) ?_
      refine va_get (D := D) (ci := 4) (v := .int (nI (r + 1))) (C := RX4) (T := TX4) (N := 20) hx hb hts mu_X4 hown hK hP 0 rfl rfl 7 (by decide) (hts _ (List.mem_cons_of_mem _ mw_441)) (fun _ h9 => h9) rfl dX4_remove_57 ?_
      exact rw_reti (u := ((nI 0), (r + 1), (n + 1), (upd ek n key), (upd er n (nI (r + 1))), u_53, (vp_updL ev n 0), (upd es n (nI 0)))) (v := (nI (r + 1))) hAe (hP) (hD) hS hK (Or.inr (Or.inr ⟨hw_11, by omega, rfl, rfl, rfl, rfl, rfl, rfl, rfl, rfl, hw_53⟩)) (Nat.le_of_ble_eq_true rfl) (Nat.le_of_ble_eq_true rfl) hx hb hr hlocks dX4_remove_60
    · have c_26 := (nI_eq (by omega) (by omega)).mp c_26
      refine lv_aload_n hx hb dX4_remove_29 rfl (lv_at hl 0 rfl) ?_
      refine lv_iconst (v := nI 1) hx hb dX4_remove_30 (by decide) ?_
      refine rw_callVi (wr := []) (As := [.int (nI 1)]) (rest := []) ⟨hx, hb, hml, hown, hts⟩ (c_X4_no l D cI cJ cZ H.size m0 mk mr mn mv ms mtk mtw mtr mtv msk mss msv mkb r n tz zz zn (nI 0) co ek er en ev es ta tv tq tl pk pb pv kq (nI 1)) (cwV 1 hts (wB_V mw_503 mw_505 ms_9 mw_5 mw_506) rfl rfl rfl (by decide +kernel) ⟨Nat.le_of_ble_eq_true rfl, Nat.le_of_ble_eq_true rfl⟩) (va_recv hK hP (ci := 4) (q0 := 0) rfl rfl) hK hP hD hS hA [0, 1, 2, 3, 4, 5, 6, 7, 8, 9, 10, 11, 12, 13] [] rfl rfl rfl (by decide) (by decide) (by decide) rfl hl.1 (Nat.le_of_ble_eq_true rfl) ⟨Nat.le_of_ble_eq_true rfl, Nat.le_of_ble_eq_true rfl⟩ rfl dX4_remove_31 (fun r_31 u_31 H locs hw_31 hP hD hS => ?_)
      try dsimp only at hw_31
      have hP : va_P D vwCl [(m0, .inr (4, [.int (nI 1), .ref mk, .ref mr, .ref mn, .ref mv, .ref ms, .int (nI n), .int (nI r), .int co, .ref mtk, .ref mtw, .ref mtr, .ref mtv, .int (nI tz), .ref msk, .ref mss, .ref msv, .int (nI zz), .int (nI zn), .ref mkb])), (mk, .inl (cI, 2040, .inl ek)), (mr, .inl (cI, 2040, .inl er)), (mn, .inl (cI, 2040, .inl en)), (mv, .inl (cJ, 2040, .inr (.inl ev))), (ms, .inl (cZ, 2040, .inl es)), (mtk, .inl (cI, 20, .inl ta)), (mtw, .inl (cI, 20, .inl tv)), (mtr, .inl (cI, 20, .inl tq)), (mtv, .inl (cJ, 20, .inr (.inl tl))), (msk, .inl (cI, 40, .inl pk)), (mss, .inl (cZ, 40, .inl pb)), (msv, .inl (cJ, 40, .inr (.inl pv))), (mkb, .inl (cI, 2000, .inl kq))] H := hP.sub [0, 1, 2, 3, 4, 5, 6, 7, 8, 9, 10, 11, 12, 13] rfl
      have hD : va_D A [(m0, .inr (4, [.int (nI 1), .ref mk, .ref mr, .ref mn, .ref mv, .ref ms, .int (nI n), .int (nI r), .int co, .ref mtk, .ref mtw, .ref mtr, .ref mtv, .int (nI tz), .ref msk, .ref mss, .ref msv, .int (nI zz), .int (nI zn), .ref mkb])), (mk, .inl (cI, 2040, .inl ek)), (mr, .inl (cI, 2040, .inl er)), (mn, .inl (cI, 2040, .inl en)), (mv, .inl (cJ, 2040, .inr (.inl ev))), (ms, .inl (cZ, 2040, .inl es)), (mtk, .inl (cI, 20, .inl ta)), (mtw, .inl (cI, 20, .inl tv)), (mtr, .inl (cI, 20, .inl tq)), (mtv, .inl (cJ, 20, .inr (.inl tl))), (msk, .inl (cI, 40, .inl pk)), (mss, .inl (cZ, 40, .inl pb)), (msv, .inl (cJ, 40, .inr (.inl pv))), (mkb, .inl (cI, 2000, .inl kq))] := hD.sub [0, 1, 2, 3, 4, 5, 6, 7, 8, 9, 10, 11, 12, 13] (by decide) rfl
      subst hw_31
      exact rw_reti (u := (nI 1, r, n, ek, er, en, ev, es)) (v := (nI 0)) hAe (hP) (hD) hS hK (Or.inr (Or.inl ⟨hw_11, by omega, rfl, rfl⟩)) (Nat.le_of_ble_eq_true rfl) (Nat.le_of_ble_eq_true rfl) hx hb hr hlocks dX4_remove_34
  · skip
    refine lv_if_ne (tgt := 19) hx hb dX4_remove_14 (by decide) (fun c => absurd (by decide) c) (fun _ => ?_)
    refine lv_iconst (v := nI 0) hx hb dX4_remove_17 (by decide) ?_
    exact rw_reti (u := (nI 0, r, n, ek, er, en, ev, es)) (v := (nI 0)) hAe (hP) (hD) hS hK (Or.inl ⟨hw_11, rfl, rfl⟩) (Nat.le_of_ble_eq_true rfl) (Nat.le_of_ble_eq_true rfl) hx hb hr hlocks dX4_remove_18
set_option maxHeartbeats 4000000 in
set_option maxRecDepth 100000 in
theorem c_X4_test (l : Launch) (D : va_G) (cI cJ cZ : ClassId) (sz : Nat) (m0 mk mr mn mv ms mtk mtw mtr mtv msk mss msv mkb r n tz zz zn : Nat) (th co : Int32) (ek er en : Nat → Int32) (ev : Nat → Int64) (es ta tv tq : Nat → Int32) (tl : Nat → Int64) (pk pb : Nat → Int32) (pv : Nat → Int64) (kq : Nat → Int32) (htz : tz ≤ 20) (key w q : Int32) (v : Int64) : Met l yX4_test (Cond.code yX4_test cX4_test 6 none :: wB) ({ frames := 0, cells := 0, slots := 0, locals := 0 } : Room) (rw_Pc D cI cJ cZ sz [.ref m0, .int key, .int w, .int q, .long v] [(m0, .inr (4, [.int th, .ref mk, .ref mr, .ref mn, .ref mv, .ref ms, .int (nI n), .int (nI r), .int co, .ref mtk, .ref mtw, .ref mtr, .ref mtv, .int (nI tz), .ref msk, .ref mss, .ref msv, .int (nI zz), .int (nI zn), .ref mkb])), (mk, .inl (cI, 2040, .inl ek)), (mr, .inl (cI, 2040, .inl er)), (mn, .inl (cI, 2040, .inl en)), (mv, .inl (cJ, 2040, .inr (.inl ev))), (ms, .inl (cZ, 2040, .inl es)), (mtk, .inl (cI, 20, .inl ta)), (mtw, .inl (cI, 20, .inl tv)), (mtr, .inl (cI, 20, .inl tq)), (mtv, .inl (cJ, 20, .inr (.inl tl))), (msk, .inl (cI, 40, .inl pk)), (mss, .inl (cZ, 40, .inl pb)), (msv, .inl (cJ, 40, .inr (.inl pv))), (mkb, .inl (cI, 2000, .inl kq))]) (rw_Qv (S := Int32 × Nat × (Nat → Int32) × (Nat → Int32) × (Nat → Int32) × (Nat → Int64)) D cI cJ cZ sz [(m0, .inr (4, [.int th, .ref mk, .ref mr, .ref mn, .ref mv, .ref ms, .int (nI n), .int (nI r), .int co, .ref mtk, .ref mtw, .ref mtr, .ref mtv, .int (nI tz), .ref msk, .ref mss, .ref msv, .int (nI zz), .int (nI zn), .ref mkb])), (mk, .inl (cI, 2040, .inl ek)), (mr, .inl (cI, 2040, .inl er)), (mn, .inl (cI, 2040, .inl en)), (mv, .inl (cJ, 2040, .inr (.inl ev))), (ms, .inl (cZ, 2040, .inl es)), (mtk, .inl (cI, 20, .inl ta)), (mtw, .inl (cI, 20, .inl tv)), (mtr, .inl (cI, 20, .inl tq)), (mtv, .inl (cJ, 20, .inr (.inl tl))), (msk, .inl (cI, 40, .inl pk)), (mss, .inl (cZ, 40, .inl pb)), (msv, .inl (cJ, 40, .inr (.inl pv))), (mkb, .inl (cI, 2000, .inl kq))] (fun u => [(m0, .inr (4, [.int u.1, .ref mk, .ref mr, .ref mn, .ref mv, .ref ms, .int (nI n), .int (nI r), .int co, .ref mtk, .ref mtw, .ref mtr, .ref mtv, .int (nI u.2.1), .ref msk, .ref mss, .ref msv, .int (nI zz), .int (nI zn), .ref mkb])), (mk, .inl (cI, 2040, .inl ek)), (mr, .inl (cI, 2040, .inl er)), (mn, .inl (cI, 2040, .inl en)), (mv, .inl (cJ, 2040, .inr (.inl ev))), (ms, .inl (cZ, 2040, .inl es)), (mtk, .inl (cI, 20, .inl u.2.2.1)), (mtw, .inl (cI, 20, .inl u.2.2.2.1)), (mtr, .inl (cI, 20, .inl u.2.2.2.2.1)), (mtv, .inl (cJ, 20, .inr (.inl u.2.2.2.2.2))), (msk, .inl (cI, 40, .inl pk)), (mss, .inl (cZ, 40, .inl pb)), (msv, .inl (cJ, 40, .inr (.inl pv))), (mkb, .inl (cI, 2000, .inl kq))]) (fun u => (badT w q ∧ u = (nI 1, tz, ta, tv, tq, tl)) ∨ (¬ badT w q ∧ tz = 20 ∧ u = (nI 2, tz, ta, tv, tq, tl)) ∨ (¬ badT w q ∧ tz < 20 ∧ u = (nI 0, tz + 1, upd ta tz key, upd tv tz w, upd tq tz q, vp_updL tl tz v)))) 0 0 (va_A [(m0, .inr (4, [.int th, .ref mk, .ref mr, .ref mn, .ref mv, .ref ms, .int (nI n), .int (nI r), .int co, .ref mtk, .ref mtw, .ref mtr, .ref mtv, .int (nI tz), .ref msk, .ref mss, .ref msv, .int (nI zz), .int (nI zn), .ref mkb])), (mk, .inl (cI, 2040, .inl ek)), (mr, .inl (cI, 2040, .inl er)), (mn, .inl (cI, 2040, .inl en)), (mv, .inl (cJ, 2040, .inr (.inl ev))), (ms, .inl (cZ, 2040, .inl es)), (mtk, .inl (cI, 20, .inl ta)), (mtw, .inl (cI, 20, .inl tv)), (mtr, .inl (cI, 20, .inl tq)), (mtv, .inl (cJ, 20, .inr (.inl tl))), (msk, .inl (cI, 40, .inl pk)), (mss, .inl (cZ, 40, .inl pb)), (msv, .inl (cJ, 40, .inr (.inl pv))), (mkb, .inl (cI, 2000, .inl kq))] sz) := by
  refine Met.ofW (cc := cX4_test) (maxL := 6) (ret := none) (by decide) rfl ?_
  intro p e s m args below meth c s₁ B hml hv
  obtain ⟨rfl, hsz, hP, hK, hD0⟩ := hv
  have hx := B.exec
  have hb := B.bytes
  have hr := B.returns
  have hts := atoms_spec (ws := (Cond.code yX4_test cX4_test 6 none :: wB)) B.pre
  have hown : s.vm.findClass RX4 = some m.cls := findClass_of_methodNamed B.named
  have hlocks := B.notSynchronized
  subst hsz
  have hD := hD0.self (sz := s.heap.size)
  obtain ⟨A, hAe⟩ : ∃ A, A = va_A [(m0, .inr (4, [.int th, .ref mk, .ref mr, .ref mn, .ref mv, .ref ms, .int (nI n), .int (nI r), .int co, .ref mtk, .ref mtw, .ref mtr, .ref mtv, .int (nI tz), .ref msk, .ref mss, .ref msv, .int (nI zz), .int (nI zn), .ref mkb])), (mk, .inl (cI, 2040, .inl ek)), (mr, .inl (cI, 2040, .inl er)), (mn, .inl (cI, 2040, .inl en)), (mv, .inl (cJ, 2040, .inr (.inl ev))), (ms, .inl (cZ, 2040, .inl es)), (mtk, .inl (cI, 20, .inl ta)), (mtw, .inl (cI, 20, .inl tv)), (mtr, .inl (cI, 20, .inl tq)), (mtv, .inl (cJ, 20, .inr (.inl tl))), (msk, .inl (cI, 40, .inl pk)), (mss, .inl (cZ, 40, .inl pb)), (msv, .inl (cJ, 40, .inr (.inl pv))), (mkb, .inl (cI, 2000, .inl kq))] s.heap.size := ⟨_, rfl⟩
  rw [← hAe] at hD
  have hA : ∀ q : Nat, s.heap.size ≤ q → A q := fun q h => by rw [hAe]; exact Or.inr h
  have hS : va_S A s.heap s.heap [] := va_S.rf
  have hl := lv_entry ([.ref m0, .int key, .int w, .int q, .long v]) (n := 6) (Nat.le_of_ble_eq_true rfl)
  rw [lg_entry_eq]
  generalize (lg_sl ([.ref m0, .int key, .int w, .int q, .long v]) ++ List.replicate (6 - (lg_sl ([.ref m0, .int key, .int w, .int q, .long v])).length) Slot.unset).toArray = ls at hl ⊢
  have hl : lv_has ls 6 [(0, .ref m0), (1, .int key), (2, .int w), (3, .int q), (4, .long v)] := hl
  refine lv_aload_n hx hb dX4_test_0 rfl (lv_at hl 0 rfl) ?_
  refine lv_iload_n hx hb dX4_test_1 rfl (lv_at hl 2 rfl) ?_
  refine lv_if_lt (tgt := 20) hx hb dX4_test_2 (by decide) (fun c_2 => ?_) (fun c_2 => ?_)
  · skip
    refine lv_iconst (v := nI 1) hx hb dX4_test_20 (by decide) ?_
    refine lv_goto (tgt := 38) hx hb dX4_test_21 (by decide) ?_
    refine va_put (D := D) (ci := 4) (v := .int (nI 1)) (ty := .int) (C := RX4) (T := TX4) (N := 20) hx hb hts mu_X4 tyX4 tyX4_ok nmX4 hown hK hP hD hS 0 rfl rfl 0 (by decide) (hts _ (List.mem_cons_of_mem _ mw_434)) (fun _ h9 => h9) rfl (by decide +kernel) rfl rfl (Nat.le_of_ble_eq_true rfl) dX4_test_38 (fun H locs hP hD hS => ?_)
    have hP : va_P D vwCl [(m0, .inr (4, [.int (nI 1), .ref mk, .ref mr, .ref mn, .ref mv, .ref ms, .int (nI n), .int (nI r), .int co, .ref mtk, .ref mtw, .ref mtr, .ref mtv, .int (nI tz), .ref msk, .ref mss, .ref msv, .int (nI zz), .int (nI zn), .ref mkb])), (mk, .inl (cI, 2040, .inl ek)), (mr, .inl (cI, 2040, .inl er)), (mn, .inl (cI, 2040, .inl en)), (mv, .inl (cJ, 2040, .inr (.inl ev))), (ms, .inl (cZ, 2040, .inl es)), (mtk, .inl (cI, 20, .inl ta)), (mtw, .inl (cI, 20, .inl tv)), (mtr, .inl (cI, 20, .inl tq)), (mtv, .inl (cJ, 20, .inr (.inl tl))), (msk, .inl (cI, 40, .inl pk)), (mss, .inl (cZ, 40, .inl pb)), (msv, .inl (cJ, 40, .inr (.inl pv))), (mkb, .inl (cI, 2000, .inl kq))] H := hP
    have hD : va_D A [(m0, .inr (4, [.int (nI 1), .ref mk, .ref mr, .ref mn, .ref mv, .ref ms, .int (nI n), .int (nI r), .int co, .ref mtk, .ref mtw, .ref mtr, .ref mtv, .int (nI tz), .ref msk, .ref mss, .ref msv, .int (nI zz), .int (nI zn), .ref mkb])), (mk, .inl (cI, 2040, .inl ek)), (mr, .inl (cI, 2040, .inl er)), (mn, .inl (cI, 2040, .inl en)), (mv, .inl (cJ, 2040, .inr (.inl ev))), (ms, .inl (cZ, 2040, .inl es)), (mtk, .inl (cI, 20, .inl ta)), (mtw, .inl (cI, 20, .inl tv)), (mtr, .inl (cI, 20, .inl tq)), (mtv, .inl (cJ, 20, .inr (.inl tl))), (msk, .inl (cI, 40, .inl pk)), (mss, .inl (cZ, 40, .inl pb)), (msv, .inl (cJ, 40, .inr (.inl pv))), (mkb, .inl (cI, 2000, .inl kq))] := hD
    refine lv_aload_n hx hb dX4_test_41 rfl (lv_at hl 0 rfl) ?_
    refine va_get (D := D) (ci := 4) (v := .int (nI 1)) (C := RX4) (T := TX4) (N := 20) hx hb hts mu_X4 hown hK hP 0 rfl rfl 0 (by decide) (hts _ (List.mem_cons_of_mem _ mw_434)) (fun _ h9 => h9) rfl dX4_test_42 ?_
    refine lv_if_eq (tgt := 49) hx hb dX4_test_45 (by decide) (fun c => absurd c (by decide)) (fun _ => ?_)
    exact rw_retv (u := ((nI 1), tz, ta, tv, tq, tl)) hAe (hP) (hD) hS hK (Or.inl ⟨by first | exact Or.inl c_2 | exact Or.inr (Or.inl c_7) | exact Or.inr (Or.inr (Or.inl c_12)) | exact Or.inr (Or.inr (Or.inr (i_nle c_17))), rfl⟩) (Nat.le_of_ble_eq_true rfl) (Nat.le_of_ble_eq_true rfl) hx hb hr hlocks dX4_test_48
  · skip
    refine lv_iload_n hx hb dX4_test_5 rfl (lv_at hl 2 rfl) ?_
    refine lv_iconst (v := nI 3) hx hb dX4_test_6 (by decide) ?_
    refine lv_icmp_gt (tgt := 20) hx hb dX4_test_7 (by decide) (fun c_7 => ?_) (fun c_7 => ?_)
    · skip
      refine lv_iconst (v := nI 1) hx hb dX4_test_20 (by decide) ?_
      refine lv_goto (tgt := 38) hx hb dX4_test_21 (by decide) ?_
      refine va_put (D := D) (ci := 4) (v := .int (nI 1)) (ty := .int) (C := RX4) (T := TX4) (N := 20) hx hb hts mu_X4 tyX4 tyX4_ok nmX4 hown hK hP hD hS 0 rfl rfl 0 (by decide) (hts _ (List.mem_cons_of_mem _ mw_434)) (fun _ h9 => h9) rfl (by decide +kernel) rfl rfl (Nat.le_of_ble_eq_true rfl) dX4_test_38 (fun H locs hP hD hS => ?_)
      have hP : va_P D vwCl [(m0, .inr (4, [.int (nI 1), .ref mk, .ref mr, .ref mn, .ref mv, .ref ms, .int (nI n), .int (nI r), .int co, .ref mtk, .ref mtw, .ref mtr, .ref mtv, .int (nI tz), .ref msk, .ref mss, .ref msv, .int (nI zz), .int (nI zn), .ref mkb])), (mk, .inl (cI, 2040, .inl ek)), (mr, .inl (cI, 2040, .inl er)), (mn, .inl (cI, 2040, .inl en)), (mv, .inl (cJ, 2040, .inr (.inl ev))), (ms, .inl (cZ, 2040, .inl es)), (mtk, .inl (cI, 20, .inl ta)), (mtw, .inl (cI, 20, .inl tv)), (mtr, .inl (cI, 20, .inl tq)), (mtv, .inl (cJ, 20, .inr (.inl tl))), (msk, .inl (cI, 40, .inl pk)), (mss, .inl (cZ, 40, .inl pb)), (msv, .inl (cJ, 40, .inr (.inl pv))), (mkb, .inl (cI, 2000, .inl kq))] H := hP
      have hD : va_D A [(m0, .inr (4, [.int (nI 1), .ref mk, .ref mr, .ref mn, .ref mv, .ref ms, .int (nI n), .int (nI r), .int co, .ref mtk, .ref mtw, .ref mtr, .ref mtv, .int (nI tz), .ref msk, .ref mss, .ref msv, .int (nI zz), .int (nI zn), .ref mkb])), (mk, .inl (cI, 2040, .inl ek)), (mr, .inl (cI, 2040, .inl er)), (mn, .inl (cI, 2040, .inl en)), (mv, .inl (cJ, 2040, .inr (.inl ev))), (ms, .inl (cZ, 2040, .inl es)), (mtk, .inl (cI, 20, .inl ta)), (mtw, .inl (cI, 20, .inl tv)), (mtr, .inl (cI, 20, .inl tq)), (mtv, .inl (cJ, 20, .inr (.inl tl))), (msk, .inl (cI, 40, .inl pk)), (mss, .inl (cZ, 40, .inl pb)), (msv, .inl (cJ, 40, .inr (.inl pv))), (mkb, .inl (cI, 2000, .inl kq))] := hD
      refine lv_aload_n hx hb dX4_test_41 rfl (lv_at hl 0 rfl) ?_
      refine va_get (D := D) (ci := 4) (v := .int (nI 1)) (C := RX4) (T := TX4) (N := 20) hx hb hts mu_X4 hown hK hP 0 rfl rfl 0 (by decide) (hts _ (List.mem_cons_of_mem _ mw_434)) (fun _ h9 => h9) rfl dX4_test_42 ?_
      refine lv_if_eq (tgt := 49) hx hb dX4_test_45 (by decide) (fun c => absurd c (by decide)) (fun _ => ?_)
      exact rw_retv (u := ((nI 1), tz, ta, tv, tq, tl)) hAe (hP) (hD) hS hK (Or.inl ⟨by first | exact Or.inl c_2 | exact Or.inr (Or.inl c_7) | exact Or.inr (Or.inr (Or.inl c_12)) | exact Or.inr (Or.inr (Or.inr (i_nle c_17))), rfl⟩) (Nat.le_of_ble_eq_true rfl) (Nat.le_of_ble_eq_true rfl) hx hb hr hlocks dX4_test_48
    · skip
      refine lv_iload_n hx hb dX4_test_10 rfl (lv_at hl 3 rfl) ?_
      refine lv_iconst (v := -1) hx hb dX4_test_11 (by decide) ?_
      refine lv_icmp_lt (tgt := 20) hx hb dX4_test_12 (by decide) (fun c_12 => ?_) (fun c_12 => ?_)
      · skip
        refine lv_iconst (v := nI 1) hx hb dX4_test_20 (by decide) ?_
        refine lv_goto (tgt := 38) hx hb dX4_test_21 (by decide) ?_
        refine va_put (D := D) (ci := 4) (v := .int (nI 1)) (ty := .int) (C := RX4) (T := TX4) (N := 20) hx hb hts mu_X4 tyX4 tyX4_ok nmX4 hown hK hP hD hS 0 rfl rfl 0 (by decide) (hts _ (List.mem_cons_of_mem _ mw_434)) (fun _ h9 => h9) rfl (by decide +kernel) rfl rfl (Nat.le_of_ble_eq_true rfl) dX4_test_38 (fun H locs hP hD hS => ?_)
        have hP : va_P D vwCl [(m0, .inr (4, [.int (nI 1), .ref mk, .ref mr, .ref mn, .ref mv, .ref ms, .int (nI n), .int (nI r), .int co, .ref mtk, .ref mtw, .ref mtr, .ref mtv, .int (nI tz), .ref msk, .ref mss, .ref msv, .int (nI zz), .int (nI zn), .ref mkb])), (mk, .inl (cI, 2040, .inl ek)), (mr, .inl (cI, 2040, .inl er)), (mn, .inl (cI, 2040, .inl en)), (mv, .inl (cJ, 2040, .inr (.inl ev))), (ms, .inl (cZ, 2040, .inl es)), (mtk, .inl (cI, 20, .inl ta)), (mtw, .inl (cI, 20, .inl tv)), (mtr, .inl (cI, 20, .inl tq)), (mtv, .inl (cJ, 20, .inr (.inl tl))), (msk, .inl (cI, 40, .inl pk)), (mss, .inl (cZ, 40, .inl pb)), (msv, .inl (cJ, 40, .inr (.inl pv))), (mkb, .inl (cI, 2000, .inl kq))] H := hP
        have hD : va_D A [(m0, .inr (4, [.int (nI 1), .ref mk, .ref mr, .ref mn, .ref mv, .ref ms, .int (nI n), .int (nI r), .int co, .ref mtk, .ref mtw, .ref mtr, .ref mtv, .int (nI tz), .ref msk, .ref mss, .ref msv, .int (nI zz), .int (nI zn), .ref mkb])), (mk, .inl (cI, 2040, .inl ek)), (mr, .inl (cI, 2040, .inl er)), (mn, .inl (cI, 2040, .inl en)), (mv, .inl (cJ, 2040, .inr (.inl ev))), (ms, .inl (cZ, 2040, .inl es)), (mtk, .inl (cI, 20, .inl ta)), (mtw, .inl (cI, 20, .inl tv)), (mtr, .inl (cI, 20, .inl tq)), (mtv, .inl (cJ, 20, .inr (.inl tl))), (msk, .inl (cI, 40, .inl pk)), (mss, .inl (cZ, 40, .inl pb)), (msv, .inl (cJ, 40, .inr (.inl pv))), (mkb, .inl (cI, 2000, .inl kq))] := hD
        refine lv_aload_n hx hb dX4_test_41 rfl (lv_at hl 0 rfl) ?_
        refine va_get (D := D) (ci := 4) (v := .int (nI 1)) (C := RX4) (T := TX4) (N := 20) hx hb hts mu_X4 hown hK hP 0 rfl rfl 0 (by decide) (hts _ (List.mem_cons_of_mem _ mw_434)) (fun _ h9 => h9) rfl dX4_test_42 ?_
        refine lv_if_eq (tgt := 49) hx hb dX4_test_45 (by decide) (fun c => absurd c (by decide)) (fun _ => ?_)
        exact rw_retv (u := ((nI 1), tz, ta, tv, tq, tl)) hAe (hP) (hD) hS hK (Or.inl ⟨by first | exact Or.inl c_2 | exact Or.inr (Or.inl c_7) | exact Or.inr (Or.inr (Or.inl c_12)) | exact Or.inr (Or.inr (Or.inr (i_nle c_17))), rfl⟩) (Nat.le_of_ble_eq_true rfl) (Nat.le_of_ble_eq_true rfl) hx hb hr hlocks dX4_test_48
      · skip
        refine lv_iload_n hx hb dX4_test_15 rfl (lv_at hl 3 rfl) ?_
        refine lv_iconst (v := nI 1) hx hb dX4_test_16 (by decide) ?_
        refine lv_icmp_le (tgt := 24) hx hb dX4_test_17 (by decide) (fun c_17 => ?_) (fun c_17 => ?_)
        · skip
          refine lv_aload_n hx hb dX4_test_24 rfl (lv_at hl 0 rfl) ?_
          refine va_get (D := D) (ci := 4) (v := .int (nI tz)) (C := RX4) (T := TX4) (N := 20) hx hb hts mu_X4 hown hK hP 0 rfl rfl 13 (by decide) (hts _ (List.mem_cons_of_mem _ mw_447)) (fun _ h9 => h9) rfl dX4_test_25 ?_
          refine lv_bipush (v := nI 20) hx hb dX4_test_28 (by decide) ?_
          refine lv_icmp_ne (tgt := 37) hx hb dX4_test_30 (by decide) (fun c_30 => ?_) (fun c_30 => ?_)
          · have c_30 := mt (nI_eq (by omega) (by omega)).mpr c_30
            refine lv_iconst (v := nI 0) hx hb dX4_test_37 (by decide) ?_
            refine va_put (D := D) (ci := 4) (v := .int (nI 0)) (ty := .int) (C := RX4) (T := TX4) (N := 20) hx hb hts mu_X4 tyX4 tyX4_ok nmX4 hown hK hP hD hS 0 rfl rfl 0 (by decide) (hts _ (List.mem_cons_of_mem _ mw_434)) (fun _ h9 => h9) rfl (by decide +kernel) rfl rfl (Nat.le_of_ble_eq_true rfl) dX4_test_38 (fun H locs hP hD hS => ?_)
            have hP : va_P D vwCl [(m0, .inr (4, [.int (nI 0), .ref mk, .ref mr, .ref mn, .ref mv, .ref ms, .int (nI n), .int (nI r), .int co, .ref mtk, .ref mtw, .ref mtr, .ref mtv, .int (nI tz), .ref msk, .ref mss, .ref msv, .int (nI zz), .int (nI zn), .ref mkb])), (mk, .inl (cI, 2040, .inl ek)), (mr, .inl (cI, 2040, .inl er)), (mn, .inl (cI, 2040, .inl en)), (mv, .inl (cJ, 2040, .inr (.inl ev))), (ms, .inl (cZ, 2040, .inl es)), (mtk, .inl (cI, 20, .inl ta)), (mtw, .inl (cI, 20, .inl tv)), (mtr, .inl (cI, 20, .inl tq)), (mtv, .inl (cJ, 20, .inr (.inl tl))), (msk, .inl (cI, 40, .inl pk)), (mss, .inl (cZ, 40, .inl pb)), (msv, .inl (cJ, 40, .inr (.inl pv))), (mkb, .inl (cI, 2000, .inl kq))] H := hP
            have hD : va_D A [(m0, .inr (4, [.int (nI 0), .ref mk, .ref mr, .ref mn, .ref mv, .ref ms, .int (nI n), .int (nI r), .int co, .ref mtk, .ref mtw, .ref mtr, .ref mtv, .int (nI tz), .ref msk, .ref mss, .ref msv, .int (nI zz), .int (nI zn), .ref mkb])), (mk, .inl (cI, 2040, .inl ek)), (mr, .inl (cI, 2040, .inl er)), (mn, .inl (cI, 2040, .inl en)), (mv, .inl (cJ, 2040, .inr (.inl ev))), (ms, .inl (cZ, 2040, .inl es)), (mtk, .inl (cI, 20, .inl ta)), (mtw, .inl (cI, 20, .inl tv)), (mtr, .inl (cI, 20, .inl tq)), (mtv, .inl (cJ, 20, .inr (.inl tl))), (msk, .inl (cI, 40, .inl pk)), (mss, .inl (cZ, 40, .inl pb)), (msv, .inl (cJ, 40, .inr (.inl pv))), (mkb, .inl (cI, 2000, .inl kq))] := hD
            refine lv_aload_n hx hb dX4_test_41 rfl (lv_at hl 0 rfl) ?_
            refine va_get (D := D) (ci := 4) (v := .int (nI 0)) (C := RX4) (T := TX4) (N := 20) hx hb hts mu_X4 hown hK hP 0 rfl rfl 0 (by decide) (hts _ (List.mem_cons_of_mem _ mw_434)) (fun _ h9 => h9) rfl dX4_test_42 ?_
            refine lv_if_eq (tgt := 49) hx hb dX4_test_45 (by decide) (fun _ => ?_) (fun c => absurd (by decide) c)
            refine lv_aload_n hx hb dX4_test_49 rfl (lv_at hl 0 rfl) ?_
            refine va_get (D := D) (ci := 4) (v := .ref mtk) (C := RX4) (T := TX4) (N := 20) hx hb hts mu_X4 hown hK hP 0 rfl rfl 9 (by decide) (hts _ (List.mem_cons_of_mem _ mw_443)) (fun _ h9 => h9) rfl dX4_test_50 ?_
            refine lv_aload_n hx hb dX4_test_53 rfl (lv_at hl 0 rfl) ?_
            refine va_get (D := D) (ci := 4) (v := .int (nI tz)) (C := RX4) (T := TX4) (N := 20) hx hb hts mu_X4 hown hK hP 0 rfl rfl 13 (by decide) (hts _ (List.mem_cons_of_mem _ mw_447)) (fun _ h9 => h9) rfl dX4_test_54 ?_
            refine lv_iload_n hx hb dX4_test_57 rfl (lv_at hl 1 rfl) ?_
            refine rk_iast hx hb hK hP hD hS 6 0 rfl rfl (i := tz) (by omega) (by decide) dX4_test_58 (fun H locs hP hD hS => ?_)
            have hP : va_P D vwCl [(m0, .inr (4, [.int (nI 0), .ref mk, .ref mr, .ref mn, .ref mv, .ref ms, .int (nI n), .int (nI r), .int co, .ref mtk, .ref mtw, .ref mtr, .ref mtv, .int (nI tz), .ref msk, .ref mss, .ref msv, .int (nI zz), .int (nI zn), .ref mkb])), (mk, .inl (cI, 2040, .inl ek)), (mr, .inl (cI, 2040, .inl er)), (mn, .inl (cI, 2040, .inl en)), (mv, .inl (cJ, 2040, .inr (.inl ev))), (ms, .inl (cZ, 2040, .inl es)), (mtk, .inl (cI, 20, .inl (upd ta tz key))), (mtw, .inl (cI, 20, .inl tv)), (mtr, .inl (cI, 20, .inl tq)), (mtv, .inl (cJ, 20, .inr (.inl tl))), (msk, .inl (cI, 40, .inl pk)), (mss, .inl (cZ, 40, .inl pb)), (msv, .inl (cJ, 40, .inr (.inl pv))), (mkb, .inl (cI, 2000, .inl kq))] H := hP
            have hD : va_D A [(m0, .inr (4, [.int (nI 0), .ref mk, .ref mr, .ref mn, .ref mv, .ref ms, .int (nI n), .int (nI r), .int co, .ref mtk, .ref mtw, .ref mtr, .ref mtv, .int (nI tz), .ref msk, .ref mss, .ref msv, .int (nI zz), .int (nI zn), .ref mkb])), (mk, .inl (cI, 2040, .inl ek)), (mr, .inl (cI, 2040, .inl er)), (mn, .inl (cI, 2040, .inl en)), (mv, .inl (cJ, 2040, .inr (.inl ev))), (ms, .inl (cZ, 2040, .inl es)), (mtk, .inl (cI, 20, .inl (upd ta tz key))), (mtw, .inl (cI, 20, .inl tv)), (mtr, .inl (cI, 20, .inl tq)), (mtv, .inl (cJ, 20, .inr (.inl tl))), (msk, .inl (cI, 40, .inl pk)), (mss, .inl (cZ, 40, .inl pb)), (msv, .inl (cJ, 40, .inr (.inl pv))), (mkb, .inl (cI, 2000, .inl kq))] := hD
            refine lv_aload_n hx hb dX4_test_59 rfl (lv_at hl 0 rfl) ?_
            refine va_get (D := D) (ci := 4) (v := .ref mtw) (C := RX4) (T := TX4) (N := 20) hx hb hts mu_X4 hown hK hP 0 rfl rfl 10 (by decide) (hts _ (List.mem_cons_of_mem _ mw_444)) (fun _ h9 => h9) rfl dX4_test_60 ?_
            refine lv_aload_n hx hb dX4_test_63 rfl (lv_at hl 0 rfl) ?_
            refine va_get (D := D) (ci := 4) (v := .int (nI tz)) (C := RX4) (T := TX4) (N := 20) hx hb hts mu_X4 hown hK hP 0 rfl rfl 13 (by decide) (hts _ (List.mem_cons_of_mem _ mw_447)) (fun _ h9 => h9) rfl dX4_test_64 ?_
            refine lv_iload_n hx hb dX4_test_67 rfl (lv_at hl 2 rfl) ?_
            refine rk_iast hx hb hK hP hD hS 7 0 rfl rfl (i := tz) (by omega) (by decide) dX4_test_68 (fun H locs hP hD hS => ?_)
            have hP : va_P D vwCl [(m0, .inr (4, [.int (nI 0), .ref mk, .ref mr, .ref mn, .ref mv, .ref ms, .int (nI n), .int (nI r), .int co, .ref mtk, .ref mtw, .ref mtr, .ref mtv, .int (nI tz), .ref msk, .ref mss, .ref msv, .int (nI zz), .int (nI zn), .ref mkb])), (mk, .inl (cI, 2040, .inl ek)), (mr, .inl (cI, 2040, .inl er)), (mn, .inl (cI, 2040, .inl en)), (mv, .inl (cJ, 2040, .inr (.inl ev))), (ms, .inl (cZ, 2040, .inl es)), (mtk, .inl (cI, 20, .inl (upd ta tz key))), (mtw, .inl (cI, 20, .inl (upd tv tz w))), (mtr, .inl (cI, 20, .inl tq)), (mtv, .inl (cJ, 20, .inr (.inl tl))), (msk, .inl (cI, 40, .inl pk)), (mss, .inl (cZ, 40, .inl pb)), (msv, .inl (cJ, 40, .inr (.inl pv))), (mkb, .inl (cI, 2000, .inl kq))] H := hP
            have hD : va_D A [(m0, .inr (4, [.int (nI 0), .ref mk, .ref mr, .ref mn, .ref mv, .ref ms, .int (nI n), .int (nI r), .int co, .ref mtk, .ref mtw, .ref mtr, .ref mtv, .int (nI tz), .ref msk, .ref mss, .ref msv, .int (nI zz), .int (nI zn), .ref mkb])), (mk, .inl (cI, 2040, .inl ek)), (mr, .inl (cI, 2040, .inl er)), (mn, .inl (cI, 2040, .inl en)), (mv, .inl (cJ, 2040, .inr (.inl ev))), (ms, .inl (cZ, 2040, .inl es)), (mtk, .inl (cI, 20, .inl (upd ta tz key))), (mtw, .inl (cI, 20, .inl (upd tv tz w))), (mtr, .inl (cI, 20, .inl tq)), (mtv, .inl (cJ, 20, .inr (.inl tl))), (msk, .inl (cI, 40, .inl pk)), (mss, .inl (cZ, 40, .inl pb)), (msv, .inl (cJ, 40, .inr (.inl pv))), (mkb, .inl (cI, 2000, .inl kq))] := hD
            refine lv_aload_n hx hb dX4_test_69 rfl (lv_at hl 0 rfl) ?_
            refine va_get (D := D) (ci := 4) (v := .ref mtr) (C := RX4) (T := TX4) (N := 20) hx hb hts mu_X4 hown hK hP 0 rfl rfl 11 (by decide) (hts _ (List.mem_cons_of_mem _ mw_445)) (fun _ h9 => h9) rfl dX4_test_70 ?_
            refine lv_aload_n hx hb dX4_test_73 rfl (lv_at hl 0 rfl) ?_
            refine va_get (D := D) (ci := 4) (v := .int (nI tz)) (C := RX4) (T := TX4) (N := 20) hx hb hts mu_X4 hown hK hP 0 rfl rfl 13 (by decide) (hts _ (List.mem_cons_of_mem _ mw_447)) (fun _ h9 => h9) rfl dX4_test_74 ?_
            refine lv_iload_n hx hb dX4_test_77 rfl (lv_at hl 3 rfl) ?_
            refine rk_iast hx hb hK hP hD hS 8 0 rfl rfl (i := tz) (by omega) (by decide) dX4_test_78 (fun H locs hP hD hS => ?_)
            have hP : va_P D vwCl [(m0, .inr (4, [.int (nI 0), .ref mk, .ref mr, .ref mn, .ref mv, .ref ms, .int (nI n), .int (nI r), .int co, .ref mtk, .ref mtw, .ref mtr, .ref mtv, .int (nI tz), .ref msk, .ref mss, .ref msv, .int (nI zz), .int (nI zn), .ref mkb])), (mk, .inl (cI, 2040, .inl ek)), (mr, .inl (cI, 2040, .inl er)), (mn, .inl (cI, 2040, .inl en)), (mv, .inl (cJ, 2040, .inr (.inl ev))), (ms, .inl (cZ, 2040, .inl es)), (mtk, .inl (cI, 20, .inl (upd ta tz key))), (mtw, .inl (cI, 20, .inl (upd tv tz w))), (mtr, .inl (cI, 20, .inl (upd tq tz q))), (mtv, .inl (cJ, 20, .inr (.inl tl))), (msk, .inl (cI, 40, .inl pk)), (mss, .inl (cZ, 40, .inl pb)), (msv, .inl (cJ, 40, .inr (.inl pv))), (mkb, .inl (cI, 2000, .inl kq))] H := hP
            have hD : va_D A [(m0, .inr (4, [.int (nI 0), .ref mk, .ref mr, .ref mn, .ref mv, .ref ms, .int (nI n), .int (nI r), .int co, .ref mtk, .ref mtw, .ref mtr, .ref mtv, .int (nI tz), .ref msk, .ref mss, .ref msv, .int (nI zz), .int (nI zn), .ref mkb])), (mk, .inl (cI, 2040, .inl ek)), (mr, .inl (cI, 2040, .inl er)), (mn, .inl (cI, 2040, .inl en)), (mv, .inl (cJ, 2040, .inr (.inl ev))), (ms, .inl (cZ, 2040, .inl es)), (mtk, .inl (cI, 20, .inl (upd ta tz key))), (mtw, .inl (cI, 20, .inl (upd tv tz w))), (mtr, .inl (cI, 20, .inl (upd tq tz q))), (mtv, .inl (cJ, 20, .inr (.inl tl))), (msk, .inl (cI, 40, .inl pk)), (mss, .inl (cZ, 40, .inl pb)), (msv, .inl (cJ, 40, .inr (.inl pv))), (mkb, .inl (cI, 2000, .inl kq))] := hD
            refine lv_aload_n hx hb dX4_test_79 rfl (lv_at hl 0 rfl) ?_
            refine va_get (D := D) (ci := 4) (v := .ref mtv) (C := RX4) (T := TX4) (N := 20) hx hb hts mu_X4 hown hK hP 0 rfl rfl 12 (by decide) (hts _ (List.mem_cons_of_mem _ mw_446)) (fun _ h9 => h9) rfl dX4_test_80 ?_
            refine lv_aload_n hx hb dX4_test_83 rfl (lv_at hl 0 rfl) ?_
            refine va_get (D := D) (ci := 4) (v := .int (nI tz)) (C := RX4) (T := TX4) (N := 20) hx hb hts mu_X4 hown hK hP 0 rfl rfl 13 (by decide) (hts _ (List.mem_cons_of_mem _ mw_447)) (fun _ h9 => h9) rfl dX4_test_84 ?_
            refine lv_lload hx hb dX4_test_87 (lv_at hl 4 rfl) ?_
            refine rk_last hx hb hK hP hD hS 9 1 rfl rfl (i := tz) (by omega) (by decide) dX4_test_89 (fun H locs hP hD hS => ?_)
            have hP : va_P D vwCl [(m0, .inr (4, [.int (nI 0), .ref mk, .ref mr, .ref mn, .ref mv, .ref ms, .int (nI n), .int (nI r), .int co, .ref mtk, .ref mtw, .ref mtr, .ref mtv, .int (nI tz), .ref msk, .ref mss, .ref msv, .int (nI zz), .int (nI zn), .ref mkb])), (mk, .inl (cI, 2040, .inl ek)), (mr, .inl (cI, 2040, .inl er)), (mn, .inl (cI, 2040, .inl en)), (mv, .inl (cJ, 2040, .inr (.inl ev))), (ms, .inl (cZ, 2040, .inl es)), (mtk, .inl (cI, 20, .inl (upd ta tz key))), (mtw, .inl (cI, 20, .inl (upd tv tz w))), (mtr, .inl (cI, 20, .inl (upd tq tz q))), (mtv, .inl (cJ, 20, .inr (.inl (vp_updL tl tz v)))), (msk, .inl (cI, 40, .inl pk)), (mss, .inl (cZ, 40, .inl pb)), (msv, .inl (cJ, 40, .inr (.inl pv))), (mkb, .inl (cI, 2000, .inl kq))] H := hP
            have hD : va_D A [(m0, .inr (4, [.int (nI 0), .ref mk, .ref mr, .ref mn, .ref mv, .ref ms, .int (nI n), .int (nI r), .int co, .ref mtk, .ref mtw, .ref mtr, .ref mtv, .int (nI tz), .ref msk, .ref mss, .ref msv, .int (nI zz), .int (nI zn), .ref mkb])), (mk, .inl (cI, 2040, .inl ek)), (mr, .inl (cI, 2040, .inl er)), (mn, .inl (cI, 2040, .inl en)), (mv, .inl (cJ, 2040, .inr (.inl ev))), (ms, .inl (cZ, 2040, .inl es)), (mtk, .inl (cI, 20, .inl (upd ta tz key))), (mtw, .inl (cI, 20, .inl (upd tv tz w))), (mtr, .inl (cI, 20, .inl (upd tq tz q))), (mtv, .inl (cJ, 20, .inr (.inl (vp_updL tl tz v)))), (msk, .inl (cI, 40, .inl pk)), (mss, .inl (cZ, 40, .inl pb)), (msv, .inl (cJ, 40, .inr (.inl pv))), (mkb, .inl (cI, 2000, .inl kq))] := hD
            refine lv_aload_n hx hb dX4_test_90 rfl (lv_at hl 0 rfl) ?_
            refine lv_dup hx hb dX4_test_91 rfl ?_
            refine va_get (D := D) (ci := 4) (v := .int (nI tz)) (C := RX4) (T := TX4) (N := 20) hx hb hts mu_X4 hown hK hP 0 rfl rfl 13 (by decide) (hts _ (List.mem_cons_of_mem _ mw_447)) (fun _ h9 => h9) rfl dX4_test_92 ?_
            refine lv_iconst (v := nI 1) hx hb dX4_test_95 (by decide) ?_
            refine rk_iadd hx hb dX4_test_96 ?_
            refine va_put (D := D) (ci := 4) (v := .int (nI (tz + 1))) (ty := .int) (C := RX4) (T := TX4) (N := 20) hx hb hts mu_X4 tyX4 tyX4_ok nmX4 hown hK hP hD hS 0 rfl rfl 13 (by decide) (hts _ (List.mem_cons_of_mem _ mw_447)) (fun _ h9 => h9) rfl (by decide +kernel) rfl rfl (Nat.le_of_ble_eq_true rfl) dX4_test_97 (fun H locs hP hD hS => ?_)
            have hP : va_P D vwCl [(m0, .inr (4, [.int (nI 0), .ref mk, .ref mr, .ref mn, .ref mv, .ref ms, .int (nI n), .int (nI r), .int co, .ref mtk, .ref mtw, .ref mtr, .ref mtv, .int (nI (tz + 1)), .ref msk, .ref mss, .ref msv, .int (nI zz), .int (nI zn), .ref mkb])), (mk, .inl (cI, 2040, .inl ek)), (mr, .inl (cI, 2040, .inl er)), (mn, .inl (cI, 2040, .inl en)), (mv, .inl (cJ, 2040, .inr (.inl ev))), (ms, .inl (cZ, 2040, .inl es)), (mtk, .inl (cI, 20, .inl (upd ta tz key))), (mtw, .inl (cI, 20, .inl (upd tv tz w))), (mtr, .inl (cI, 20, .inl (upd tq tz q))), (mtv, .inl (cJ, 20, .inr (.inl (vp_updL tl tz v)))), (msk, .inl (cI, 40, .inl pk)), (mss, .inl (cZ, 40, .inl pb)), (msv, .inl (cJ, 40, .inr (.inl pv))), (mkb, .inl (cI, 2000, .inl kq))] H := hP
            have hD : va_D A [(m0, .inr (4, [.int (nI 0), .ref mk, .ref mr, .ref mn, .ref mv, .ref ms, .int (nI n), .int (nI r), .int co, .ref mtk, .ref mtw, .ref mtr, .ref mtv, .int (nI (tz + 1)), .ref msk, .ref mss, .ref msv, .int (nI zz), .int (nI zn), .ref mkb])), (mk, .inl (cI, 2040, .inl ek)), (mr, .inl (cI, 2040, .inl er)), (mn, .inl (cI, 2040, .inl en)), (mv, .inl (cJ, 2040, .inr (.inl ev))), (ms, .inl (cZ, 2040, .inl es)), (mtk, .inl (cI, 20, .inl (upd ta tz key))), (mtw, .inl (cI, 20, .inl (upd tv tz w))), (mtr, .inl (cI, 20, .inl (upd tq tz q))), (mtv, .inl (cJ, 20, .inr (.inl (vp_updL tl tz v)))), (msk, .inl (cI, 40, .inl pk)), (mss, .inl (cZ, 40, .inl pb)), (msv, .inl (cJ, 40, .inr (.inl pv))), (mkb, .inl (cI, 2000, .inl kq))] := hD
            exact rw_retv (u := ((nI 0), (tz + 1), (upd ta tz key), (upd tv tz w), (upd tq tz q), (vp_updL tl tz v))) hAe (hP) (hD) hS hK (Or.inr (Or.inr ⟨(fun z => by rcases z with z | z | z | z; exact c_2 z; exact c_7 z; exact c_12 z; exact i_ltn z c_17), by omega, rfl⟩)) (Nat.le_of_ble_eq_true rfl) (Nat.le_of_ble_eq_true rfl) hx hb hr hlocks dX4_test_100
          · have c_30 := (nI_eq (by omega) (by omega)).mp c_30
            refine lv_iconst (v := nI 2) hx hb dX4_test_33 (by decide) ?_
            refine lv_goto (tgt := 38) hx hb dX4_test_34 (by decide) ?_
            refine va_put (D := D) (ci := 4) (v := .int (nI 2)) (ty := .int) (C := RX4) (T := TX4) (N := 20) hx hb hts mu_X4 tyX4 tyX4_ok nmX4 hown hK hP hD hS 0 rfl rfl 0 (by decide) (hts _ (List.mem_cons_of_mem _ mw_434)) (fun _ h9 => h9) rfl (by decide +kernel) rfl rfl (Nat.le_of_ble_eq_true rfl) dX4_test_38 (fun H locs hP hD hS => ?_)
            have hP : va_P D vwCl [(m0, .inr (4, [.int (nI 2), .ref mk, .ref mr, .ref mn, .ref mv, .ref ms, .int (nI n), .int (nI r), .int co, .ref mtk, .ref mtw, .ref mtr, .ref mtv, .int (nI tz), .ref msk, .ref mss, .ref msv, .int (nI zz), .int (nI zn), .ref mkb])), (mk, .inl (cI, 2040, .inl ek)), (mr, .inl (cI, 2040, .inl er)), (mn, .inl (cI, 2040, .inl en)), (mv, .inl (cJ, 2040, .inr (.inl ev))), (ms, .inl (cZ, 2040, .inl es)), (mtk, .inl (cI, 20, .inl ta)), (mtw, .inl (cI, 20, .inl tv)), (mtr, .inl (cI, 20, .inl tq)), (mtv, .inl (cJ, 20, .inr (.inl tl))), (msk, .inl (cI, 40, .inl pk)), (mss, .inl (cZ, 40, .inl pb)), (msv, .inl (cJ, 40, .inr (.inl pv))), (mkb, .inl (cI, 2000, .inl kq))] H := hP
            have hD : va_D A [(m0, .inr (4, [.int (nI 2), .ref mk, .ref mr, .ref mn, .ref mv, .ref ms, .int (nI n), .int (nI r), .int co, .ref mtk, .ref mtw, .ref mtr, .ref mtv, .int (nI tz), .ref msk, .ref mss, .ref msv, .int (nI zz), .int (nI zn), .ref mkb])), (mk, .inl (cI, 2040, .inl ek)), (mr, .inl (cI, 2040, .inl er)), (mn, .inl (cI, 2040, .inl en)), (mv, .inl (cJ, 2040, .inr (.inl ev))), (ms, .inl (cZ, 2040, .inl es)), (mtk, .inl (cI, 20, .inl ta)), (mtw, .inl (cI, 20, .inl tv)), (mtr, .inl (cI, 20, .inl tq)), (mtv, .inl (cJ, 20, .inr (.inl tl))), (msk, .inl (cI, 40, .inl pk)), (mss, .inl (cZ, 40, .inl pb)), (msv, .inl (cJ, 40, .inr (.inl pv))), (mkb, .inl (cI, 2000, .inl kq))] := hD
            refine lv_aload_n hx hb dX4_test_41 rfl (lv_at hl 0 rfl) ?_
            refine va_get (D := D) (ci := 4) (v := .int (nI 2)) (C := RX4) (T := TX4) (N := 20) hx hb hts mu_X4 hown hK hP 0 rfl rfl 0 (by decide) (hts _ (List.mem_cons_of_mem _ mw_434)) (fun _ h9 => h9) rfl dX4_test_42 ?_
            refine lv_if_eq (tgt := 49) hx hb dX4_test_45 (by decide) (fun c => absurd c (by decide)) (fun _ => ?_)
            exact rw_retv (u := ((nI 2), tz, ta, tv, tq, tl)) hAe (hP) (hD) hS hK (Or.inr (Or.inl ⟨(fun z => by rcases z with z | z | z | z; exact c_2 z; exact c_7 z; exact c_12 z; exact i_ltn z c_17), by omega, rfl⟩)) (Nat.le_of_ble_eq_true rfl) (Nat.le_of_ble_eq_true rfl) hx hb hr hlocks dX4_test_48
        · skip
          refine lv_iconst (v := nI 1) hx hb dX4_test_20 (by decide) ?_
          refine lv_goto (tgt := 38) hx hb dX4_test_21 (by decide) ?_
          refine va_put (D := D) (ci := 4) (v := .int (nI 1)) (ty := .int) (C := RX4) (T := TX4) (N := 20) hx hb hts mu_X4 tyX4 tyX4_ok nmX4 hown hK hP hD hS 0 rfl rfl 0 (by decide) (hts _ (List.mem_cons_of_mem _ mw_434)) (fun _ h9 => h9) rfl (by decide +kernel) rfl rfl (Nat.le_of_ble_eq_true rfl) dX4_test_38 (fun H locs hP hD hS => ?_)
          have hP : va_P D vwCl [(m0, .inr (4, [.int (nI 1), .ref mk, .ref mr, .ref mn, .ref mv, .ref ms, .int (nI n), .int (nI r), .int co, .ref mtk, .ref mtw, .ref mtr, .ref mtv, .int (nI tz), .ref msk, .ref mss, .ref msv, .int (nI zz), .int (nI zn), .ref mkb])), (mk, .inl (cI, 2040, .inl ek)), (mr, .inl (cI, 2040, .inl er)), (mn, .inl (cI, 2040, .inl en)), (mv, .inl (cJ, 2040, .inr (.inl ev))), (ms, .inl (cZ, 2040, .inl es)), (mtk, .inl (cI, 20, .inl ta)), (mtw, .inl (cI, 20, .inl tv)), (mtr, .inl (cI, 20, .inl tq)), (mtv, .inl (cJ, 20, .inr (.inl tl))), (msk, .inl (cI, 40, .inl pk)), (mss, .inl (cZ, 40, .inl pb)), (msv, .inl (cJ, 40, .inr (.inl pv))), (mkb, .inl (cI, 2000, .inl kq))] H := hP
          have hD : va_D A [(m0, .inr (4, [.int (nI 1), .ref mk, .ref mr, .ref mn, .ref mv, .ref ms, .int (nI n), .int (nI r), .int co, .ref mtk, .ref mtw, .ref mtr, .ref mtv, .int (nI tz), .ref msk, .ref mss, .ref msv, .int (nI zz), .int (nI zn), .ref mkb])), (mk, .inl (cI, 2040, .inl ek)), (mr, .inl (cI, 2040, .inl er)), (mn, .inl (cI, 2040, .inl en)), (mv, .inl (cJ, 2040, .inr (.inl ev))), (ms, .inl (cZ, 2040, .inl es)), (mtk, .inl (cI, 20, .inl ta)), (mtw, .inl (cI, 20, .inl tv)), (mtr, .inl (cI, 20, .inl tq)), (mtv, .inl (cJ, 20, .inr (.inl tl))), (msk, .inl (cI, 40, .inl pk)), (mss, .inl (cZ, 40, .inl pb)), (msv, .inl (cJ, 40, .inr (.inl pv))), (mkb, .inl (cI, 2000, .inl kq))] := hD
          refine lv_aload_n hx hb dX4_test_41 rfl (lv_at hl 0 rfl) ?_
          refine va_get (D := D) (ci := 4) (v := .int (nI 1)) (C := RX4) (T := TX4) (N := 20) hx hb hts mu_X4 hown hK hP 0 rfl rfl 0 (by decide) (hts _ (List.mem_cons_of_mem _ mw_434)) (fun _ h9 => h9) rfl dX4_test_42 ?_
          refine lv_if_eq (tgt := 49) hx hb dX4_test_45 (by decide) (fun c => absurd c (by decide)) (fun _ => ?_)
          exact rw_retv (u := ((nI 1), tz, ta, tv, tq, tl)) hAe (hP) (hD) hS hK (Or.inl ⟨by first | exact Or.inl c_2 | exact Or.inr (Or.inl c_7) | exact Or.inr (Or.inr (Or.inl c_12)) | exact Or.inr (Or.inr (Or.inr (i_nle c_17))), rfl⟩) (Nat.le_of_ble_eq_true rfl) (Nat.le_of_ble_eq_true rfl) hx hb hr hlocks dX4_test_48
set_option maxHeartbeats 4000000 in
set_option maxRecDepth 100000 in
theorem c_X4_step (l : Launch) (D : va_G) (cI cJ cZ : ClassId) (sz : Nat) (m0 mk mr mn mv ms mtk mtw mtr mtv msk mss msv mkb r n tz zz zn : Nat) (th co : Int32) (ek er en : Nat → Int32) (ev : Nat → Int64) (es ta tv tq : Nat → Int32) (tl : Nat → Int64) (pk pb : Nat → Int32) (pv : Nat → Int64) (kq : Nat → Int32) (hzz : zz ≤ 20) (hzn : zn ≤ 20) (fb key b : Int32) (hb01 : b = nI 0 ∨ b = nI 1) (v : Int64) : Met l yX4_step (Cond.code yX4_step cX4_step 7 none :: wB) ({ frames := 0, cells := 0, slots := 0, locals := 0 } : Room) (rw_Pc D cI cJ cZ sz [.ref m0, .int fb, .int key, .int b, .long v] [(m0, .inr (4, [.int th, .ref mk, .ref mr, .ref mn, .ref mv, .ref ms, .int (nI n), .int (nI r), .int co, .ref mtk, .ref mtw, .ref mtr, .ref mtv, .int (nI tz), .ref msk, .ref mss, .ref msv, .int (nI zz), .int (nI zn), .ref mkb])), (mk, .inl (cI, 2040, .inl ek)), (mr, .inl (cI, 2040, .inl er)), (mn, .inl (cI, 2040, .inl en)), (mv, .inl (cJ, 2040, .inr (.inl ev))), (ms, .inl (cZ, 2040, .inl es)), (mtk, .inl (cI, 20, .inl ta)), (mtw, .inl (cI, 20, .inl tv)), (mtr, .inl (cI, 20, .inl tq)), (mtv, .inl (cJ, 20, .inr (.inl tl))), (msk, .inl (cI, 40, .inl pk)), (mss, .inl (cZ, 40, .inl pb)), (msv, .inl (cJ, 40, .inr (.inl pv))), (mkb, .inl (cI, 2000, .inl kq))]) (rw_Qv (S := Int32 × Nat × Nat × (Nat → Int32) × (Nat → Int32) × (Nat → Int64)) D cI cJ cZ sz [(m0, .inr (4, [.int th, .ref mk, .ref mr, .ref mn, .ref mv, .ref ms, .int (nI n), .int (nI r), .int co, .ref mtk, .ref mtw, .ref mtr, .ref mtv, .int (nI tz), .ref msk, .ref mss, .ref msv, .int (nI zz), .int (nI zn), .ref mkb])), (mk, .inl (cI, 2040, .inl ek)), (mr, .inl (cI, 2040, .inl er)), (mn, .inl (cI, 2040, .inl en)), (mv, .inl (cJ, 2040, .inr (.inl ev))), (ms, .inl (cZ, 2040, .inl es)), (mtk, .inl (cI, 20, .inl ta)), (mtw, .inl (cI, 20, .inl tv)), (mtr, .inl (cI, 20, .inl tq)), (mtv, .inl (cJ, 20, .inr (.inl tl))), (msk, .inl (cI, 40, .inl pk)), (mss, .inl (cZ, 40, .inl pb)), (msv, .inl (cJ, 40, .inr (.inl pv))), (mkb, .inl (cI, 2000, .inl kq))] (fun u => [(m0, .inr (4, [.int u.1, .ref mk, .ref mr, .ref mn, .ref mv, .ref ms, .int (nI n), .int (nI r), .int co, .ref mtk, .ref mtw, .ref mtr, .ref mtv, .int (nI tz), .ref msk, .ref mss, .ref msv, .int (nI u.2.1), .int (nI u.2.2.1), .ref mkb])), (mk, .inl (cI, 2040, .inl ek)), (mr, .inl (cI, 2040, .inl er)), (mn, .inl (cI, 2040, .inl en)), (mv, .inl (cJ, 2040, .inr (.inl ev))), (ms, .inl (cZ, 2040, .inl es)), (mtk, .inl (cI, 20, .inl ta)), (mtw, .inl (cI, 20, .inl tv)), (mtr, .inl (cI, 20, .inl tq)), (mtv, .inl (cJ, 20, .inr (.inl tl))), (msk, .inl (cI, 40, .inl u.2.2.2.1)), (mss, .inl (cZ, 40, .inl u.2.2.2.2.1)), (msv, .inl (cJ, 40, .inr (.inl u.2.2.2.2.2))), (mkb, .inl (cI, 2000, .inl kq))]) (fun u => (fb ≠ 0 ∧ zz = 20 ∧ u = (nI 1, zz, zn, pk, pb, pv)) ∨ (fb = 0 ∧ zn = 20 ∧ u = (nI 1, zz, zn, pk, pb, pv)) ∨ (fb ≠ 0 ∧ zz < 20 ∧ u = (nI 0, zz + 1, zn, upd pk zz key, upd pb zz b, vp_updL pv zz v)) ∨ (fb = 0 ∧ zn < 20 ∧ u = (nI 0, zz, zn + 1, upd pk (20 + zn) key, upd pb (20 + zn) b, vp_updL pv (20 + zn) v)))) 0 0 (va_A [(m0, .inr (4, [.int th, .ref mk, .ref mr, .ref mn, .ref mv, .ref ms, .int (nI n), .int (nI r), .int co, .ref mtk, .ref mtw, .ref mtr, .ref mtv, .int (nI tz), .ref msk, .ref mss, .ref msv, .int (nI zz), .int (nI zn), .ref mkb])), (mk, .inl (cI, 2040, .inl ek)), (mr, .inl (cI, 2040, .inl er)), (mn, .inl (cI, 2040, .inl en)), (mv, .inl (cJ, 2040, .inr (.inl ev))), (ms, .inl (cZ, 2040, .inl es)), (mtk, .inl (cI, 20, .inl ta)), (mtw, .inl (cI, 20, .inl tv)), (mtr, .inl (cI, 20, .inl tq)), (mtv, .inl (cJ, 20, .inr (.inl tl))), (msk, .inl (cI, 40, .inl pk)), (mss, .inl (cZ, 40, .inl pb)), (msv, .inl (cJ, 40, .inr (.inl pv))), (mkb, .inl (cI, 2000, .inl kq))] sz) := by
  refine Met.ofW (cc := cX4_step) (maxL := 7) (ret := none) (by decide) rfl ?_
  intro p e s m args below meth c s₁ B hml hv
  obtain ⟨rfl, hsz, hP, hK, hD0⟩ := hv
  have hx := B.exec
  have hb := B.bytes
  have hr := B.returns
  have hts := atoms_spec (ws := (Cond.code yX4_step cX4_step 7 none :: wB)) B.pre
  have hown : s.vm.findClass RX4 = some m.cls := findClass_of_methodNamed B.named
  have hlocks := B.notSynchronized
  subst hsz
  have hD := hD0.self (sz := s.heap.size)
  obtain ⟨A, hAe⟩ : ∃ A, A = va_A [(m0, .inr (4, [.int th, .ref mk, .ref mr, .ref mn, .ref mv, .ref ms, .int (nI n), .int (nI r), .int co, .ref mtk, .ref mtw, .ref mtr, .ref mtv, .int (nI tz), .ref msk, .ref mss, .ref msv, .int (nI zz), .int (nI zn), .ref mkb])), (mk, .inl (cI, 2040, .inl ek)), (mr, .inl (cI, 2040, .inl er)), (mn, .inl (cI, 2040, .inl en)), (mv, .inl (cJ, 2040, .inr (.inl ev))), (ms, .inl (cZ, 2040, .inl es)), (mtk, .inl (cI, 20, .inl ta)), (mtw, .inl (cI, 20, .inl tv)), (mtr, .inl (cI, 20, .inl tq)), (mtv, .inl (cJ, 20, .inr (.inl tl))), (msk, .inl (cI, 40, .inl pk)), (mss, .inl (cZ, 40, .inl pb)), (msv, .inl (cJ, 40, .inr (.inl pv))), (mkb, .inl (cI, 2000, .inl kq))] s.heap.size := ⟨_, rfl⟩
  rw [← hAe] at hD
  have hA : ∀ q : Nat, s.heap.size ≤ q → A q := fun q h => by rw [hAe]; exact Or.inr h
  have hS : va_S A s.heap s.heap [] := va_S.rf
  have hl := lv_entry ([.ref m0, .int fb, .int key, .int b, .long v]) (n := 7) (Nat.le_of_ble_eq_true rfl)
  rw [lg_entry_eq]
  generalize (lg_sl ([.ref m0, .int fb, .int key, .int b, .long v]) ++ List.replicate (7 - (lg_sl ([.ref m0, .int fb, .int key, .int b, .long v])).length) Slot.unset).toArray = ls at hl ⊢
  have hl : lv_has ls 7 [(0, .ref m0), (1, .int fb), (2, .int key), (3, .int b), (4, .long v)] := hl
  refine lv_aload_n hx hb dX4_step_0 rfl (lv_at hl 0 rfl) ?_
  refine lv_iload_n hx hb dX4_step_1 rfl (lv_at hl 1 rfl) ?_
  refine lv_if_eq (tgt := 12) hx hb dX4_step_2 (by decide) (fun c_2 => ?_) (fun c_2 => ?_)
  · skip
    refine lv_aload_n hx hb dX4_step_12 rfl (lv_at hl 0 rfl) ?_
    refine va_get (D := D) (ci := 4) (v := .int (nI zn)) (C := RX4) (T := TX4) (N := 20) hx hb hts mu_X4 hown hK hP 0 rfl rfl 18 (by decide) (hts _ (List.mem_cons_of_mem _ mw_452)) (fun _ h9 => h9) rfl dX4_step_13 ?_
    refine lv_bipush (v := nI 20) hx hb dX4_step_16 (by decide) ?_
    refine lv_icmp_ne (tgt := 25) hx hb dX4_step_18 (by decide) (fun c_18 => ?_) (fun c_18 => ?_)
    · have c_18 := mt (nI_eq (by omega) (by omega)).mpr c_18
      refine lv_iconst (v := nI 0) hx hb dX4_step_25 (by decide) ?_
      refine va_put (D := D) (ci := 4) (v := .int (nI 0)) (ty := .int) (C := RX4) (T := TX4) (N := 20) hx hb hts mu_X4 tyX4 tyX4_ok nmX4 hown hK hP hD hS 0 rfl rfl 0 (by decide) (hts _ (List.mem_cons_of_mem _ mw_434)) (fun _ h9 => h9) rfl (by decide +kernel) rfl rfl (Nat.le_of_ble_eq_true rfl) dX4_step_26 (fun H locs hP hD hS => ?_)
      have hP : va_P D vwCl [(m0, .inr (4, [.int (nI 0), .ref mk, .ref mr, .ref mn, .ref mv, .ref ms, .int (nI n), .int (nI r), .int co, .ref mtk, .ref mtw, .ref mtr, .ref mtv, .int (nI tz), .ref msk, .ref mss, .ref msv, .int (nI zz), .int (nI zn), .ref mkb])), (mk, .inl (cI, 2040, .inl ek)), (mr, .inl (cI, 2040, .inl er)), (mn, .inl (cI, 2040, .inl en)), (mv, .inl (cJ, 2040, .inr (.inl ev))), (ms, .inl (cZ, 2040, .inl es)), (mtk, .inl (cI, 20, .inl ta)), (mtw, .inl (cI, 20, .inl tv)), (mtr, .inl (cI, 20, .inl tq)), (mtv, .inl (cJ, 20, .inr (.inl tl))), (msk, .inl (cI, 40, .inl pk)), (mss, .inl (cZ, 40, .inl pb)), (msv, .inl (cJ, 40, .inr (.inl pv))), (mkb, .inl (cI, 2000, .inl kq))] H := hP
      have hD : va_D A [(m0, .inr (4, [.int (nI 0), .ref mk, .ref mr, .ref mn, .ref mv, .ref ms, .int (nI n), .int (nI r), .int co, .ref mtk, .ref mtw, .ref mtr, .ref mtv, .int (nI tz), .ref msk, .ref mss, .ref msv, .int (nI zz), .int (nI zn), .ref mkb])), (mk, .inl (cI, 2040, .inl ek)), (mr, .inl (cI, 2040, .inl er)), (mn, .inl (cI, 2040, .inl en)), (mv, .inl (cJ, 2040, .inr (.inl ev))), (ms, .inl (cZ, 2040, .inl es)), (mtk, .inl (cI, 20, .inl ta)), (mtw, .inl (cI, 20, .inl tv)), (mtr, .inl (cI, 20, .inl tq)), (mtv, .inl (cJ, 20, .inr (.inl tl))), (msk, .inl (cI, 40, .inl pk)), (mss, .inl (cZ, 40, .inl pb)), (msv, .inl (cJ, 40, .inr (.inl pv))), (mkb, .inl (cI, 2000, .inl kq))] := hD
      refine lv_aload_n hx hb dX4_step_29 rfl (lv_at hl 0 rfl) ?_
      refine va_get (D := D) (ci := 4) (v := .int (nI 0)) (C := RX4) (T := TX4) (N := 20) hx hb hts mu_X4 hown hK hP 0 rfl rfl 0 (by decide) (hts _ (List.mem_cons_of_mem _ mw_434)) (fun _ h9 => h9) rfl dX4_step_30 ?_
      refine lv_if_eq (tgt := 37) hx hb dX4_step_33 (by decide) (fun _ => ?_) (fun c => absurd (by decide) c)
      refine lv_iload_n hx hb dX4_step_37 rfl (lv_at hl 1 rfl) ?_
      refine lv_if_eq (tgt := 48) hx hb dX4_step_38 (by decide) (fun _ => ?_) (fun c => absurd c_2 c)
      refine lv_bipush (v := nI 20) hx hb dX4_step_48 (by decide) ?_
      refine lv_aload_n hx hb dX4_step_50 rfl (lv_at hl 0 rfl) ?_
      refine va_get (D := D) (ci := 4) (v := .int (nI zn)) (C := RX4) (T := TX4) (N := 20) hx hb hts mu_X4 hown hK hP 0 rfl rfl 18 (by decide) (hts _ (List.mem_cons_of_mem _ mw_452)) (fun _ h9 => h9) rfl dX4_step_51 ?_
      refine rk_iadd hx hb dX4_step_54 ?_
      refine lv_istore (lv' := [(6, .int (nI (20 + zn))), (0, .ref m0), (1, .int fb), (2, .int key), (3, .int b), (4, .long v)]) hx hb dX4_step_55 hl (by decide) rfl (fun ls hl => ?_)
      refine lv_aload_n hx hb dX4_step_57 rfl (lv_at hl 1 rfl) ?_
      refine va_get (D := D) (ci := 4) (v := .ref msk) (C := RX4) (T := TX4) (N := 20) hx hb hts mu_X4 hown hK hP 0 rfl rfl 14 (by decide) (hts _ (List.mem_cons_of_mem _ mw_448)) (fun _ h9 => h9) rfl dX4_step_58 ?_
      refine lv_iload hx hb dX4_step_61 (lv_at hl 0 rfl) ?_
      refine lv_iload_n hx hb dX4_step_63 rfl (lv_at hl 3 rfl) ?_
      refine rk_iast hx hb hK hP hD hS 10 0 rfl rfl (i := 20 + zn) (by omega) (by decide) dX4_step_64 (fun H locs hP hD hS => ?_)
      have hP : va_P D vwCl [(m0, .inr (4, [.int (nI 0), .ref mk, .ref mr, .ref mn, .ref mv, .ref ms, .int (nI n), .int (nI r), .int co, .ref mtk, .ref mtw, .ref mtr, .ref mtv, .int (nI tz), .ref msk, .ref mss, .ref msv, .int (nI zz), .int (nI zn), .ref mkb])), (mk, .inl (cI, 2040, .inl ek)), (mr, .inl (cI, 2040, .inl er)), (mn, .inl (cI, 2040, .inl en)), (mv, .inl (cJ, 2040, .inr (.inl ev))), (ms, .inl (cZ, 2040, .inl es)), (mtk, .inl (cI, 20, .inl ta)), (mtw, .inl (cI, 20, .inl tv)), (mtr, .inl (cI, 20, .inl tq)), (mtv, .inl (cJ, 20, .inr (.inl tl))), (msk, .inl (cI, 40, .inl (upd pk (20 + zn) key))), (mss, .inl (cZ, 40, .inl pb)), (msv, .inl (cJ, 40, .inr (.inl pv))), (mkb, .inl (cI, 2000, .inl kq))] H := hP
      have hD : va_D A [(m0, .inr (4, [.int (nI 0), .ref mk, .ref mr, .ref mn, .ref mv, .ref ms, .int (nI n), .int (nI r), .int co, .ref mtk, .ref mtw, .ref mtr, .ref mtv, .int (nI tz), .ref msk, .ref mss, .ref msv, .int (nI zz), .int (nI zn), .ref mkb])), (mk, .inl (cI, 2040, .inl ek)), (mr, .inl (cI, 2040, .inl er)), (mn, .inl (cI, 2040, .inl en)), (mv, .inl (cJ, 2040, .inr (.inl ev))), (ms, .inl (cZ, 2040, .inl es)), (mtk, .inl (cI, 20, .inl ta)), (mtw, .inl (cI, 20, .inl tv)), (mtr, .inl (cI, 20, .inl tq)), (mtv, .inl (cJ, 20, .inr (.inl tl))), (msk, .inl (cI, 40, .inl (upd pk (20 + zn) key))), (mss, .inl (cZ, 40, .inl pb)), (msv, .inl (cJ, 40, .inr (.inl pv))), (mkb, .inl (cI, 2000, .inl kq))] := hD
      refine lv_aload_n hx hb dX4_step_65 rfl (lv_at hl 1 rfl) ?_
      refine va_get (D := D) (ci := 4) (v := .ref mss) (C := RX4) (T := TX4) (N := 20) hx hb hts mu_X4 hown hK hP 0 rfl rfl 15 (by decide) (hts _ (List.mem_cons_of_mem _ mw_449)) (fun _ h9 => h9) rfl dX4_step_66 ?_
      refine lv_iload hx hb dX4_step_69 (lv_at hl 0 rfl) ?_
      refine lv_iload_n hx hb dX4_step_71 rfl (lv_at hl 4 rfl) ?_
      refine rk_zast hx hb hK hP hD hS 11 2 rfl rfl (i := 20 + zn) (by rcases hb01 with h | h <;> rw [h] <;> decide) (by omega) (by decide) dX4_step_72 (fun H locs hP hD hS => ?_)
      have hP : va_P D vwCl [(m0, .inr (4, [.int (nI 0), .ref mk, .ref mr, .ref mn, .ref mv, .ref ms, .int (nI n), .int (nI r), .int co, .ref mtk, .ref mtw, .ref mtr, .ref mtv, .int (nI tz), .ref msk, .ref mss, .ref msv, .int (nI zz), .int (nI zn), .ref mkb])), (mk, .inl (cI, 2040, .inl ek)), (mr, .inl (cI, 2040, .inl er)), (mn, .inl (cI, 2040, .inl en)), (mv, .inl (cJ, 2040, .inr (.inl ev))), (ms, .inl (cZ, 2040, .inl es)), (mtk, .inl (cI, 20, .inl ta)), (mtw, .inl (cI, 20, .inl tv)), (mtr, .inl (cI, 20, .inl tq)), (mtv, .inl (cJ, 20, .inr (.inl tl))), (msk, .inl (cI, 40, .inl (upd pk (20 + zn) key))), (mss, .inl (cZ, 40, .inl (upd pb (20 + zn) b))), (msv, .inl (cJ, 40, .inr (.inl pv))), (mkb, .inl (cI, 2000, .inl kq))] H := hP
      have hD : va_D A [(m0, .inr (4, [.int (nI 0), .ref mk, .ref mr, .ref mn, .ref mv, .ref ms, .int (nI n), .int (nI r), .int co, .ref mtk, .ref mtw, .ref mtr, .ref mtv, .int (nI tz), .ref msk, .ref mss, .ref msv, .int (nI zz), .int (nI zn), .ref mkb])), (mk, .inl (cI, 2040, .inl ek)), (mr, .inl (cI, 2040, .inl er)), (mn, .inl (cI, 2040, .inl en)), (mv, .inl (cJ, 2040, .inr (.inl ev))), (ms, .inl (cZ, 2040, .inl es)), (mtk, .inl (cI, 20, .inl ta)), (mtw, .inl (cI, 20, .inl tv)), (mtr, .inl (cI, 20, .inl tq)), (mtv, .inl (cJ, 20, .inr (.inl tl))), (msk, .inl (cI, 40, .inl (upd pk (20 + zn) key))), (mss, .inl (cZ, 40, .inl (upd pb (20 + zn) b))), (msv, .inl (cJ, 40, .inr (.inl pv))), (mkb, .inl (cI, 2000, .inl kq))] := hD
      refine lv_aload_n hx hb dX4_step_73 rfl (lv_at hl 1 rfl) ?_
      refine va_get (D := D) (ci := 4) (v := .ref msv) (C := RX4) (T := TX4) (N := 20) hx hb hts mu_X4 hown hK hP 0 rfl rfl 16 (by decide) (hts _ (List.mem_cons_of_mem _ mw_450)) (fun _ h9 => h9) rfl dX4_step_74 ?_
      refine lv_iload hx hb dX4_step_77 (lv_at hl 0 rfl) ?_
      refine lv_lload hx hb dX4_step_79 (lv_at hl 5 rfl) ?_
      refine rk_last hx hb hK hP hD hS 12 1 rfl rfl (i := 20 + zn) (by omega) (by decide) dX4_step_81 (fun H locs hP hD hS => ?_)
      have hP : va_P D vwCl [(m0, .inr (4, [.int (nI 0), .ref mk, .ref mr, .ref mn, .ref mv, .ref ms, .int (nI n), .int (nI r), .int co, .ref mtk, .ref mtw, .ref mtr, .ref mtv, .int (nI tz), .ref msk, .ref mss, .ref msv, .int (nI zz), .int (nI zn), .ref mkb])), (mk, .inl (cI, 2040, .inl ek)), (mr, .inl (cI, 2040, .inl er)), (mn, .inl (cI, 2040, .inl en)), (mv, .inl (cJ, 2040, .inr (.inl ev))), (ms, .inl (cZ, 2040, .inl es)), (mtk, .inl (cI, 20, .inl ta)), (mtw, .inl (cI, 20, .inl tv)), (mtr, .inl (cI, 20, .inl tq)), (mtv, .inl (cJ, 20, .inr (.inl tl))), (msk, .inl (cI, 40, .inl (upd pk (20 + zn) key))), (mss, .inl (cZ, 40, .inl (upd pb (20 + zn) b))), (msv, .inl (cJ, 40, .inr (.inl (vp_updL pv (20 + zn) v)))), (mkb, .inl (cI, 2000, .inl kq))] H := hP
      have hD : va_D A [(m0, .inr (4, [.int (nI 0), .ref mk, .ref mr, .ref mn, .ref mv, .ref ms, .int (nI n), .int (nI r), .int co, .ref mtk, .ref mtw, .ref mtr, .ref mtv, .int (nI tz), .ref msk, .ref mss, .ref msv, .int (nI zz), .int (nI zn), .ref mkb])), (mk, .inl (cI, 2040, .inl ek)), (mr, .inl (cI, 2040, .inl er)), (mn, .inl (cI, 2040, .inl en)), (mv, .inl (cJ, 2040, .inr (.inl ev))), (ms, .inl (cZ, 2040, .inl es)), (mtk, .inl (cI, 20, .inl ta)), (mtw, .inl (cI, 20, .inl tv)), (mtr, .inl (cI, 20, .inl tq)), (mtv, .inl (cJ, 20, .inr (.inl tl))), (msk, .inl (cI, 40, .inl (upd pk (20 + zn) key))), (mss, .inl (cZ, 40, .inl (upd pb (20 + zn) b))), (msv, .inl (cJ, 40, .inr (.inl (vp_updL pv (20 + zn) v)))), (mkb, .inl (cI, 2000, .inl kq))] := hD
      refine lv_iload_n hx hb dX4_step_82 rfl (lv_at hl 2 rfl) ?_
      refine lv_if_eq (tgt := 99) hx hb dX4_step_83 (by decide) (fun _ => ?_) (fun c => absurd c_2 c)
      refine lv_aload_n hx hb dX4_step_99 rfl (lv_at hl 1 rfl) ?_
      refine lv_dup hx hb dX4_step_100 rfl ?_
      refine va_get (D := D) (ci := 4) (v := .int (nI zn)) (C := RX4) (T := TX4) (N := 20) hx hb hts mu_X4 hown hK hP 0 rfl rfl 18 (by decide) (hts _ (List.mem_cons_of_mem _ mw_452)) (fun _ h9 => h9) rfl dX4_step_101 ?_
      refine lv_iconst (v := nI 1) hx hb dX4_step_104 (by decide) ?_
      refine rk_iadd hx hb dX4_step_105 ?_
      refine va_put (D := D) (ci := 4) (v := .int (nI (zn + 1))) (ty := .int) (C := RX4) (T := TX4) (N := 20) hx hb hts mu_X4 tyX4 tyX4_ok nmX4 hown hK hP hD hS 0 rfl rfl 18 (by decide) (hts _ (List.mem_cons_of_mem _ mw_452)) (fun _ h9 => h9) rfl (by decide +kernel) rfl rfl (Nat.le_of_ble_eq_true rfl) dX4_step_106 (fun H locs hP hD hS => ?_)
      have hP : va_P D vwCl [(m0, .inr (4, [.int (nI 0), .ref mk, .ref mr, .ref mn, .ref mv, .ref ms, .int (nI n), .int (nI r), .int co, .ref mtk, .ref mtw, .ref mtr, .ref mtv, .int (nI tz), .ref msk, .ref mss, .ref msv, .int (nI zz), .int (nI (zn + 1)), .ref mkb])), (mk, .inl (cI, 2040, .inl ek)), (mr, .inl (cI, 2040, .inl er)), (mn, .inl (cI, 2040, .inl en)), (mv, .inl (cJ, 2040, .inr (.inl ev))), (ms, .inl (cZ, 2040, .inl es)), (mtk, .inl (cI, 20, .inl ta)), (mtw, .inl (cI, 20, .inl tv)), (mtr, .inl (cI, 20, .inl tq)), (mtv, .inl (cJ, 20, .inr (.inl tl))), (msk, .inl (cI, 40, .inl (upd pk (20 + zn) key))), (mss, .inl (cZ, 40, .inl (upd pb (20 + zn) b))), (msv, .inl (cJ, 40, .inr (.inl (vp_updL pv (20 + zn) v)))), (mkb, .inl (cI, 2000, .inl kq))] H := hP
      have hD : va_D A [(m0, .inr (4, [.int (nI 0), .ref mk, .ref mr, .ref mn, .ref mv, .ref ms, .int (nI n), .int (nI r), .int co, .ref mtk, .ref mtw, .ref mtr, .ref mtv, .int (nI tz), .ref msk, .ref mss, .ref msv, .int (nI zz), .int (nI (zn + 1)), .ref mkb])), (mk, .inl (cI, 2040, .inl ek)), (mr, .inl (cI, 2040, .inl er)), (mn, .inl (cI, 2040, .inl en)), (mv, .inl (cJ, 2040, .inr (.inl ev))), (ms, .inl (cZ, 2040, .inl es)), (mtk, .inl (cI, 20, .inl ta)), (mtw, .inl (cI, 20, .inl tv)), (mtr, .inl (cI, 20, .inl tq)), (mtv, .inl (cJ, 20, .inr (.inl tl))), (msk, .inl (cI, 40, .inl (upd pk (20 + zn) key))), (mss, .inl (cZ, 40, .inl (upd pb (20 + zn) b))), (msv, .inl (cJ, 40, .inr (.inl (vp_updL pv (20 + zn) v)))), (mkb, .inl (cI, 2000, .inl kq))] := hD
      exact rw_retv (u := ((nI 0), zz, (zn + 1), (upd pk (20 + zn) key), (upd pb (20 + zn) b), (vp_updL pv (20 + zn) v))) hAe (hP) (hD) hS hK (Or.inr (Or.inr (Or.inr ⟨c_2, by omega, rfl⟩))) (Nat.le_of_ble_eq_true rfl) (Nat.le_of_ble_eq_true rfl) hx hb hr hlocks dX4_step_109
    · have c_18 := (nI_eq (by omega) (by omega)).mp c_18
      refine lv_iconst (v := nI 1) hx hb dX4_step_21 (by decide) ?_
      refine lv_goto (tgt := 26) hx hb dX4_step_22 (by decide) ?_
      refine va_put (D := D) (ci := 4) (v := .int (nI 1)) (ty := .int) (C := RX4) (T := TX4) (N := 20) hx hb hts mu_X4 tyX4 tyX4_ok nmX4 hown hK hP hD hS 0 rfl rfl 0 (by decide) (hts _ (List.mem_cons_of_mem _ mw_434)) (fun _ h9 => h9) rfl (by decide +kernel) rfl rfl (Nat.le_of_ble_eq_true rfl) dX4_step_26 (fun H locs hP hD hS => ?_)
      have hP : va_P D vwCl [(m0, .inr (4, [.int (nI 1), .ref mk, .ref mr, .ref mn, .ref mv, .ref ms, .int (nI n), .int (nI r), .int co, .ref mtk, .ref mtw, .ref mtr, .ref mtv, .int (nI tz), .ref msk, .ref mss, .ref msv, .int (nI zz), .int (nI zn), .ref mkb])), (mk, .inl (cI, 2040, .inl ek)), (mr, .inl (cI, 2040, .inl er)), (mn, .inl (cI, 2040, .inl en)), (mv, .inl (cJ, 2040, .inr (.inl ev))), (ms, .inl (cZ, 2040, .inl es)), (mtk, .inl (cI, 20, .inl ta)), (mtw, .inl (cI, 20, .inl tv)), (mtr, .inl (cI, 20, .inl tq)), (mtv, .inl (cJ, 20, .inr (.inl tl))), (msk, .inl (cI, 40, .inl pk)), (mss, .inl (cZ, 40, .inl pb)), (msv, .inl (cJ, 40, .inr (.inl pv))), (mkb, .inl (cI, 2000, .inl kq))] H := hP
      have hD : va_D A [(m0, .inr (4, [.int (nI 1), .ref mk, .ref mr, .ref mn, .ref mv, .ref ms, .int (nI n), .int (nI r), .int co, .ref mtk, .ref mtw, .ref mtr, .ref mtv, .int (nI tz), .ref msk, .ref mss, .ref msv, .int (nI zz), .int (nI zn), .ref mkb])), (mk, .inl (cI, 2040, .inl ek)), (mr, .inl (cI, 2040, .inl er)), (mn, .inl (cI, 2040, .inl en)), (mv, .inl (cJ, 2040, .inr (.inl ev))), (ms, .inl (cZ, 2040, .inl es)), (mtk, .inl (cI, 20, .inl ta)), (mtw, .inl (cI, 20, .inl tv)), (mtr, .inl (cI, 20, .inl tq)), (mtv, .inl (cJ, 20, .inr (.inl tl))), (msk, .inl (cI, 40, .inl pk)), (mss, .inl (cZ, 40, .inl pb)), (msv, .inl (cJ, 40, .inr (.inl pv))), (mkb, .inl (cI, 2000, .inl kq))] := hD
      refine lv_aload_n hx hb dX4_step_29 rfl (lv_at hl 0 rfl) ?_
      refine va_get (D := D) (ci := 4) (v := .int (nI 1)) (C := RX4) (T := TX4) (N := 20) hx hb hts mu_X4 hown hK hP 0 rfl rfl 0 (by decide) (hts _ (List.mem_cons_of_mem _ mw_434)) (fun _ h9 => h9) rfl dX4_step_30 ?_
      refine lv_if_eq (tgt := 37) hx hb dX4_step_33 (by decide) (fun c => absurd c (by decide)) (fun _ => ?_)
      exact rw_retv (u := ((nI 1), zz, zn, pk, pb, pv)) hAe (hP) (hD) hS hK (Or.inr (Or.inl ⟨c_2, by omega, rfl⟩)) (Nat.le_of_ble_eq_true rfl) (Nat.le_of_ble_eq_true rfl) hx hb hr hlocks dX4_step_36
  · skip
    refine lv_aload_n hx hb dX4_step_5 rfl (lv_at hl 0 rfl) ?_
    refine va_get (D := D) (ci := 4) (v := .int (nI zz)) (C := RX4) (T := TX4) (N := 20) hx hb hts mu_X4 hown hK hP 0 rfl rfl 17 (by decide) (hts _ (List.mem_cons_of_mem _ mw_451)) (fun _ h9 => h9) rfl dX4_step_6 ?_
    refine lv_goto (tgt := 16) hx hb dX4_step_9 (by decide) ?_
    refine lv_bipush (v := nI 20) hx hb dX4_step_16 (by decide) ?_
    refine lv_icmp_ne (tgt := 25) hx hb dX4_step_18 (by decide) (fun c_18 => ?_) (fun c_18 => ?_)
    · have c_18 := mt (nI_eq (by omega) (by omega)).mpr c_18
      refine lv_iconst (v := nI 0) hx hb dX4_step_25 (by decide) ?_
      refine va_put (D := D) (ci := 4) (v := .int (nI 0)) (ty := .int) (C := RX4) (T := TX4) (N := 20) hx hb hts mu_X4 tyX4 tyX4_ok nmX4 hown hK hP hD hS 0 rfl rfl 0 (by decide) (hts _ (List.mem_cons_of_mem _ mw_434)) (fun _ h9 => h9) rfl (by decide +kernel) rfl rfl (Nat.le_of_ble_eq_true rfl) dX4_step_26 (fun H locs hP hD hS => ?_)
      have hP : va_P D vwCl [(m0, .inr (4, [.int (nI 0), .ref mk, .ref mr, .ref mn, .ref mv, .ref ms, .int (nI n), .int (nI r), .int co, .ref mtk, .ref mtw, .ref mtr, .ref mtv, .int (nI tz), .ref msk, .ref mss, .ref msv, .int (nI zz), .int (nI zn), .ref mkb])), (mk, .inl (cI, 2040, .inl ek)), (mr, .inl (cI, 2040, .inl er)), (mn, .inl (cI, 2040, .inl en)), (mv, .inl (cJ, 2040, .inr (.inl ev))), (ms, .inl (cZ, 2040, .inl es)), (mtk, .inl (cI, 20, .inl ta)), (mtw, .inl (cI, 20, .inl tv)), (mtr, .inl (cI, 20, .inl tq)), (mtv, .inl (cJ, 20, .inr (.inl tl))), (msk, .inl (cI, 40, .inl pk)), (mss, .inl (cZ, 40, .inl pb)), (msv, .inl (cJ, 40, .inr (.inl pv))), (mkb, .inl (cI, 2000, .inl kq))] H := hP
      have hD : va_D A [(m0, .inr (4, [.int (nI 0), .ref mk, .ref mr, .ref mn, .ref mv, .ref ms, .int (nI n), .int (nI r), .int co, .ref mtk, .ref mtw, .ref mtr, .ref mtv, .int (nI tz), .ref msk, .ref mss, .ref msv, .int (nI zz), .int (nI zn), .ref mkb])), (mk, .inl (cI, 2040, .inl ek)), (mr, .inl (cI, 2040, .inl er)), (mn, .inl (cI, 2040, .inl en)), (mv, .inl (cJ, 2040, .inr (.inl ev))), (ms, .inl (cZ, 2040, .inl es)), (mtk, .inl (cI, 20, .inl ta)), (mtw, .inl (cI, 20, .inl tv)), (mtr, .inl (cI, 20, .inl tq)), (mtv, .inl (cJ, 20, .inr (.inl tl))), (msk, .inl (cI, 40, .inl pk)), (mss, .inl (cZ, 40, .inl pb)), (msv, .inl (cJ, 40, .inr (.inl pv))), (mkb, .inl (cI, 2000, .inl kq))] := hD
      refine lv_aload_n hx hb dX4_step_29 rfl (lv_at hl 0 rfl) ?_
      refine va_get (D := D) (ci := 4) (v := .int (nI 0)) (C := RX4) (T := TX4) (N := 20) hx hb hts mu_X4 hown hK hP 0 rfl rfl 0 (by decide) (hts _ (List.mem_cons_of_mem _ mw_434)) (fun _ h9 => h9) rfl dX4_step_30 ?_
      refine lv_if_eq (tgt := 37) hx hb dX4_step_33 (by decide) (fun _ => ?_) (fun c => absurd (by decide) c)
      refine lv_iload_n hx hb dX4_step_37 rfl (lv_at hl 1 rfl) ?_
      refine lv_if_eq (tgt := 48) hx hb dX4_step_38 (by decide) (fun c => absurd c c_2) (fun _ => ?_)
      refine lv_aload_n hx hb dX4_step_41 rfl (lv_at hl 0 rfl) ?_
      refine va_get (D := D) (ci := 4) (v := .int (nI zz)) (C := RX4) (T := TX4) (N := 20) hx hb hts mu_X4 hown hK hP 0 rfl rfl 17 (by decide) (hts _ (List.mem_cons_of_mem _ mw_451)) (fun _ h9 => h9) rfl dX4_step_42 ?_
      refine lv_goto (tgt := 55) hx hb dX4_step_45 (by decide) ?_
      refine lv_istore (lv' := [(6, .int (nI zz)), (0, .ref m0), (1, .int fb), (2, .int key), (3, .int b), (4, .long v)]) hx hb dX4_step_55 hl (by decide) rfl (fun ls hl => ?_)
      refine lv_aload_n hx hb dX4_step_57 rfl (lv_at hl 1 rfl) ?_
      refine va_get (D := D) (ci := 4) (v := .ref msk) (C := RX4) (T := TX4) (N := 20) hx hb hts mu_X4 hown hK hP 0 rfl rfl 14 (by decide) (hts _ (List.mem_cons_of_mem _ mw_448)) (fun _ h9 => h9) rfl dX4_step_58 ?_
      refine lv_iload hx hb dX4_step_61 (lv_at hl 0 rfl) ?_
      refine lv_iload_n hx hb dX4_step_63 rfl (lv_at hl 3 rfl) ?_
      refine rk_iast hx hb hK hP hD hS 10 0 rfl rfl (i := zz) (by omega) (by decide) dX4_step_64 (fun H locs hP hD hS => ?_)
      have hP : va_P D vwCl [(m0, .inr (4, [.int (nI 0), .ref mk, .ref mr, .ref mn, .ref mv, .ref ms, .int (nI n), .int (nI r), .int co, .ref mtk, .ref mtw, .ref mtr, .ref mtv, .int (nI tz), .ref msk, .ref mss, .ref msv, .int (nI zz), .int (nI zn), .ref mkb])), (mk, .inl (cI, 2040, .inl ek)), (mr, .inl (cI, 2040, .inl er)), (mn, .inl (cI, 2040, .inl en)), (mv, .inl (cJ, 2040, .inr (.inl ev))), (ms, .inl (cZ, 2040, .inl es)), (mtk, .inl (cI, 20, .inl ta)), (mtw, .inl (cI, 20, .inl tv)), (mtr, .inl (cI, 20, .inl tq)), (mtv, .inl (cJ, 20, .inr (.inl tl))), (msk, .inl (cI, 40, .inl (upd pk zz key))), (mss, .inl (cZ, 40, .inl pb)), (msv, .inl (cJ, 40, .inr (.inl pv))), (mkb, .inl (cI, 2000, .inl kq))] H := hP
      have hD : va_D A [(m0, .inr (4, [.int (nI 0), .ref mk, .ref mr, .ref mn, .ref mv, .ref ms, .int (nI n), .int (nI r), .int co, .ref mtk, .ref mtw, .ref mtr, .ref mtv, .int (nI tz), .ref msk, .ref mss, .ref msv, .int (nI zz), .int (nI zn), .ref mkb])), (mk, .inl (cI, 2040, .inl ek)), (mr, .inl (cI, 2040, .inl er)), (mn, .inl (cI, 2040, .inl en)), (mv, .inl (cJ, 2040, .inr (.inl ev))), (ms, .inl (cZ, 2040, .inl es)), (mtk, .inl (cI, 20, .inl ta)), (mtw, .inl (cI, 20, .inl tv)), (mtr, .inl (cI, 20, .inl tq)), (mtv, .inl (cJ, 20, .inr (.inl tl))), (msk, .inl (cI, 40, .inl (upd pk zz key))), (mss, .inl (cZ, 40, .inl pb)), (msv, .inl (cJ, 40, .inr (.inl pv))), (mkb, .inl (cI, 2000, .inl kq))] := hD
      refine lv_aload_n hx hb dX4_step_65 rfl (lv_at hl 1 rfl) ?_
      refine va_get (D := D) (ci := 4) (v := .ref mss) (C := RX4) (T := TX4) (N := 20) hx hb hts mu_X4 hown hK hP 0 rfl rfl 15 (by decide) (hts _ (List.mem_cons_of_mem _ mw_449)) (fun _ h9 => h9) rfl dX4_step_66 ?_
      refine lv_iload hx hb dX4_step_69 (lv_at hl 0 rfl) ?_
      refine lv_iload_n hx hb dX4_step_71 rfl (lv_at hl 4 rfl) ?_
      refine rk_zast hx hb hK hP hD hS 11 2 rfl rfl (i := zz) (by rcases hb01 with h | h <;> rw [h] <;> decide) (by omega) (by decide) dX4_step_72 (fun H locs hP hD hS => ?_)
      have hP : va_P D vwCl [(m0, .inr (4, [.int (nI 0), .ref mk, .ref mr, .ref mn, .ref mv, .ref ms, .int (nI n), .int (nI r), .int co, .ref mtk, .ref mtw, .ref mtr, .ref mtv, .int (nI tz), .ref msk, .ref mss, .ref msv, .int (nI zz), .int (nI zn), .ref mkb])), (mk, .inl (cI, 2040, .inl ek)), (mr, .inl (cI, 2040, .inl er)), (mn, .inl (cI, 2040, .inl en)), (mv, .inl (cJ, 2040, .inr (.inl ev))), (ms, .inl (cZ, 2040, .inl es)), (mtk, .inl (cI, 20, .inl ta)), (mtw, .inl (cI, 20, .inl tv)), (mtr, .inl (cI, 20, .inl tq)), (mtv, .inl (cJ, 20, .inr (.inl tl))), (msk, .inl (cI, 40, .inl (upd pk zz key))), (mss, .inl (cZ, 40, .inl (upd pb zz b))), (msv, .inl (cJ, 40, .inr (.inl pv))), (mkb, .inl (cI, 2000, .inl kq))] H := hP
      have hD : va_D A [(m0, .inr (4, [.int (nI 0), .ref mk, .ref mr, .ref mn, .ref mv, .ref ms, .int (nI n), .int (nI r), .int co, .ref mtk, .ref mtw, .ref mtr, .ref mtv, .int (nI tz), .ref msk, .ref mss, .ref msv, .int (nI zz), .int (nI zn), .ref mkb])), (mk, .inl (cI, 2040, .inl ek)), (mr, .inl (cI, 2040, .inl er)), (mn, .inl (cI, 2040, .inl en)), (mv, .inl (cJ, 2040, .inr (.inl ev))), (ms, .inl (cZ, 2040, .inl es)), (mtk, .inl (cI, 20, .inl ta)), (mtw, .inl (cI, 20, .inl tv)), (mtr, .inl (cI, 20, .inl tq)), (mtv, .inl (cJ, 20, .inr (.inl tl))), (msk, .inl (cI, 40, .inl (upd pk zz key))), (mss, .inl (cZ, 40, .inl (upd pb zz b))), (msv, .inl (cJ, 40, .inr (.inl pv))), (mkb, .inl (cI, 2000, .inl kq))] := hD
      refine lv_aload_n hx hb dX4_step_73 rfl (lv_at hl 1 rfl) ?_
      refine va_get (D := D) (ci := 4) (v := .ref msv) (C := RX4) (T := TX4) (N := 20) hx hb hts mu_X4 hown hK hP 0 rfl rfl 16 (by decide) (hts _ (List.mem_cons_of_mem _ mw_450)) (fun _ h9 => h9) rfl dX4_step_74 ?_
      refine lv_iload hx hb dX4_step_77 (lv_at hl 0 rfl) ?_
      refine lv_lload hx hb dX4_step_79 (lv_at hl 5 rfl) ?_
      refine rk_last hx hb hK hP hD hS 12 1 rfl rfl (i := zz) (by omega) (by decide) dX4_step_81 (fun H locs hP hD hS => ?_)
      have hP : va_P D vwCl [(m0, .inr (4, [.int (nI 0), .ref mk, .ref mr, .ref mn, .ref mv, .ref ms, .int (nI n), .int (nI r), .int co, .ref mtk, .ref mtw, .ref mtr, .ref mtv, .int (nI tz), .ref msk, .ref mss, .ref msv, .int (nI zz), .int (nI zn), .ref mkb])), (mk, .inl (cI, 2040, .inl ek)), (mr, .inl (cI, 2040, .inl er)), (mn, .inl (cI, 2040, .inl en)), (mv, .inl (cJ, 2040, .inr (.inl ev))), (ms, .inl (cZ, 2040, .inl es)), (mtk, .inl (cI, 20, .inl ta)), (mtw, .inl (cI, 20, .inl tv)), (mtr, .inl (cI, 20, .inl tq)), (mtv, .inl (cJ, 20, .inr (.inl tl))), (msk, .inl (cI, 40, .inl (upd pk zz key))), (mss, .inl (cZ, 40, .inl (upd pb zz b))), (msv, .inl (cJ, 40, .inr (.inl (vp_updL pv zz v)))), (mkb, .inl (cI, 2000, .inl kq))] H := hP
      have hD : va_D A [(m0, .inr (4, [.int (nI 0), .ref mk, .ref mr, .ref mn, .ref mv, .ref ms, .int (nI n), .int (nI r), .int co, .ref mtk, .ref mtw, .ref mtr, .ref mtv, .int (nI tz), .ref msk, .ref mss, .ref msv, .int (nI zz), .int (nI zn), .ref mkb])), (mk, .inl (cI, 2040, .inl ek)), (mr, .inl (cI, 2040, .inl er)), (mn, .inl (cI, 2040, .inl en)), (mv, .inl (cJ, 2040, .inr (.inl ev))), (ms, .inl (cZ, 2040, .inl es)), (mtk, .inl (cI, 20, .inl ta)), (mtw, .inl (cI, 20, .inl tv)), (mtr, .inl (cI, 20, .inl tq)), (mtv, .inl (cJ, 20, .inr (.inl tl))), (msk, .inl (cI, 40, .inl (upd pk zz key))), (mss, .inl (cZ, 40, .inl (upd pb zz b))), (msv, .inl (cJ, 40, .inr (.inl (vp_updL pv zz v)))), (mkb, .inl (cI, 2000, .inl kq))] := hD
      refine lv_iload_n hx hb dX4_step_82 rfl (lv_at hl 2 rfl) ?_
      refine lv_if_eq (tgt := 99) hx hb dX4_step_83 (by decide) (fun c => absurd c c_2) (fun _ => ?_)
      refine lv_aload_n hx hb dX4_step_86 rfl (lv_at hl 1 rfl) ?_
      refine lv_dup hx hb dX4_step_87 rfl ?_
      refine va_get (D := D) (ci := 4) (v := .int (nI zz)) (C := RX4) (T := TX4) (N := 20) hx hb hts mu_X4 hown hK hP 0 rfl rfl 17 (by decide) (hts _ (List.mem_cons_of_mem _ mw_451)) (fun _ h9 => h9) rfl dX4_step_88 ?_
      refine lv_iconst (v := nI 1) hx hb dX4_step_91 (by decide) ?_
      refine rk_iadd hx hb dX4_step_92 ?_
      refine va_put (D := D) (ci := 4) (v := .int (nI (zz + 1))) (ty := .int) (C := RX4) (T := TX4) (N := 20) hx hb hts mu_X4 tyX4 tyX4_ok nmX4 hown hK hP hD hS 0 rfl rfl 17 (by decide) (hts _ (List.mem_cons_of_mem _ mw_451)) (fun _ h9 => h9) rfl (by decide +kernel) rfl rfl (Nat.le_of_ble_eq_true rfl) dX4_step_93 (fun H locs hP hD hS => ?_)
      have hP : va_P D vwCl [(m0, .inr (4, [.int (nI 0), .ref mk, .ref mr, .ref mn, .ref mv, .ref ms, .int (nI n), .int (nI r), .int co, .ref mtk, .ref mtw, .ref mtr, .ref mtv, .int (nI tz), .ref msk, .ref mss, .ref msv, .int (nI (zz + 1)), .int (nI zn), .ref mkb])), (mk, .inl (cI, 2040, .inl ek)), (mr, .inl (cI, 2040, .inl er)), (mn, .inl (cI, 2040, .inl en)), (mv, .inl (cJ, 2040, .inr (.inl ev))), (ms, .inl (cZ, 2040, .inl es)), (mtk, .inl (cI, 20, .inl ta)), (mtw, .inl (cI, 20, .inl tv)), (mtr, .inl (cI, 20, .inl tq)), (mtv, .inl (cJ, 20, .inr (.inl tl))), (msk, .inl (cI, 40, .inl (upd pk zz key))), (mss, .inl (cZ, 40, .inl (upd pb zz b))), (msv, .inl (cJ, 40, .inr (.inl (vp_updL pv zz v)))), (mkb, .inl (cI, 2000, .inl kq))] H := hP
      have hD : va_D A [(m0, .inr (4, [.int (nI 0), .ref mk, .ref mr, .ref mn, .ref mv, .ref ms, .int (nI n), .int (nI r), .int co, .ref mtk, .ref mtw, .ref mtr, .ref mtv, .int (nI tz), .ref msk, .ref mss, .ref msv, .int (nI (zz + 1)), .int (nI zn), .ref mkb])), (mk, .inl (cI, 2040, .inl ek)), (mr, .inl (cI, 2040, .inl er)), (mn, .inl (cI, 2040, .inl en)), (mv, .inl (cJ, 2040, .inr (.inl ev))), (ms, .inl (cZ, 2040, .inl es)), (mtk, .inl (cI, 20, .inl ta)), (mtw, .inl (cI, 20, .inl tv)), (mtr, .inl (cI, 20, .inl tq)), (mtv, .inl (cJ, 20, .inr (.inl tl))), (msk, .inl (cI, 40, .inl (upd pk zz key))), (mss, .inl (cZ, 40, .inl (upd pb zz b))), (msv, .inl (cJ, 40, .inr (.inl (vp_updL pv zz v)))), (mkb, .inl (cI, 2000, .inl kq))] := hD
      refine lv_goto (tgt := 109) hx hb dX4_step_96 (by decide) ?_
      exact rw_retv (u := ((nI 0), (zz + 1), zn, (upd pk zz key), (upd pb zz b), (vp_updL pv zz v))) hAe (hP) (hD) hS hK (Or.inr (Or.inr (Or.inl ⟨c_2, by omega, rfl⟩))) (Nat.le_of_ble_eq_true rfl) (Nat.le_of_ble_eq_true rfl) hx hb hr hlocks dX4_step_109
    · have c_18 := (nI_eq (by omega) (by omega)).mp c_18
      refine lv_iconst (v := nI 1) hx hb dX4_step_21 (by decide) ?_
      refine lv_goto (tgt := 26) hx hb dX4_step_22 (by decide) ?_
      refine va_put (D := D) (ci := 4) (v := .int (nI 1)) (ty := .int) (C := RX4) (T := TX4) (N := 20) hx hb hts mu_X4 tyX4 tyX4_ok nmX4 hown hK hP hD hS 0 rfl rfl 0 (by decide) (hts _ (List.mem_cons_of_mem _ mw_434)) (fun _ h9 => h9) rfl (by decide +kernel) rfl rfl (Nat.le_of_ble_eq_true rfl) dX4_step_26 (fun H locs hP hD hS => ?_)
      have hP : va_P D vwCl [(m0, .inr (4, [.int (nI 1), .ref mk, .ref mr, .ref mn, .ref mv, .ref ms, .int (nI n), .int (nI r), .int co, .ref mtk, .ref mtw, .ref mtr, .ref mtv, .int (nI tz), .ref msk, .ref mss, .ref msv, .int (nI zz), .int (nI zn), .ref mkb])), (mk, .inl (cI, 2040, .inl ek)), (mr, .inl (cI, 2040, .inl er)), (mn, .inl (cI, 2040, .inl en)), (mv, .inl (cJ, 2040, .inr (.inl ev))), (ms, .inl (cZ, 2040, .inl es)), (mtk, .inl (cI, 20, .inl ta)), (mtw, .inl (cI, 20, .inl tv)), (mtr, .inl (cI, 20, .inl tq)), (mtv, .inl (cJ, 20, .inr (.inl tl))), (msk, .inl (cI, 40, .inl pk)), (mss, .inl (cZ, 40, .inl pb)), (msv, .inl (cJ, 40, .inr (.inl pv))), (mkb, .inl (cI, 2000, .inl kq))] H := hP
      have hD : va_D A [(m0, .inr (4, [.int (nI 1), .ref mk, .ref mr, .ref mn, .ref mv, .ref ms, .int (nI n), .int (nI r), .int co, .ref mtk, .ref mtw, .ref mtr, .ref mtv, .int (nI tz), .ref msk, .ref mss, .ref msv, .int (nI zz), .int (nI zn), .ref mkb])), (mk, .inl (cI, 2040, .inl ek)), (mr, .inl (cI, 2040, .inl er)), (mn, .inl (cI, 2040, .inl en)), (mv, .inl (cJ, 2040, .inr (.inl ev))), (ms, .inl (cZ, 2040, .inl es)), (mtk, .inl (cI, 20, .inl ta)), (mtw, .inl (cI, 20, .inl tv)), (mtr, .inl (cI, 20, .inl tq)), (mtv, .inl (cJ, 20, .inr (.inl tl))), (msk, .inl (cI, 40, .inl pk)), (mss, .inl (cZ, 40, .inl pb)), (msv, .inl (cJ, 40, .inr (.inl pv))), (mkb, .inl (cI, 2000, .inl kq))] := hD
      refine lv_aload_n hx hb dX4_step_29 rfl (lv_at hl 0 rfl) ?_
      refine va_get (D := D) (ci := 4) (v := .int (nI 1)) (C := RX4) (T := TX4) (N := 20) hx hb hts mu_X4 hown hK hP 0 rfl rfl 0 (by decide) (hts _ (List.mem_cons_of_mem _ mw_434)) (fun _ h9 => h9) rfl dX4_step_30 ?_
      refine lv_if_eq (tgt := 37) hx hb dX4_step_33 (by decide) (fun c => absurd c (by decide)) (fun _ => ?_)
      exact rw_retv (u := ((nI 1), zz, zn, pk, pb, pv)) hAe (hP) (hD) hS hK (Or.inl ⟨c_2, by omega, rfl⟩) (Nat.le_of_ble_eq_true rfl) (Nat.le_of_ble_eq_true rfl) hx hb hr hlocks dX4_step_36
set_option maxHeartbeats 4000000 in
set_option maxRecDepth 100000 in
theorem c_X4_told (l : Launch) (D : va_G) (cI cJ cZ : ClassId) (m0 mk mr mn mv ms mtk mtw mtr mtv msk mss msv mkb r n tz zz zn : Nat) (th co : Int32) (ek er en : Nat → Int32) (ev : Nat → Int64) (es ta tv tq : Nat → Int32) (tl : Nat → Int64) (pk pb : Nat → Int32) (pv : Nat → Int64) (kq : Nat → Int32) (hn : n ≤ 2040) (key a w : Int32) : Met l yX4_told (Cond.code yX4_told cX4_told 10 (some .long) :: wB) ({ frames := 0, cells := 0, slots := 0, locals := 0 } : Room) (ro_Pc D cI cJ cZ [.ref m0, .int key, .int a, .int w] [(m0, .inr (4, [.int th, .ref mk, .ref mr, .ref mn, .ref mv, .ref ms, .int (nI n), .int (nI r), .int co, .ref mtk, .ref mtw, .ref mtr, .ref mtv, .int (nI tz), .ref msk, .ref mss, .ref msv, .int (nI zz), .int (nI zn), .ref mkb])), (mk, .inl (cI, 2040, .inl ek)), (mr, .inl (cI, 2040, .inl er)), (mn, .inl (cI, 2040, .inl en)), (mv, .inl (cJ, 2040, .inr (.inl ev))), (ms, .inl (cZ, 2040, .inl es)), (mtk, .inl (cI, 20, .inl ta)), (mtw, .inl (cI, 20, .inl tv)), (mtr, .inl (cI, 20, .inl tq)), (mtv, .inl (cJ, 20, .inr (.inl tl))), (msk, .inl (cI, 40, .inl pk)), (mss, .inl (cZ, 40, .inl pb)), (msv, .inl (cJ, 40, .inr (.inl pv))), (mkb, .inl (cI, 2000, .inl kq))]) (vp_Sl (fun x => tlR (n, ek, er, en, ev, es) key a w x)) 0 0 (fun _ => False) := by
  refine Met.ofW (cc := cX4_told) (maxL := 10) (ret := (some .long)) (by decide) rfl ?_
  intro p e s m args below meth c s₁ B hml hv
  obtain ⟨rfl, hP, hK⟩ := hv
  have hx := B.exec
  have hb := B.bytes
  have hr := B.returns
  have hts := atoms_spec (ws := (Cond.code yX4_told cX4_told 10 (some .long) :: wB)) B.pre
  have hown : s.vm.findClass RX4 = some m.cls := findClass_of_methodNamed B.named
  have hlocks := B.notSynchronized
  have hl := lv_entry ([.ref m0, .int key, .int a, .int w]) (n := 10) (Nat.le_of_ble_eq_true rfl)
  rw [lg_entry_eq]
  generalize (lg_sl ([.ref m0, .int key, .int a, .int w]) ++ List.replicate (10 - (lg_sl ([.ref m0, .int key, .int a, .int w])).length) Slot.unset).toArray = ls at hl ⊢
  have hl : lv_has ls 10 [(0, .ref m0), (1, .int key), (2, .int a), (3, .int w)] := hl
  refine lv_iconst (v := nI 0) hx hb dX4_told_0 (by decide) ?_
  refine lv_istore (lv' := [(4, .int (nI 0)), (0, .ref m0), (1, .int key), (2, .int a), (3, .int w)]) hx hb dX4_told_1 hl (by decide) rfl (fun ls hl => ?_)
  refine lv_iconst (v := nI 0) hx hb dX4_told_3 (by decide) ?_
  refine lv_istore (lv' := [(5, .int (nI 0)), (4, .int (nI 0)), (0, .ref m0), (1, .int key), (2, .int a), (3, .int w)]) hx hb dX4_told_4 hl (by decide) rfl (fun ls hl => ?_)
  refine lv_iconst (v := nI 0) hx hb dX4_told_6 (by decide) ?_
  refine lv_istore (lv' := [(6, .int (nI 0)), (5, .int (nI 0)), (4, .int (nI 0)), (0, .ref m0), (1, .int key), (2, .int a), (3, .int w)]) hx hb dX4_told_7 hl (by decide) rfl (fun ls hl => ?_)
  refine lv_lconst (v := 0) hx hb dX4_told_9 (by decide) ?_
  refine lv_lstore (lv' := [(7, .long 0), (6, .int (nI 0)), (5, .int (nI 0)), (4, .int (nI 0)), (0, .ref m0), (1, .int key), (2, .int a), (3, .int w)]) hx hb dX4_told_10 hl (by decide) rfl (fun ls hl => ?_)
  refine lv_iconst (v := nI 0) hx hb dX4_told_12 (by decide) ?_
  refine lv_istore (lv' := [(9, .int (nI 0)), (7, .long 0), (6, .int (nI 0)), (5, .int (nI 0)), (4, .int (nI 0)), (0, .ref m0), (1, .int key), (2, .int a), (3, .int w)]) hx hb dX4_told_13 hl (by decide) rfl (fun ls hl => ?_)
  have hloop_15 : ∀ (k : Nat) (vn : Nat) (cr : Int32) (st : Int32) (vv : Int64) (i : Nat), n - i < k → i ≤ n → (∀ q, q < i → er q ≤ a) → tf (n, ek, er, en, ev, es) key i = (vn, cr, st, vv) → vn ≤ i → ∀ (ls : Array Slot), lv_has ls 10 [(0, .ref m0), (1, .int key), (2, .int a), (3, .int w), (4, .int (nI vn)), (5, .int cr), (6, .int st), (7, .long vv), (9, .int (nI i))] → W p l e ({ frames := 0, cells := 0, slots := 0, locals := 0 } : Room) s m ([.ref m0, .int key, .int a, .int w] : List Value).toArray below meth c s.heap [] 0 0 (MQ below (vp_Sl (fun x => tlR (n, ek, er, en, ev, es) key a w x)) ([.ref m0, .int key, .int a, .int w] : List Value).toArray s 0 0 (fun _ => False)) (F0 m 15 ls []) := by
    intro k
    induction k with
    | zero => intro vn cr st vv i hm; exact absurd hm (Nat.not_lt_zero _)
    | succ k ih_15 =>
      intro vn cr st vv i hm_15 hi hp htf hv ls hl
      refine lv_iload hx hb dX4_told_15 (lv_at hl 8 rfl) ?_
      refine lv_aload_n hx hb dX4_told_17 rfl (lv_at hl 0 rfl) ?_
      refine va_get (D := D) (ci := 4) (v := .int (nI n)) (C := RX4) (T := TX4) (N := 20) hx hb hts mu_X4 hown hK hP 0 rfl rfl 6 (by decide) (hts _ (List.mem_cons_of_mem _ mw_440)) (fun _ h9 => h9) rfl dX4_told_18 ?_
      refine lv_icmp_ge (tgt := 106) hx hb dX4_told_21 (by decide) (fun c_21 => ?_) (fun c_21 => ?_)
      · have c_21 := (nI_leI (by omega) (by omega)).mp c_21
        refine lv_iload hx hb dX4_told_106 (lv_at hl 4 rfl) ?_
        refine lv_if_ne (tgt := 113) hx hb dX4_told_108 (by decide) (fun c_108 => ?_) (fun c_108 => ?_)
        · have c_108 := mt (zn_eq0 (by omega)).mpr c_108
          refine lv_iload_n hx hb dX4_told_113 rfl (lv_at hl 3 rfl) ?_
          refine lv_if_ne (tgt := 122) hx hb dX4_told_114 (by decide) (fun c_114 => ?_) (fun c_114 => ?_)
          · skip
            refine lv_iload_n hx hb dX4_told_122 rfl (lv_at hl 3 rfl) ?_
            refine lv_iconst (v := nI 1) hx hb dX4_told_123 (by decide) ?_
            refine lv_icmp_ne (tgt := 133) hx hb dX4_told_124 (by decide) (fun c_124 => ?_) (fun c_124 => ?_)
            · skip
              refine lv_iload_n hx hb dX4_told_133 rfl (lv_at hl 3 rfl) ?_
              refine lv_iconst (v := nI 2) hx hb dX4_told_134 (by decide) ?_
              refine lv_icmp_ne (tgt := 144) hx hb dX4_told_135 (by decide) (fun c_135 => ?_) (fun c_135 => ?_)
              · skip
                refine lv_iload hx hb dX4_told_144 (lv_at hl 6 rfl) ?_
                refine lv_i2l hx hb dX4_told_146 rfl ?_
                exact W.lret (v := st.toInt64) hx hb hr (fun t ht hW => ⟨_, rfl, ⟨i, ⟨hi, hp, by first | exact Or.inr (i_ltn c_32) | exact Or.inl (show i = n by omega)⟩, Or.inr ⟨by rw [htf]; exact c_108, by rw [htf]; first | exact Or.inl ⟨c_114, rfl⟩ | exact Or.inr (Or.inl ⟨c_114, c_124, rfl⟩) | exact Or.inr (Or.inr (Or.inl ⟨c_114, c_124, c_135, rfl⟩)) | exact Or.inr (Or.inr (Or.inr ⟨c_114, c_124, c_135, rfl⟩))⟩⟩, ht⟩) (fun q h => nomatch h) dX4_told_147
              · skip
                refine lv_iload hx hb dX4_told_138 (lv_at hl 5 rfl) ?_
                refine lv_i2l hx hb dX4_told_140 rfl ?_
                refine lv_goto (tgt := 147) hx hb dX4_told_141 (by decide) ?_
                exact W.lret (v := cr.toInt64) hx hb hr (fun t ht hW => ⟨_, rfl, ⟨i, ⟨hi, hp, by first | exact Or.inr (i_ltn c_32) | exact Or.inl (show i = n by omega)⟩, Or.inr ⟨by rw [htf]; exact c_108, by rw [htf]; first | exact Or.inl ⟨c_114, rfl⟩ | exact Or.inr (Or.inl ⟨c_114, c_124, rfl⟩) | exact Or.inr (Or.inr (Or.inl ⟨c_114, c_124, c_135, rfl⟩)) | exact Or.inr (Or.inr (Or.inr ⟨c_114, c_124, c_135, rfl⟩))⟩⟩, ht⟩) (fun q h => nomatch h) dX4_told_147
            · skip
              refine lv_iload hx hb dX4_told_127 (lv_at hl 4 rfl) ?_
              refine lv_i2l hx hb dX4_told_129 rfl ?_
              refine lv_goto (tgt := 147) hx hb dX4_told_130 (by decide) ?_
              exact W.lret (v := ((nI vn).toInt64)) hx hb hr (fun t ht hW => ⟨_, rfl, ⟨i, ⟨hi, hp, by first | exact Or.inr (i_ltn c_32) | exact Or.inl (show i = n by omega)⟩, Or.inr ⟨by rw [htf]; exact c_108, by rw [htf]; first | exact Or.inl ⟨c_114, rfl⟩ | exact Or.inr (Or.inl ⟨c_114, c_124, rfl⟩) | exact Or.inr (Or.inr (Or.inl ⟨c_114, c_124, c_135, rfl⟩)) | exact Or.inr (Or.inr (Or.inr ⟨c_114, c_124, c_135, rfl⟩))⟩⟩, ht⟩) (fun q h => nomatch h) dX4_told_147
          · skip
            refine lv_lload hx hb dX4_told_117 (lv_at hl 7 rfl) ?_
            refine lv_goto (tgt := 147) hx hb dX4_told_119 (by decide) ?_
            exact W.lret (v := vv) hx hb hr (fun t ht hW => ⟨_, rfl, ⟨i, ⟨hi, hp, by first | exact Or.inr (i_ltn c_32) | exact Or.inl (show i = n by omega)⟩, Or.inr ⟨by rw [htf]; exact c_108, by rw [htf]; first | exact Or.inl ⟨c_114, rfl⟩ | exact Or.inr (Or.inl ⟨c_114, c_124, rfl⟩) | exact Or.inr (Or.inr (Or.inl ⟨c_114, c_124, c_135, rfl⟩)) | exact Or.inr (Or.inr (Or.inr ⟨c_114, c_124, c_135, rfl⟩))⟩⟩, ht⟩) (fun q h => nomatch h) dX4_told_147
        · have c_108 := (zn_eq0 (by omega)).mp c_108
          refine lv_lconst (v := 0) hx hb dX4_told_111 (by decide) ?_
          exact W.lret (v := 0) hx hb hr (fun t ht hW => ⟨_, rfl, ⟨i, ⟨hi, hp, by first | exact Or.inr (i_ltn c_32) | exact Or.inl (show i = n by omega)⟩, Or.inl ⟨by rw [htf]; exact c_108, rfl⟩⟩, ht⟩) (fun q h => nomatch h) dX4_told_112
      · have c_21 := mt (nI_leI (by omega) (by omega)).mpr c_21
        refine lv_aload_n hx hb dX4_told_24 rfl (lv_at hl 0 rfl) ?_
        refine va_get (D := D) (ci := 4) (v := .ref mr) (C := RX4) (T := TX4) (N := 20) hx hb hts mu_X4 hown hK hP 0 rfl rfl 2 (by decide) (hts _ (List.mem_cons_of_mem _ mw_436)) (fun _ h9 => h9) rfl dX4_told_25 ?_
        refine lv_iload hx hb dX4_told_28 (lv_at hl 8 rfl) ?_
        refine rk_iald hx hb hK hP 2 0 rfl rfl (i := i) (by omega) (by decide) dX4_told_30 ?_
        refine lv_iload_n hx hb dX4_told_31 rfl (lv_at hl 2 rfl) ?_
        refine lv_icmp_gt (tgt := 106) hx hb dX4_told_32 (by decide) (fun c_32 => ?_) (fun c_32 => ?_)
        · skip
          refine lv_iload hx hb dX4_told_106 (lv_at hl 4 rfl) ?_
          refine lv_if_ne (tgt := 113) hx hb dX4_told_108 (by decide) (fun c_108 => ?_) (fun c_108 => ?_)
          · have c_108 := mt (zn_eq0 (by omega)).mpr c_108
            refine lv_iload_n hx hb dX4_told_113 rfl (lv_at hl 3 rfl) ?_
            refine lv_if_ne (tgt := 122) hx hb dX4_told_114 (by decide) (fun c_114 => ?_) (fun c_114 => ?_)
            · skip
              refine lv_iload_n hx hb dX4_told_122 rfl (lv_at hl 3 rfl) ?_
              refine lv_iconst (v := nI 1) hx hb dX4_told_123 (by decide) ?_
              refine lv_icmp_ne (tgt := 133) hx hb dX4_told_124 (by decide) (fun c_124 => ?_) (fun c_124 => ?_)
              · skip
                refine lv_iload_n hx hb dX4_told_133 rfl (lv_at hl 3 rfl) ?_
                refine lv_iconst (v := nI 2) hx hb dX4_told_134 (by decide) ?_
                refine lv_icmp_ne (tgt := 144) hx hb dX4_told_135 (by decide) (fun c_135 => ?_) (fun c_135 => ?_)
                · skip
                  refine lv_iload hx hb dX4_told_144 (lv_at hl 6 rfl) ?_
                  refine lv_i2l hx hb dX4_told_146 rfl ?_
                  exact W.lret (v := st.toInt64) hx hb hr (fun t ht hW => ⟨_, rfl, ⟨i, ⟨hi, hp, by first | exact Or.inr (i_ltn c_32) | exact Or.inl (show i = n by omega)⟩, Or.inr ⟨by rw [htf]; exact c_108, by rw [htf]; first | exact Or.inl ⟨c_114, rfl⟩ | exact Or.inr (Or.inl ⟨c_114, c_124, rfl⟩) | exact Or.inr (Or.inr (Or.inl ⟨c_114, c_124, c_135, rfl⟩)) | exact Or.inr (Or.inr (Or.inr ⟨c_114, c_124, c_135, rfl⟩))⟩⟩, ht⟩) (fun q h => nomatch h) dX4_told_147
                · skip
                  refine lv_iload hx hb dX4_told_138 (lv_at hl 5 rfl) ?_
                  refine lv_i2l hx hb dX4_told_140 rfl ?_
                  refine lv_goto (tgt := 147) hx hb dX4_told_141 (by decide) ?_
                  exact W.lret (v := cr.toInt64) hx hb hr (fun t ht hW => ⟨_, rfl, ⟨i, ⟨hi, hp, by first | exact Or.inr (i_ltn c_32) | exact Or.inl (show i = n by omega)⟩, Or.inr ⟨by rw [htf]; exact c_108, by rw [htf]; first | exact Or.inl ⟨c_114, rfl⟩ | exact Or.inr (Or.inl ⟨c_114, c_124, rfl⟩) | exact Or.inr (Or.inr (Or.inl ⟨c_114, c_124, c_135, rfl⟩)) | exact Or.inr (Or.inr (Or.inr ⟨c_114, c_124, c_135, rfl⟩))⟩⟩, ht⟩) (fun q h => nomatch h) dX4_told_147
              · skip
                refine lv_iload hx hb dX4_told_127 (lv_at hl 4 rfl) ?_
                refine lv_i2l hx hb dX4_told_129 rfl ?_
                refine lv_goto (tgt := 147) hx hb dX4_told_130 (by decide) ?_
                exact W.lret (v := ((nI vn).toInt64)) hx hb hr (fun t ht hW => ⟨_, rfl, ⟨i, ⟨hi, hp, by first | exact Or.inr (i_ltn c_32) | exact Or.inl (show i = n by omega)⟩, Or.inr ⟨by rw [htf]; exact c_108, by rw [htf]; first | exact Or.inl ⟨c_114, rfl⟩ | exact Or.inr (Or.inl ⟨c_114, c_124, rfl⟩) | exact Or.inr (Or.inr (Or.inl ⟨c_114, c_124, c_135, rfl⟩)) | exact Or.inr (Or.inr (Or.inr ⟨c_114, c_124, c_135, rfl⟩))⟩⟩, ht⟩) (fun q h => nomatch h) dX4_told_147
            · skip
              refine lv_lload hx hb dX4_told_117 (lv_at hl 7 rfl) ?_
              refine lv_goto (tgt := 147) hx hb dX4_told_119 (by decide) ?_
              exact W.lret (v := vv) hx hb hr (fun t ht hW => ⟨_, rfl, ⟨i, ⟨hi, hp, by first | exact Or.inr (i_ltn c_32) | exact Or.inl (show i = n by omega)⟩, Or.inr ⟨by rw [htf]; exact c_108, by rw [htf]; first | exact Or.inl ⟨c_114, rfl⟩ | exact Or.inr (Or.inl ⟨c_114, c_124, rfl⟩) | exact Or.inr (Or.inr (Or.inl ⟨c_114, c_124, c_135, rfl⟩)) | exact Or.inr (Or.inr (Or.inr ⟨c_114, c_124, c_135, rfl⟩))⟩⟩, ht⟩) (fun q h => nomatch h) dX4_told_147
          · have c_108 := (zn_eq0 (by omega)).mp c_108
            refine lv_lconst (v := 0) hx hb dX4_told_111 (by decide) ?_
            exact W.lret (v := 0) hx hb hr (fun t ht hW => ⟨_, rfl, ⟨i, ⟨hi, hp, by first | exact Or.inr (i_ltn c_32) | exact Or.inl (show i = n by omega)⟩, Or.inl ⟨by rw [htf]; exact c_108, rfl⟩⟩, ht⟩) (fun q h => nomatch h) dX4_told_112
        · skip
          refine lv_aload_n hx hb dX4_told_35 rfl (lv_at hl 0 rfl) ?_
          refine va_get (D := D) (ci := 4) (v := .ref mk) (C := RX4) (T := TX4) (N := 20) hx hb hts mu_X4 hown hK hP 0 rfl rfl 1 (by decide) (hts _ (List.mem_cons_of_mem _ mw_435)) (fun _ h9 => h9) rfl dX4_told_36 ?_
          refine lv_iload hx hb dX4_told_39 (lv_at hl 8 rfl) ?_
          refine rk_iald hx hb hK hP 1 0 rfl rfl (i := i) (by omega) (by decide) dX4_told_41 ?_
          refine lv_iload_n hx hb dX4_told_42 rfl (lv_at hl 1 rfl) ?_
          refine lv_icmp_eq (tgt := 49) hx hb dX4_told_43 (by decide) (fun c_43 => ?_) (fun c_43 => ?_)
          · skip
            refine lv_aload_n hx hb dX4_told_49 rfl (lv_at hl 0 rfl) ?_
            refine va_get (D := D) (ci := 4) (v := .ref ms) (C := RX4) (T := TX4) (N := 20) hx hb hts mu_X4 hown hK hP 0 rfl rfl 5 (by decide) (hts _ (List.mem_cons_of_mem _ mw_439)) (fun _ h9 => h9) rfl dX4_told_50 ?_
            refine lv_iload hx hb dX4_told_53 (lv_at hl 8 rfl) ?_
            refine rk_zald hx hb hK hP 5 2 rfl rfl (i := i) (by omega) (by decide) dX4_told_55 ?_
            refine lv_if_ne (tgt := 65) hx hb dX4_told_56 (by decide) (fun c_56 => ?_) (fun c_56 => ?_)
            · skip
              refine lv_iload hx hb dX4_told_65 (lv_at hl 4 rfl) ?_
              refine lv_if_ne (tgt := 79) hx hb dX4_told_67 (by decide) (fun c_67 => ?_) (fun c_67 => ?_)
              · have c_67 := mt (zn_eq0 (by omega)).mpr c_67
                refine lv_iinc (v := nI (vn + 1)) (lv' := [(4, .int (nI (vn + 1))), (0, .ref m0), (1, .int key), (2, .int a), (3, .int w), (5, .int cr), (6, .int st), (7, .long vv), (9, .int (nI i))]) hx hb dX4_told_79 hl (k := 4) rfl (by rw [show Int32.ofInt 1 = nI 1 by decide, nI_add]) (by decide) rfl (fun ls hl => ?_)
                refine lv_aload_n hx hb dX4_told_82 rfl (lv_at hl 1 rfl) ?_
                refine va_get (D := D) (ci := 4) (v := .ref mr) (C := RX4) (T := TX4) (N := 20) hx hb hts mu_X4 hown hK hP 0 rfl rfl 2 (by decide) (hts _ (List.mem_cons_of_mem _ mw_436)) (fun _ h9 => h9) rfl dX4_told_83 ?_
                refine lv_iload hx hb dX4_told_86 (lv_at hl 8 rfl) ?_
                refine rk_iald hx hb hK hP 2 0 rfl rfl (i := i) (by omega) (by decide) dX4_told_88 ?_
                refine lv_istore (lv' := [(6, .int (er i)), (4, .int (nI (vn + 1))), (0, .ref m0), (1, .int key), (2, .int a), (3, .int w), (5, .int cr), (7, .long vv), (9, .int (nI i))]) hx hb dX4_told_89 hl (by decide) rfl (fun ls hl => ?_)
                refine lv_aload_n hx hb dX4_told_91 rfl (lv_at hl 2 rfl) ?_
                refine va_get (D := D) (ci := 4) (v := .ref mv) (C := RX4) (T := TX4) (N := 20) hx hb hts mu_X4 hown hK hP 0 rfl rfl 4 (by decide) (hts _ (List.mem_cons_of_mem _ mw_438)) (fun _ h9 => h9) rfl dX4_told_92 ?_
                refine lv_iload hx hb dX4_told_95 (lv_at hl 8 rfl) ?_
                refine rk_lald hx hb hK hP 4 1 rfl rfl (i := i) (by omega) (by decide) dX4_told_97 ?_
                refine lv_lstore (lv' := [(7, .long (ev i)), (6, .int (er i)), (4, .int (nI (vn + 1))), (0, .ref m0), (1, .int key), (2, .int a), (3, .int w), (5, .int cr), (9, .int (nI i))]) hx hb dX4_told_98 hl (by decide) rfl (fun ls hl => ?_)
                refine lv_iinc (v := nI (i + 1)) (lv' := [(9, .int (nI (i + 1))), (7, .long (ev i)), (6, .int (er i)), (4, .int (nI (vn + 1))), (0, .ref m0), (1, .int key), (2, .int a), (3, .int w), (5, .int cr)]) hx hb dX4_told_100 hl (k := 8) rfl (by rw [show Int32.ofInt 1 = nI 1 by decide, nI_add]) (by decide) rfl (fun ls hl => ?_)
                refine lv_goto (tgt := 15) hx hb dX4_told_103 (by decide) ?_
                exact ih_15 (vn + 1) cr (er i) (ev i) (i + 1) (by omega) (by omega) (by intro q hq1; rcases ls_or hq1 with h | h; exact hp q h; subst h; exact i_nlt c_32) (by first | exact tf_a htf c_43 | exact tf_b htf c_43 c_56 | exact tf_c htf c_43 c_56 c_67 | exact tf_d htf c_43 c_56 c_67) (by omega) ls (lv_sub hl [4, 5, 6, 7, 3, 8, 2, 1, 0] rfl)
              · have c_67 := (zn_eq0 (by omega)).mp c_67
                refine lv_aload_n hx hb dX4_told_70 rfl (lv_at hl 0 rfl) ?_
                refine va_get (D := D) (ci := 4) (v := .ref mr) (C := RX4) (T := TX4) (N := 20) hx hb hts mu_X4 hown hK hP 0 rfl rfl 2 (by decide) (hts _ (List.mem_cons_of_mem _ mw_436)) (fun _ h9 => h9) rfl dX4_told_71 ?_
                refine lv_iload hx hb dX4_told_74 (lv_at hl 8 rfl) ?_
                refine rk_iald hx hb hK hP 2 0 rfl rfl (i := i) (by omega) (by decide) dX4_told_76 ?_
                refine lv_istore (lv' := [(5, .int (er i)), (0, .ref m0), (1, .int key), (2, .int a), (3, .int w), (4, .int (nI vn)), (6, .int st), (7, .long vv), (9, .int (nI i))]) hx hb dX4_told_77 hl (by decide) rfl (fun ls hl => ?_)
                refine lv_iinc (v := nI (vn + 1)) (lv' := [(4, .int (nI (vn + 1))), (5, .int (er i)), (0, .ref m0), (1, .int key), (2, .int a), (3, .int w), (6, .int st), (7, .long vv), (9, .int (nI i))]) hx hb dX4_told_79 hl (k := 5) rfl (by rw [show Int32.ofInt 1 = nI 1 by decide, nI_add]) (by decide) rfl (fun ls hl => ?_)
                refine lv_aload_n hx hb dX4_told_82 rfl (lv_at hl 2 rfl) ?_
                refine va_get (D := D) (ci := 4) (v := .ref mr) (C := RX4) (T := TX4) (N := 20) hx hb hts mu_X4 hown hK hP 0 rfl rfl 2 (by decide) (hts _ (List.mem_cons_of_mem _ mw_436)) (fun _ h9 => h9) rfl dX4_told_83 ?_
                refine lv_iload hx hb dX4_told_86 (lv_at hl 8 rfl) ?_
                refine rk_iald hx hb hK hP 2 0 rfl rfl (i := i) (by omega) (by decide) dX4_told_88 ?_
                refine lv_istore (lv' := [(6, .int (er i)), (4, .int (nI (vn + 1))), (5, .int (er i)), (0, .ref m0), (1, .int key), (2, .int a), (3, .int w), (7, .long vv), (9, .int (nI i))]) hx hb dX4_told_89 hl (by decide) rfl (fun ls hl => ?_)
                refine lv_aload_n hx hb dX4_told_91 rfl (lv_at hl 3 rfl) ?_
                refine va_get (D := D) (ci := 4) (v := .ref mv) (C := RX4) (T := TX4) (N := 20) hx hb hts mu_X4 hown hK hP 0 rfl rfl 4 (by decide) (hts _ (List.mem_cons_of_mem _ mw_438)) (fun _ h9 => h9) rfl dX4_told_92 ?_
                refine lv_iload hx hb dX4_told_95 (lv_at hl 8 rfl) ?_
                refine rk_lald hx hb hK hP 4 1 rfl rfl (i := i) (by omega) (by decide) dX4_told_97 ?_
                refine lv_lstore (lv' := [(7, .long (ev i)), (6, .int (er i)), (4, .int (nI (vn + 1))), (5, .int (er i)), (0, .ref m0), (1, .int key), (2, .int a), (3, .int w), (9, .int (nI i))]) hx hb dX4_told_98 hl (by decide) rfl (fun ls hl => ?_)
                refine lv_iinc (v := nI (i + 1)) (lv' := [(9, .int (nI (i + 1))), (7, .long (ev i)), (6, .int (er i)), (4, .int (nI (vn + 1))), (5, .int (er i)), (0, .ref m0), (1, .int key), (2, .int a), (3, .int w)]) hx hb dX4_told_100 hl (k := 8) rfl (by rw [show Int32.ofInt 1 = nI 1 by decide, nI_add]) (by decide) rfl (fun ls hl => ?_)
                refine lv_goto (tgt := 15) hx hb dX4_told_103 (by decide) ?_
                exact ih_15 (vn + 1) (er i) (er i) (ev i) (i + 1) (by omega) (by omega) (by intro q hq1; rcases ls_or hq1 with h | h; exact hp q h; subst h; exact i_nlt c_32) (by first | exact tf_a htf c_43 | exact tf_b htf c_43 c_56 | exact tf_c htf c_43 c_56 c_67 | exact tf_d htf c_43 c_56 c_67) (by omega) ls (lv_sub hl [5, 6, 7, 8, 3, 4, 2, 1, 0] rfl)
            · skip
              refine lv_iconst (v := nI 0) hx hb dX4_told_59 (by decide) ?_
              refine lv_istore (lv' := [(4, .int (nI 0)), (0, .ref m0), (1, .int key), (2, .int a), (3, .int w), (5, .int cr), (6, .int st), (7, .long vv), (9, .int (nI i))]) hx hb dX4_told_60 hl (by decide) rfl (fun ls hl => ?_)
              refine lv_goto (tgt := 100) hx hb dX4_told_62 (by decide) ?_
              refine lv_iinc (v := nI (i + 1)) (lv' := [(9, .int (nI (i + 1))), (4, .int (nI 0)), (0, .ref m0), (1, .int key), (2, .int a), (3, .int w), (5, .int cr), (6, .int st), (7, .long vv)]) hx hb dX4_told_100 hl (k := 8) rfl (by rw [show Int32.ofInt 1 = nI 1 by decide, nI_add]) (by decide) rfl (fun ls hl => ?_)
              refine lv_goto (tgt := 15) hx hb dX4_told_103 (by decide) ?_
              exact ih_15 0 cr st vv (i + 1) (by omega) (by omega) (by intro q hq1; rcases ls_or hq1 with h | h; exact hp q h; subst h; exact i_nlt c_32) (by first | exact tf_a htf c_43 | exact tf_b htf c_43 c_56 | exact tf_c htf c_43 c_56 c_67 | exact tf_d htf c_43 c_56 c_67) (by omega) ls (lv_sub hl [2, 3, 4, 5, 1, 6, 7, 8, 0] rfl)
          · skip
            refine lv_goto (tgt := 100) hx hb dX4_told_46 (by decide) ?_
            refine lv_iinc (v := nI (i + 1)) (lv' := [(9, .int (nI (i + 1))), (0, .ref m0), (1, .int key), (2, .int a), (3, .int w), (4, .int (nI vn)), (5, .int cr), (6, .int st), (7, .long vv)]) hx hb dX4_told_100 hl (k := 8) rfl (by rw [show Int32.ofInt 1 = nI 1 by decide, nI_add]) (by decide) rfl (fun ls hl => ?_)
            refine lv_goto (tgt := 15) hx hb dX4_told_103 (by decide) ?_
            exact ih_15 vn cr st vv (i + 1) (by omega) (by omega) (by intro q hq1; rcases ls_or hq1 with h | h; exact hp q h; subst h; exact i_nlt c_32) (by first | exact tf_a htf c_43 | exact tf_b htf c_43 c_56 | exact tf_c htf c_43 c_56 c_67 | exact tf_d htf c_43 c_56 c_67) (by omega) ls (lv_sub hl [1, 2, 3, 4, 5, 6, 7, 8, 0] rfl)
  -- on to the loop
  exact hloop_15 ((n - 0) + 1) 0 (nI 0) (nI 0) 0 0 (Nat.lt_succ_self _) (by omega) (fun q h => absurd h (Nat.not_lt_zero q)) (rfl) (by omega) ls (lv_sub hl [5, 6, 7, 8, 4, 3, 2, 1, 0] rfl)
