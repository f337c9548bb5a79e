/-! THE NUMBERS, 6: what is read. -/
section Rd
variable {r : Nat} {co rev a a1 t bb : Int32}
theorem rd_ok (h : rdR r co rev a) (g : rdM r co rev (nI 0) a1 t) : t = nI 0 ∧ a1 = a := by
  obtain ⟨g1, g2⟩ := g
  rcases h with ⟨h1, h2⟩ | ⟨h1, h2, h3, h4, h5⟩
  · refine ⟨?_, ?_⟩
    · rcases g2 with ⟨g | g, -⟩ | ⟨-, g, -⟩ | ⟨-, -, g⟩
      · exact absurd nI_0 g
      · rw [h1] at g; exact absurd g (by decide)
      · exact absurd h1 g
      · exact g
    · rcases g1 with ⟨-, g⟩ | ⟨g, -⟩
      · rw [g, h2]
      · exact absurd h1 g
  · refine ⟨?_, ?_⟩
    · rcases g2 with ⟨g | g, -⟩ | ⟨-, -, g | g, -⟩ | ⟨-, -, g⟩
      · exact absurd nI_0 g
      · exact absurd g h1
      · exact absurd g h3
      · exact absurd h4 (i_ltn g)
      · exact g
    · rcases g1 with ⟨g, -⟩ | ⟨-, g⟩
      · exact absurd g h2
      · rw [g, h5]
theorem rd_IA (h : rdE r co rev xIA) (g : rdM r co rev bb a1 t) : t = nI 1 := by
  have h0 : rev < 0 := by
    rcases h with ⟨-, h⟩ | ⟨h, -⟩
    · exact h
    · exact absurd h (by decide)
  rcases g.2 with ⟨-, g⟩ | ⟨g, -⟩ | ⟨g, -⟩
  · exact g
  · exact absurd (Or.inr h0) g
  · exact absurd (Or.inr h0) g
theorem rd_bb (g : rdM r co rev (nI 1) a1 t) : t = nI 1 := by
  have h0 : nI 1 ≠ 0 := by decide
  rcases g.2 with ⟨-, g⟩ | ⟨g, -⟩ | ⟨g, -⟩
  · exact g
  · exact absurd (Or.inl h0) g
  · exact absurd (Or.inl h0) g
theorem rd_IS (h : rdE r co rev xIS) (g : rdM r co rev (nI 0) a1 t) : t = nI 2 := by
  obtain ⟨h1, h2, h3⟩ : ¬ rev < 0 ∧ rev ≠ 0 ∧ (rev < co ∨ nI r < rev) := by
    rcases h with ⟨h, -⟩ | ⟨-, h⟩
    · exact absurd h (by decide)
    · exact h
  rcases g.2 with ⟨g | g, -⟩ | ⟨-, -, -, g⟩ | ⟨-, g | g, -⟩
  · exact absurd nI_0 g
  · exact absurd g h1
  · exact g
  · exact absurd g h2
  · exact absurd h3 g
theorem rd_le (h : rdR r co rev a) : a ≤ nI r := by
  rcases h with ⟨-, h⟩ | ⟨-, -, -, h1, h2⟩
  · rw [h]; exact Int32.le_refl _
  · rw [h2]; exact h1
end Rd
section Fx2
variable {r : Nat} {d : LD} {tz : Nat} {tv tq ta : Nat → Int32} {tl : Nat → Int64} {zz : Nat} {ka sa : Nat → Int32} {va : Nat → Int64} {zn : Nat} {kb sb : Nat → Int32} {vb : Nat → Int64} {md : ME} {pk pb : Nat → Int32} {pv : Nat → Int64} {co : Int32} {of : Nat → Int64}
theorem ne1 : nI 1 ≠ 0 := by decide
theorem ne2 : nI 2 ≠ 0 := by decide
theorem ne3 : nI 3 ≠ 0 := by decide
theorem g_get {key rev x : Int32} {u : Nat → Int64} {y : Int64} {u1 : Int32} (h : KC r d tz tv tq zz ka sa va zn kb sb vb md pk pb pv)
    (hp : (x = nI 0 ∧ ∃ a, rdR r co rev a ∧ ∃ j, j < eN d ∧ hol d key a j ∧ u 0 = eV d j) ∨ (x = nI 1 ∧ u = of ∧ rdE r co rev xIA) ∨ (x = nI 2 ∧ u = of ∧ rdE r co rev xIS) ∨ (x = nI 3 ∧ u = of ∧ ∃ a, rdR r co rev a ∧ ¬ thr d key a))
    (hq : ∃ a t, rdM r co rev (nI 0) a t ∧ ((t ≠ 0 ∧ u1 = t) ∨ (t = 0 ∧ thN md key a ∧ u1 = nI 3) ∨ (t = 0 ∧ thY md key a ∧ u1 = t ∧ tlR md key a (nI 0) y))) : u1 = x ∧ (x = 0 → u 0 = y) := by
  obtain ⟨⟨h1, h2, hC, hM⟩, -⟩ := h
  have hr : r ≤ 300 := by omega
  obtain ⟨a1, t, g, hq⟩ := hq
  rcases hp with ⟨p1, a, p2, j, p3, p4, p5⟩ | ⟨p1, -, p2⟩ | ⟨p1, -, p2⟩ | ⟨p1, -, a, p2, p3⟩
  · obtain ⟨e1, e2⟩ := rd_ok p2 g
    subst e2
    have ha := Int32.le_trans (rd_le p2) (i300 hr)
    rcases hq with ⟨q, -⟩ | ⟨-, q, -⟩ | ⟨-, -, q1, q2⟩
    · exact absurd (e1.trans nI_0) q
    · exact absurd ⟨j, p3, p4⟩ (thr_N hC hM ha q)
    · exact ⟨by rw [q1, e1, p1], fun _ => rd_eq hC hM ha (Or.inr ⟨j, p3, p4, Or.inl ⟨rfl, p5⟩⟩) q2⟩
  · have e := rd_IA p2 g
    rcases hq with ⟨-, q⟩ | ⟨q, -⟩ | ⟨q, -⟩
    · exact ⟨by rw [q, e, p1], fun z => absurd (p1.symm.trans z) ne1⟩
    · exact absurd (e.symm.trans q) ne1
    · exact absurd (e.symm.trans q) ne1
  · have e := rd_IS p2 g
    rcases hq with ⟨-, q⟩ | ⟨q, -⟩ | ⟨q, -⟩
    · exact ⟨by rw [q, e, p1], fun z => absurd (p1.symm.trans z) ne2⟩
    · exact absurd (e.symm.trans q) ne2
    · exact absurd (e.symm.trans q) ne2
  · obtain ⟨e1, e2⟩ := rd_ok p2 g
    subst e2
    have ha := Int32.le_trans (rd_le p2) (i300 hr)
    rcases hq with ⟨q, -⟩ | ⟨-, -, q⟩ | ⟨-, q, -⟩
    · exact absurd (e1.trans nI_0) q
    · exact ⟨by rw [q, p1], fun z => absurd (p1.symm.trans z) ne3⟩
    · exact absurd ((thr_iff hC hM ha).mpr q) p3
theorem g_state {key rev w x : Int32} {u : Nat → Int64} {y : Int32} {u1 : Int32} (h : KC r d tz tv tq zz ka sa va zn kb sb vb md pk pb pv)
    (hp : (x = nI 0 ∧ ¬ (w < nI 1 ∨ nI 3 < w) ∧ ∃ a y, rdR r co rev a ∧ rdv d key a w y ∧ u 0 = y.toInt32.toInt64) ∨ (x = nI 1 ∧ u = of ∧ ((w < nI 1 ∨ nI 3 < w) ∨ (¬ (w < nI 1 ∨ nI 3 < w) ∧ rdE r co rev xIA))) ∨ (x = nI 2 ∧ u = of ∧ ¬ (w < nI 1 ∨ nI 3 < w) ∧ rdE r co rev xIS))
    (hq : ∃ bb a t, (((w < nI 1 ∨ nI 3 < w) ∧ bb = nI 1) ∨ (¬ (w < nI 1 ∨ nI 3 < w) ∧ bb = nI 0)) ∧ rdM r co rev bb a t ∧ u1 = t ∧ (t ≠ 0 ∨ (t = 0 ∧ ∃ y1, tlR md key a w y1 ∧ y = y1.toInt32))) : u1 = x ∧ (x = 0 → u 0 = y.toInt64) := by
  obtain ⟨⟨h1, h2, hC, hM⟩, -⟩ := h
  have hr : r ≤ 300 := by omega
  obtain ⟨bb, a1, t, hb, g, q1, q2⟩ := hq
  rcases hp with ⟨p1, p2, a, y0, p3, p4, p5⟩ | ⟨p1, -, p2⟩ | ⟨p1, -, p2, p3⟩
  · have e0 : bb = nI 0 := by
      rcases hb with ⟨z, -⟩ | ⟨-, z⟩
      · exact absurd z p2
      · exact z
    subst e0
    obtain ⟨e1, e2⟩ := rd_ok p3 g
    subst e2
    have ha := Int32.le_trans (rd_le p3) (i300 hr)
    refine ⟨by rw [q1, e1, p1], fun _ => ?_⟩
    rcases q2 with q2 | ⟨-, y1, q2, q3⟩
    · exact absurd (e1.trans nI_0) q2
    · rw [p5, q3, rd_eq hC hM ha p4 q2]
  · refine ⟨?_, fun z => absurd (p1.symm.trans z) ne1⟩
    rw [q1, p1]
    rcases p2 with p2 | ⟨-, p2⟩
    · rcases hb with ⟨-, z⟩ | ⟨z, -⟩
      · subst z; exact rd_bb g
      · exact absurd p2 z
    · exact rd_IA p2 g
  · refine ⟨?_, fun z => absurd (p1.symm.trans z) ne2⟩
    rw [q1, p1]
    rcases hb with ⟨z, -⟩ | ⟨-, z⟩
    · exact absurd z p2
    · subst z; exact rd_IS p3 g
theorem pre_M (hM : MI d md) {a : Int32} {mm : Nat} (h : pre (mR md) (mN md) a mm) : pre (eR d) (eN d) a mm := by
  rw [hM.1] at h
  exact pre_c hM.2.2.1 h
theorem g_many {lw hg rev x : Int32} {u : Nat → Int64} {y : Int32} {u1 : Int32 × (Nat → Int32)} (h : KC r d tz tv tq zz ka sa va zn kb sb vb md pk pb pv)
    (hp : (x = nI 0 ∧ ∃ a, rdR r co rev a ∧ u 0 = (nI (cnt (fun t => wn d lw hg a t) (eN d))).toInt64) ∨ (x = nI 1 ∧ u = of ∧ rdE r co rev xIA) ∨ (x = nI 2 ∧ u = of ∧ rdE r co rev xIS))
    (hq : ∃ a, rdM r co rev (nI 0) a u1.1 ∧ ((u1.1 ≠ 0 ∧ True) ∨ (u1.1 = 0 ∧ ∃ mm cv, pre (mR md) (mN md) a mm ∧ y = nI cv ∧ gat md lw hg a mm cv u1.2))) : u1.1 = x ∧ (x = 0 → u 0 = y.toInt64) := by
  obtain ⟨⟨h1, h2, hC, hM⟩, -⟩ := h
  have hr : r ≤ 300 := by omega
  obtain ⟨a1, g, hq⟩ := hq
  rcases hp with ⟨p1, a, p2, p3⟩ | ⟨p1, -, p2⟩ | ⟨p1, -, p2⟩
  · obtain ⟨e1, e2⟩ := rd_ok p2 g
    subst e2
    have ha := Int32.le_trans (rd_le p2) (i300 hr)
    refine ⟨by rw [e1, p1], fun _ => ?_⟩
    rcases hq with ⟨q, -⟩ | ⟨-, mm, cv, q1, q2, q3⟩
    · exact absurd (e1.trans nI_0) q
    · rw [p3, q2, q3.1, cnt_many hC hM (by omega) ha (pre_M hM q1)]
  · exact ⟨by rw [rd_IA p2 g, p1], fun z => absurd (p1.symm.trans z) ne1⟩
  · exact ⟨by rw [rd_IS p2 g, p1], fun z => absurd (p1.symm.trans z) ne2⟩
theorem g_key {lw hg rev ix x : Int32} {bn : Nat → Nat} {u : Nat → Int64} {y : Int32} {u1 : Int32 × (Nat → Int32)} (h : KC r d tz tv tq zz ka sa va zn kb sb vb md pk pb pv) (hbn : bnk d bn)
    (hp : (x = nI 0 ∧ ∃ a, rdR r co rev a ∧ ∃ q, q < eN d ∧ u 0 = (eK d (bn q)).toInt64 ∧ wn d lw hg a (bn q) ∧ ix = nI (cnt (fun t => wn d lw hg a (bn t)) q)) ∨ (x = nI 1 ∧ u = of ∧ rdE r co rev xIA) ∨ (x = nI 2 ∧ u = of ∧ rdE r co rev xIS) ∨ (x = nI 3 ∧ u = of ∧ ∃ a, rdR r co rev a ∧ ∀ q, q < eN d → wn d lw hg a (bn q) → ix ≠ nI (cnt (fun t => wn d lw hg a (bn t)) q)))
    (hq : ∃ a t, rdM r co rev (nI 0) a t ∧ ((t ≠ 0 ∧ u1.1 = t) ∨ (t = 0 ∧ ∃ mm cv b, pre (mR md) (mN md) a mm ∧ gat md lw hg a mm cv b ∧ (((ix < 0 ∨ nI cv ≤ ix) ∧ u1.1 = nI 3) ∨ (∃ iw, iw < cv ∧ ix = nI iw ∧ u1.1 = t ∧ ∃ b2, srtB cv b b2 (iw + 1) ∧ y = b2 iw))))) : u1.1 = x ∧ (x = 0 → u 0 = y.toInt64) := by
  obtain ⟨⟨h1, h2, hC, hM⟩, -⟩ := h
  have hr : r ≤ 300 := by omega
  obtain ⟨a1, t, g, hq⟩ := hq
  have hi' : ∀ q t, q < eN d → t < eN d → bn q = bn t → q = t := by
    obtain ⟨b9, hb9, hi, -⟩ := hC.2.2.2.2
    intro q t hq ht e
    exact hi q t hq ht (by rw [bnk_u (by omega) hb9 hbn hq, bnk_u (by omega) hb9 hbn ht]; exact e)
  rcases hp with ⟨p1, a, p2, q, p3, p4, p5, p6⟩ | ⟨p1, -, p2⟩ | ⟨p1, -, p2⟩ | ⟨p1, -, a, p2, p3⟩
  · obtain ⟨e1, e2⟩ := rd_ok p2 g
    subst e2
    have ha := Int32.le_trans (rd_le p2) (i300 hr)
    rcases hq with ⟨z, -⟩ | ⟨-, mm, cv, b, q1, q2, q3⟩
    · exact absurd (e1.trans nI_0) z
    · have hp9 := pre_M hM q1
      have hcv : cnt (fun t => wn d lw hg a1 (bn t)) (eN d) = cv := by rw [row_cnt hbn hi', q2.1, cnt_many hC hM (by omega) ha hp9]
      have hlt := cnt_lt (Pr := fun t => wn d lw hg a1 (bn t)) p3 p5
      have hle := cnt_le (fun t => wn d lw hg a1 (bn t)) (eN d)
      rcases q3 with ⟨z | z, -⟩ | ⟨iw, q3, q4, q5, b2, q6, q7⟩
      · rw [p6] at z; exact absurd z (nI_pos (by omega))
      · rw [p6] at z; exact absurd ((nI_leI (by omega) (by omega)).mp z) (by omega)
      · rw [p6] at q4
        have e4 := (nI_eq (by omega) (by omega)).mp q4
        exact ⟨by rw [q5, e1, p1], fun _ => by rw [p4, q7, key_eq hC hM (by omega) ha hbn hp9 q2 q6 q3 p3 p5 e4]⟩
  · have e := rd_IA p2 g
    rcases hq with ⟨-, q⟩ | ⟨q, -⟩
    · exact ⟨by rw [q, e, p1], fun z => absurd (p1.symm.trans z) ne1⟩
    · exact absurd (e.symm.trans q) ne1
  · have e := rd_IS p2 g
    rcases hq with ⟨-, q⟩ | ⟨q, -⟩
    · exact ⟨by rw [q, e, p1], fun z => absurd (p1.symm.trans z) ne2⟩
    · exact absurd (e.symm.trans q) ne2
  · obtain ⟨e1, e2⟩ := rd_ok p2 g
    subst e2
    have ha := Int32.le_trans (rd_le p2) (i300 hr)
    rcases hq with ⟨z, -⟩ | ⟨-, mm, cv, b, q1, q2, q3⟩
    · exact absurd (e1.trans nI_0) z
    · rcases q3 with ⟨-, z⟩ | ⟨iw, q3, q4, q5, -⟩
      · exact ⟨by rw [z, p1], fun z => absurd (p1.symm.trans z) ne3⟩
      · have hp9 := pre_M hM q1
        have hcv : cnt (fun t => wn d lw hg a1 (bn t)) (eN d) = cv := by rw [row_cnt hbn hi', q2.1, cnt_many hC hM (by omega) ha hp9]
        obtain ⟨q, f1, f2, f3⟩ := cnt_surj (Pr := fun t => wn d lw hg a1 (bn t)) (m := eN d) (t := iw) (by omega)
        exact absurd (by rw [q4, f3]) (p3 q f1 f2)
theorem g_compact {rev x u : Int32} {u1 : Int32 × Int32} (hp : (x = nI 0 ∧ ¬ (rev < nI 1 ∨ nI r < rev) ∧ co < rev ∧ u = rev) ∨ (x = nI 1 ∧ (rev < nI 1 ∨ nI r < rev) ∧ u = co) ∨ (x = nI 2 ∧ ¬ (rev < nI 1 ∨ nI r < rev) ∧ ¬ co < rev ∧ u = co))
    (hq : ((rev < nI 1 ∨ nI r < rev) ∧ u1 = (nI 1, co)) ∨ (¬ (rev < nI 1 ∨ nI r < rev) ∧ ¬ co < rev ∧ u1 = (nI 2, co)) ∨ (¬ (rev < nI 1 ∨ nI r < rev) ∧ co < rev ∧ u1 = (nI 0, rev))) : u1.1 = x ∧ u1.2 = u := by
  rcases hp with ⟨p1, p2, p3, p4⟩ | ⟨p1, p2, p3⟩ | ⟨p1, p2, p3, p4⟩ <;> rcases hq with ⟨q1, q2⟩ | ⟨q1, q2, q3⟩ | ⟨q1, q2, q3⟩
  · exact absurd q1 p2
  · exact absurd p3 q2
  · subst q3; exact ⟨p1.symm, p4.symm⟩
  · subst q2; exact ⟨p1.symm, p3.symm⟩
  · exact absurd p2 q1
  · exact absurd p2 q1
  · exact absurd q1 p2
  · subst q3; exact ⟨p1.symm, p4.symm⟩
  · exact absurd q2 p3
theorem fst_u {er f2 : Nat → Int32} {n f g : Nat} {fr : Int32} (he : ∀ q, q < n → er q = f2 q) (h : f ≤ n ∧ (∀ q, q < f → er q < fr) ∧ (f = n ∨ ¬ er f < fr)) (k : g ≤ n ∧ (∀ q, q < g → f2 q < fr) ∧ (g = n ∨ ¬ f2 g < fr)) : f = g := by
  obtain ⟨h1, h2, h3⟩ := h
  obtain ⟨k1, k2, k3⟩ := k
  rcases Nat.lt_trichotomy f g with z | z | z
  · rcases h3 with h3 | h3
    · omega
    · exact absurd (by rw [he f (by omega)]; exact k2 f z) h3
  · exact z
  · rcases k3 with k3 | k3
    · omega
    · exact absurd (by rw [← he g (by omega)]; exact h2 g z) k3
theorem g_event {fr ix w x : Int32} {u : Nat → Int64} {y u1 : Int32} (h : KC r d tz tv tq zz ka sa va zn kb sb vb md pk pb pv)
    (hp : (x = nI 0 ∧ ¬ badE fr w ∧ co < fr ∧ ∃ f j y, fst d fr f ∧ ix = nI j ∧ f + j < eN d ∧ dsc d (f + j) w y ∧ u 0 = y.toInt64) ∨ (x = nI 1 ∧ u = of ∧ badE fr w) ∨ (x = nI 2 ∧ u = of ∧ ¬ badE fr w ∧ ¬ co < fr) ∨ (x = nI 3 ∧ u = of ∧ ¬ badE fr w ∧ co < fr ∧ ∃ f, fst d fr f ∧ (ix < 0 ∨ nI (eN d - f) ≤ ix)))
    (hq : (badE fr w ∧ u1 = nI 1) ∨ (¬ badE fr w ∧ ¬ co < fr ∧ u1 = nI 2) ∨ (¬ badE fr w ∧ co < fr ∧ ∃ f, (f ≤ mN md ∧ (∀ q, q < f → mR md q < fr) ∧ (f = mN md ∨ ¬ mR md f < fr)) ∧ (((ix < 0 ∨ nI (mN md - f) ≤ ix) ∧ u1 = nI 3) ∨ (∃ j, ix = nI j ∧ f + j < mN md ∧ u1 = nI 0 ∧ ((w = 0 ∧ y = mK md (f + j)) ∨ (w ≠ 0 ∧ w = nI 1 ∧ y = mR md (f + j)) ∨ (w ≠ 0 ∧ w ≠ nI 1 ∧ ((mS md (f + j) ≠ 0 ∧ y = nI 1) ∨ (mS md (f + j) = 0 ∧ y = nI 0)))))))) : u1 = x ∧ (x = 0 → u 0 = y.toInt64) := by
  obtain ⟨⟨h1, h2, hC, hM⟩, -⟩ := h
  obtain ⟨m1, m2, m3, m4, -⟩ := hM
  rw [m1] at hq
  rcases hp with ⟨p1, p2, p3, f, j, y0, p4, p5, p6, p7, p8⟩ | ⟨p1, -, p2⟩ | ⟨p1, -, p2, p3⟩ | ⟨p1, -, p2, p3, f, p4, p5⟩
  · rcases hq with ⟨q1, -⟩ | ⟨-, q1, -⟩ | ⟨-, -, g, q1, q2⟩
    · exact absurd q1 p2
    · exact absurd p3 q1
    · have e := fst_u (fun q hq => (m3 q hq).symm) p4 q1
      subst e
      rcases q2 with ⟨z | z, -⟩ | ⟨i, q2, q3, q4, q5⟩
      · rw [p5] at z; exact absurd z (nI_pos (by omega))
      · rw [p5] at z; exact absurd ((nI_leI (by omega) (by omega)).mp z) (by omega)
      · rw [p5] at q2
        have e := (nI_eq (by omega) (by omega)).mp q2
        subst e
        refine ⟨by rw [q4, p1], fun _ => ?_⟩
        rw [m2 _ p6, m3 _ p6, m4 _ p6] at q5
        rw [p8]
        congr 1
        rcases p7 with ⟨a1, a2⟩ | ⟨a0, a1, a2⟩ | ⟨a0, a1, a2⟩
        · rcases q5 with ⟨-, b2⟩ | ⟨b0, -⟩ | ⟨b0, -⟩
          · rw [a2, b2]
          · exact absurd a1 b0
          · exact absurd a1 b0
        · rcases q5 with ⟨b0, -⟩ | ⟨-, -, b2⟩ | ⟨-, b0, -⟩
          · exact absurd b0 a0
          · rw [a2, b2]
          · exact absurd a1 b0
        · rcases q5 with ⟨b0, -⟩ | ⟨-, b0, -⟩ | ⟨-, -, b2⟩
          · exact absurd b0 a0
          · exact absurd b0 a1
          · rcases a2 with ⟨a2, a3⟩ | ⟨a2, a3⟩ <;> rcases b2 with ⟨b2, b3⟩ | ⟨b2, b3⟩
            · rw [a3, b3]
            · exact absurd b2 a2
            · exact absurd a2 b2
            · rw [a3, b3]
  · refine ⟨?_, fun z => absurd (p1.symm.trans z) ne1⟩
    rcases hq with ⟨-, q1⟩ | ⟨q1, -⟩ | ⟨q1, -⟩
    · rw [q1, p1]
    · exact absurd p2 q1
    · exact absurd p2 q1
  · refine ⟨?_, fun z => absurd (p1.symm.trans z) ne2⟩
    rcases hq with ⟨q1, -⟩ | ⟨-, -, q1⟩ | ⟨-, q1, -⟩
    · exact absurd q1 p2
    · rw [q1, p1]
    · exact absurd q1 p3
  · refine ⟨?_, fun z => absurd (p1.symm.trans z) ne3⟩
    rcases hq with ⟨q1, -⟩ | ⟨-, q1, -⟩ | ⟨-, -, g, q1, q2⟩
    · exact absurd q1 p2
    · exact absurd p3 q1
    · have e := fst_u (fun q hq => (m3 q hq).symm) p4 q1
      subst e
      rcases q2 with ⟨-, z⟩ | ⟨i, q2, q3, -⟩
      · rw [z, p1]
      · rw [q2] at p5
        rcases p5 with z | z
        · exact absurd z (nI_pos (by omega))
        · exact absurd ((nI_leI (by omega) (by omega)).mp z) (by omega)
theorem g_count {w x y : Int32} (h : KC r d tz tv tq zz ka sa va zn kb sb vb md pk pb pv)
    (hp : cnR (nI r) co (nI (eN d)) (nI tz) (nI zz) (nI zn) (nI (cnt (fun t => hld (eS d) (eR d) (eP d) t (nI r)) (eN d))) w x) (hq : cnR (nI r) co (nI (mN md)) (nI tz) (nI zz) (nI zn) (nI (cnt (fun t => mX md t < 0 ∧ mS md t ≠ 0) (mN md))) w y) : x = y := by
  obtain ⟨⟨h1, h2, hC, hM⟩, -⟩ := h
  have hC9 := hC
  have hM9 := hM
  obtain ⟨m1, m2, m3, m4, m5, m6, -⟩ := hM
  obtain ⟨c1, c2, c3, c4, -⟩ := hC
  rw [m1] at hq
  have hr : r ≤ 300 := by omega
  have ec : cnt (fun t => hld (eS d) (eR d) (eP d) t (nI r)) (eN d) = cnt (fun t => mX md t < 0 ∧ mS md t ≠ 0) (eN d) := by
    refine cnt_ext (fun j hj => ?_)
    rw [m4 j hj]
    constructor
    · rintro ⟨a1, a2, a3⟩
      refine ⟨?_, a1⟩
      rcases m6 j hj with ⟨z, -⟩ | ⟨t, t1, t2, t3, t4, -⟩
      · rw [z]; decide
      · have := (c4 j hj a1 (nI r) (i300 hr)).mp a3 t t1 t2 (by rw [← m2 t t2, ← m2 j hj]; exact t4)
        exact absurd (c2 t t2) (i_ltn this)
    · rintro ⟨a1, a2⟩
      refine ⟨a2, c2 j hj, (c4 j hj a2 (nI r) (i300 hr)).mpr (fun t t1 t2 t3 => ?_)⟩
      rcases m6 j hj with ⟨-, z⟩ | ⟨t9, -, t8, z, -⟩
      · exact absurd (by rw [m2 t t2, m2 j hj]; exact t3) (z t t1 t2)
      · rw [z] at a1; exact absurd a1 (nI_pos (by omega))
  rw [ec] at hp
  obtain ⟨p0, p1, p2, p3, p4, p5, p6, p7⟩ := hp
  obtain ⟨q0, q1, q2, q3, q4, q5, q6, q7⟩ := hq
  rcases Classical.em (∃ k, k < 7 ∧ w = nI k) with ⟨k, hk, e⟩ | hno
  · rcases (show k = 0 ∨ k = 1 ∨ k = 2 ∨ k = 3 ∨ k = 4 ∨ k = 5 ∨ k = 6 by omega) with rfl | rfl | rfl | rfl | rfl | rfl | rfl
    · rw [p0 e, q0 e]
    · rw [p1 e, q1 e]
    · rw [p2 e, q2 e]
    · rw [p3 e, q3 e]
    · rw [p4 e, q4 e]
    · rw [p5 e, q5 e]
    · rw [p6 e, q6 e]
  · have hn : ∀ k, k < 7 → w ≠ nI k := fun k hk e => hno ⟨k, hk, e⟩
    rw [p7 hn, q7 hn]
theorem g_init : KC 0 (0, (fun _ => 0), (fun _ => 0), (fun _ => 0), (fun _ => 0), (fun _ => 0), (fun _ => 0), (fun _ => 0), (fun _ => 0)) 0 (fun _ => 0) (fun _ => 0) 0 (fun _ => 0) (fun _ => 0) (fun _ => 0) 0 (fun _ => 0) (fun _ => 0) (fun _ => 0) (0, (fun _ => 0), (fun _ => 0), (fun _ => 0), (fun _ => 0), (fun _ => 0)) (fun _ => 0) (fun _ => 0) (fun _ => 0) := by
  refine ⟨⟨Nat.le_refl 0, Nat.zero_le _, ⟨fun i j _ hj => absurd hj (Nat.not_lt_zero j), fun e he => absurd he (Nat.not_lt_zero e), fun _ _ => rfl, fun e he => absurd he (Nat.not_lt_zero e), fun _ => 0, fun q hq => absurd hq (Nat.not_lt_zero q), fun q t hq => absurd hq (Nat.not_lt_zero q), fun q t _ ht => absurd ht (Nat.not_lt_zero t)⟩, rfl, fun e he => absurd he (Nat.not_lt_zero e), fun e he => absurd he (Nat.not_lt_zero e), fun e he => absurd he (Nat.not_lt_zero e), fun e he => absurd he (Nat.not_lt_zero e), fun e he => absurd he (Nat.not_lt_zero e), fun e he => absurd he (Nat.not_lt_zero e)⟩, ⟨Nat.zero_le _, fun j hj => absurd hj (Nat.not_lt_zero j)⟩, Nat.zero_le _, Nat.zero_le _, fun _ _ => Or.inl nI_0.symm, fun j hj => absurd hj (Nat.not_lt_zero j), fun j hj => absurd hj (Nat.not_lt_zero j)⟩
end Fx2
