/-! THE NUMBERS, 3: an event more on both sides. -/
theorem i300 {r : Nat} (h : r ≤ 300) : nI r ≤ nI 300 := (nI_leI (by omega) (by omega)).mpr h
theorem app_CJ {r1 : Nat} {d d1 : LD} {key : Int32} (hC : CJ r1 d) (hr : r1 ≤ 300) (hn : eN d ≤ 2000) (h1 : eN d1 = eN d + 1) (hK : eK d1 = upd (eK d) (eN d) key) (hR : eR d1 = upd (eR d) (eN d) (nI r1)) (hS : ∀ e, e ≠ eN d → eS d1 e = eS d e)
    (hP : ((∀ j, j < eN d → ¬ hol d key (nI r1) j) ∧ eP d1 = upd (eP d) (eN d) (nI 301)) ∨ ∃ j, j < eN d ∧ hol d key (nI r1) j ∧ eP d1 = upd (upd (eP d) j (nI r1)) (eN d) (nI 301)) (hB : ∃ bn, bnk d bn ∧ srt (upd (eK d) (eN d) key) bn (eB d1) (eN d)) : CJ r1 d1 := by
  have hC9 := hC
  obtain ⟨c1, c2, c3, c4, b9, hb9, hi9, hs9⟩ := hC
  have kN : eK d1 (eN d) = key := by rw [hK]; exact pk_us
  have kO : ∀ e, e < eN d → eK d1 e = eK d e := fun e he => by rw [hK]; exact pk_un (by omega)
  have rN : eR d1 (eN d) = nI r1 := by rw [hR]; exact pk_us
  have rO : ∀ e, e < eN d → eR d1 e = eR d e := fun e he => by rw [hR]; exact pk_un (by omega)
  have hle : ∀ e, e < eN d1 → eR d1 e ≤ nI r1 := fun e he => by
    rw [h1] at he
    rcases ls_or he with h | h
    · rw [rO e h]; exact c2 e h
    · rw [h, rN]; exact Int32.le_refl _
  refine ⟨fun i j hij hj => ?_, hle, fun e he => ?_, fun e he hSe a ha => ?_, ?_⟩
  · rw [h1] at hj
    rcases ls_or hj with h | h
    · rw [rO i (by omega), rO j h]; exact c1 i j hij h
    · rw [h, rN]; exact hle i (by omega)
  · rw [hS e (by omega)]; exact c3 e (by omega)
  · have pN : eP d1 (eN d) = nI 301 := by
      rcases hP with ⟨-, hP⟩ | ⟨j, -, -, hP⟩ <;> (rw [hP]; exact pk_us)
    rw [h1] at he
    rcases ls_or he with h | h
    · rw [hS e (by omega)] at hSe
      have old := c4 e h hSe a ha
      have hnew : (∀ x, e < x → x < eN d1 → eK d1 x = eK d1 e → a < eR d1 x) ↔ ((∀ x, e < x → x < eN d → eK d x = eK d e → a < eR d x) ∧ (key = eK d e → a < nI r1)) := by
        constructor
        · intro g
          refine ⟨fun x hx1 hx2 hk => ?_, fun hk => ?_⟩
          · have := g x hx1 (by omega) (by rw [kO x hx2, kO e h]; exact hk)
            rw [rO x hx2] at this
            exact this
          · have := g (eN d) h (by omega) (by rw [kN, kO e h]; exact hk)
            rw [rN] at this
            exact this
        · rintro ⟨g1, g2⟩ x hx1 hx2 hk
          rw [h1] at hx2
          rcases ls_or hx2 with q | q
          · rw [rO x q]; exact g1 x hx1 q (by rw [← kO x q, ← kO e h]; exact hk)
          · rw [q, rN]; exact g2 (by rw [← kN, ← kO e h, ← q]; exact hk)
      rw [hnew, ← old]
      -- an event that doesn't hold was replaced before
      have hoth : eK d e = key → ¬ hol d key (nI r1) e → a < eP d e → a < nI r1 := by
        intro hk hnh hap
        have h5 : ¬ (nI r1 < eP d e) := fun z => hnh ⟨hk, hSe, c2 e h, z⟩
        rw [c4 e h hSe (nI r1) (i300 hr)] at h5
        obtain ⟨x, h6⟩ := Classical.not_forall.mp h5
        obtain ⟨hx1, h7⟩ := Classical.not_imp.mp h6
        obtain ⟨hx2, h8⟩ := Classical.not_imp.mp h7
        obtain ⟨hx3, h9⟩ := Classical.not_imp.mp h8
        exact Int32.lt_of_lt_of_le (old.mp hap x hx1 hx2 hx3) (i_nlt h9)
      rcases hP with ⟨hno, hP⟩ | ⟨j, hj, hh, hP⟩
      · have pe : eP d1 e = eP d e := by rw [hP]; exact pk_un (by omega)
        rw [pe]
        exact ⟨fun g => ⟨g, fun hk => hoth hk.symm (hno e h) g⟩, fun g => g.1⟩
      · by_cases hej : e = j
        · subst hej
          have pe : eP d1 e = nI r1 := by rw [hP, pk_un (by omega)]; exact pk_us
          rw [pe]
          refine ⟨fun g => ⟨?_, fun _ => g⟩, fun g => g.2 hh.1.symm⟩
          have h5 := (c4 e h hSe (nI r1) (i300 hr)).mp hh.2.2.2
          rw [old]
          intro x hx1 hx2 hk
          exact absurd (c2 x hx2) (i_ltn (h5 x hx1 hx2 hk))
        · have pe : eP d1 e = eP d e := by rw [hP, pk_un (by omega), pk_un hej]
          rw [pe]
          exact ⟨fun g => ⟨g, fun hk => hoth hk.symm (fun z => hej (hol_u hC9 (i300 hr) h hj z hh)) g⟩, fun g => g.1⟩
    · rw [h, pN]
      exact ⟨fun _ x hx1 hx2 => absurd hx2 (by omega), fun _ => Int32.lt_of_le_of_lt ha (by decide)⟩
  · obtain ⟨b0, hb0, pl, hpl, s1, s2, s3, s4, s5⟩ := hB
    have hbe : ∀ t, t < eN d → b0 t = b9 t := fun t ht => bnk_u hn hb0 hb9 ht
    have hlt : ∀ t, t < eN d → b9 t < eN d := fun t ht => (hb9 t ht).2
    have kU : ∀ t, t < eN d → upd (eK d) (eN d) key t = eK d t := fun t ht => pk_un (by omega)
    have kS : upd (eK d) (eN d) key (eN d) = key := pk_us
    refine ⟨fun q => if q < pl then b9 q else if q = pl then eN d else b9 (q - 1), fun q hq => ?_, fun q t hq ht => ?_, fun q t hqt ht => ?_⟩
    · rw [h1] at hq
      by_cases q1 : q < pl
      · simp only [q1, if_true]
        rw [s2 q q1, hbe q (by omega)]
        exact ⟨rfl, by have := hlt q (by omega); omega⟩
      · by_cases q2 : q = pl
        · subst q2
          simp only [Nat.lt_irrefl, if_false, if_true]
          exact ⟨s1, by omega⟩
        · simp only [q1, q2, if_false]
          rw [s3 q (by omega) (by omega), hbe (q - 1) (by omega)]
          exact ⟨rfl, by have := hlt (q - 1) (by omega); omega⟩
    · rw [h1] at hq ht
      intro e
      by_cases q1 : q < pl
      · have hq9 := hlt q (by omega)
        by_cases t1 : t < pl
        · simp only [q1, t1, if_true] at e
          exact hi9 q t (by omega) (by omega) e
        · by_cases t2 : t = pl
          · subst t2
            simp only [q1, Nat.lt_irrefl, if_true, if_false] at e
            omega
          · simp only [q1, t1, t2, if_true, if_false] at e
            have := hi9 q (t - 1) (by omega) (by omega) e
            omega
      · by_cases q2 : q = pl
        · subst q2
          by_cases t1 : t < q
          · simp only [t1, Nat.lt_irrefl, if_true, if_false] at e
            have := hlt t (by omega)
            omega
          · by_cases t2 : t = q
            · exact t2.symm
            · simp only [t1, t2, Nat.lt_irrefl, if_true, if_false] at e
              have := hlt (t - 1) (by omega)
              omega
        · have hq9 := hlt (q - 1) (by omega)
          by_cases t1 : t < pl
          · simp only [q1, q2, t1, if_true, if_false] at e
            have := hi9 (q - 1) t (by omega) (by omega) e
            omega
          · by_cases t2 : t = pl
            · subst t2
              simp only [q1, q2, Nat.lt_irrefl, if_true, if_false] at e
              omega
            · simp only [q1, q2, t1, t2, if_false] at e
              have := hi9 (q - 1) (t - 1) (by omega) (by omega) e
              omega
    · rw [h1] at ht
      have kl : pl = 0 ∨ eK d (b9 (pl - 1)) ≤ key := by
        rcases s4 with s4 | s4
        · exact Or.inl s4
        · rcases Nat.eq_zero_or_pos pl with z | z
          · exact Or.inl z
          · rw [hbe (pl - 1) (by omega), kU _ (hlt _ (by omega)), kS] at s4
            exact Or.inr s4
      have kg : ∀ q, pl ≤ q → q < eN d → key < eK d (b9 q) := fun q h1 h2 => by
        have := s5 q h1 h2
        rw [hbe q h2, kU _ (hlt _ h2), kS] at this
        exact this
      show eK d1 (if q < pl then b9 q else if q = pl then eN d else b9 (q - 1)) ≤ eK d1 (if t < pl then b9 t else if t = pl then eN d else b9 (t - 1))
      by_cases q1 : q < pl
      · have hq9 := hlt q (by omega)
        by_cases t1 : t < pl
        · simp only [q1, t1, if_true]
          rw [kO _ hq9, kO _ (hlt t (by omega))]
          exact hs9 q t hqt (by omega)
        · by_cases t2 : t = pl
          · subst t2
            simp only [q1, Nat.lt_irrefl, if_true, if_false]
            rw [kO _ hq9, kN]
            rcases kl with z | z
            · omega
            · exact Int32.le_trans (hs9 q (t - 1) (by omega) (by omega)) z
          · simp only [q1, t1, t2, if_true, if_false]
            rw [kO _ hq9, kO _ (hlt (t - 1) (by omega))]
            exact hs9 q (t - 1) (by omega) (by omega)
      · by_cases q2 : q = pl
        · subst q2
          by_cases t2 : t = q
          · rw [t2]; exact Int32.le_refl _
          · have t1 : ¬ t < q := by omega
            simp only [t1, t2, Nat.lt_irrefl, if_true, if_false]
            rw [kN, kO _ (hlt (t - 1) (by omega))]
            exact Int32.le_of_lt (kg (t - 1) (by omega) (by omega))
        · have t1 : ¬ t < pl := by omega
          have t2 : ¬ t = pl := by omega
          simp only [q1, q2, t1, t2, if_false]
          rw [kO _ (hlt (q - 1) (by omega)), kO _ (hlt (t - 1) (by omega))]
          exact hs9 (q - 1) (t - 1) (by omega) (by omega)
theorem app_MI {r1 : Nat} {d d1 : LD} {md md1 : ME} {key b : Int32} {v : Int64} (hC : CJ r1 d) (hM : MI d md) (hr : r1 ≤ 300) (hn : eN d ≤ 2000) (hA : addR (nI r1) key b v md md1) (h1 : eN d1 = eN d + 1) (hK : eK d1 = upd (eK d) (eN d) key) (hR : eR d1 = upd (eR d) (eN d) (nI r1)) (hS : ∀ e, e ≠ eN d → eS d1 e = eS d e) (hSn : eS d1 (eN d) = b)
    (hV : ∀ e, e ≠ eN d → eV d1 e = eV d e) (hW : ∀ e, e ≠ eN d → eW d1 e = eW d e) (hCc : ∀ e, e ≠ eN d → eC d1 e = eC d e)
    (hX : b ≠ 0 → eV d1 (eN d) = v ∧ (((∀ j, j < eN d → ¬ hol d key (nI r1) j) ∧ eW d1 (eN d) = nI 1 ∧ eC d1 (eN d) = nI r1) ∨ ∃ j, j < eN d ∧ hol d key (nI r1) j ∧ eW d1 (eN d) = eW d j + nI 1 ∧ eC d1 (eN d) = eC d j)) : MI d1 md1 := by
  obtain ⟨m1, m2, m3, m4, m5, m6, m7⟩ := hM
  obtain ⟨a1, a2, a3, a4, a5, mm, hp, a6⟩ := hA
  rw [m1] at hp a1 a2 a3 a4 a5
  have hall : ∀ q, q < eN d → mR md q ≤ nI r1 := fun q hq => by rw [m3 q hq]; exact hC.2.1 q hq
  have emm := pre_all hp hall
  subst emm
  have kN : mK md1 (eN d) = key := by rw [a2]; exact pk_us
  have kO : ∀ e, e < eN d → mK md1 e = mK md e := fun e he => by rw [a2]; exact pk_un (by omega)
  have rO : ∀ e, e < eN d → mR md1 e = mR md e := fun e he => by rw [a3]; exact pk_un (by omega)
  have vO : ∀ e, e < eN d → mV md1 e = mV md e := fun e he => by rw [a4]; exact pk_uLn (by omega)
  have sO : ∀ e, e < eN d → mS md1 e = mS md e := fun e he => by rw [a5]; exact pk_un (by omega)
  have sN : mS md1 (eN d) = b := by rw [a5]; exact pk_us
  have rN : mR md1 (eN d) = nI r1 := by rw [a3]; exact pk_us
  have tO : ∀ (k : Int32) (e : Nat), e ≤ eN d → tf md1 k e = tf md k e := fun k e he => tf_c9 (fun q hq => kO q (by omega)) (fun q hq => rO q (by omega)) (fun q hq => sO q (by omega)) (fun q hq => vO q (by omega))
  refine ⟨by rw [a1, h1], fun e he => ?_, fun e he => ?_, fun e he => ?_, fun e he hs => ?_, fun e he => ?_, fun e he hs => ?_⟩
  · rw [h1] at he
    rcases ls_or he with h | h
    · rw [kO e h, hK, pk_un (by omega)]; exact m2 e h
    · rw [h, kN, hK]; exact pk_us.symm
  · rw [h1] at he
    rcases ls_or he with h | h
    · rw [rO e h, hR, pk_un (by omega)]; exact m3 e h
    · rw [h, rN, hR]; exact pk_us.symm
  · rw [h1] at he
    rcases ls_or he with h | h
    · rw [sO e h, hS e (by omega)]; exact m4 e h
    · rw [h, sN, hSn]
  · rw [h1] at he
    rcases ls_or he with h | h
    · rw [vO e h, hV e (by omega)]; exact m5 e h (by rw [← hS e (by omega)]; exact hs)
    · rw [h] at hs ⊢
      rw [hSn] at hs
      rw [(hX hs).1, a4]; exact pk_uLs
  · rw [h1] at he ⊢
    rcases ls_or he with h | h
    · have old := m6 e h
      have hkeep : (mK md e = key → False) → mX md1 e = mX md e → nxR (mK md1) (mX md1) (eN d + 1) e := by
        intro hne hx
        rcases old with ⟨o1, o2⟩ | ⟨t, o1, o2, o3, o4, o5⟩
        · refine Or.inl ⟨by rw [hx]; exact o1, fun q hq1 hq2 => ?_⟩
          rw [kO e h]
          rcases ls_or hq2 with z | z
          · rw [kO q z]; exact o2 q hq1 z
          · rw [z, kN]; exact fun y => hne y.symm
        · exact Or.inr ⟨t, o1, by omega, by rw [hx]; exact o3, by rw [kO t o2, kO e h]; exact o4, fun q hq1 hq2 => by rw [kO q (by omega), kO e h]; exact o5 q hq1 hq2⟩
      have hkeep2 : (∃ t, e < t ∧ t < eN d ∧ mK md t = mK md e) → mX md1 e = mX md e → nxR (mK md1) (mX md1) (eN d + 1) e := by
        rintro ⟨t9, y1, y2, y3⟩ hx
        rcases old with ⟨o1, o2⟩ | ⟨t, o1, o2, o3, o4, o5⟩
        · exact absurd y3 (o2 t9 y1 y2)
        · exact Or.inr ⟨t, o1, by omega, by rw [hx]; exact o3, by rw [kO t o2, kO e h]; exact o4, fun q hq1 hq2 => by rw [kO q (by omega), kO e h]; exact o5 q hq1 hq2⟩
      rcases a6 with ⟨g1, g2⟩ | ⟨j, g1, g2⟩
      · exact hkeep (g1 e h) (by rw [g2, m1]; exact pk_un (by omega))
      · by_cases hej : e = j
        · subst hej
          refine Or.inr ⟨eN d, h, by omega, by rw [g2, m1, pk_un (by omega)]; exact pk_us, by rw [kN, kO e h]; exact g1.2.1.symm, fun q hq1 hq2 => ?_⟩
          rw [kO q hq2, kO e h, g1.2.1]
          exact g1.2.2 q hq1 hq2
        · have hx : mX md1 e = mX md e := by rw [g2, m1, pk_un (by omega), pk_un hej]
          rcases Classical.em (mK md e = key) with z | z
          · have : e < j := by
              rcases Nat.lt_trichotomy e j with y | y | y
              · exact y
              · exact absurd y hej
              · exact absurd z (g1.2.2 e y h)
            exact hkeep2 ⟨j, this, g1.1, by rw [z]; exact g1.2.1⟩ hx
          · exact hkeep z hx
    · refine Or.inl ⟨?_, fun q hq1 hq2 => absurd hq2 (by omega)⟩
      rw [h]
      rcases a6 with ⟨-, g2⟩ | ⟨j, -, g2⟩ <;> (rw [g2, m1]; exact pk_us)
  · rw [h1] at he
    rcases ls_or he with h | h
    · have ek : eK d1 e = eK d e := by rw [hK]; exact pk_un (by omega)
      rw [hW e (by omega), hCc e (by omega), ek, tO _ (e + 1) (by omega)]
      exact m7 e h (by rw [← hS e (by omega)]; exact hs)
    · rw [h] at hs ⊢
      rw [hSn] at hs
      have ek : eK d1 (eN d) = key := by rw [hK]; exact pk_us
      rw [ek]
      have e0 : tf md1 key (eN d) = tf md key (eN d) := tO key _ (Nat.le_refl _)
      have hsn : ¬ mS md1 (eN d) = 0 := by rw [sN]; exact hs
      have hpR : pre (eR d) (eN d) (nI r1) (eN d) := pre_of hC.2.1
      rcases (hX hs).2 with ⟨x1, x2, x3⟩ | ⟨j, hj, x1, x2, x3⟩
      · rcases tf_last md key (eN d) with ⟨t1, -⟩ | ⟨t, t1, t2, -⟩
        · rw [tf_c rfl kN hsn (by rw [e0]; exact t1), x2, x3, rN, e0, t1]
          exact ⟨rfl, rfl⟩
        · have ht : t < eN d := t1.1
          exact absurd ((hol_iff hC (i300 hr) hpR ht).mpr ⟨lsj_c m2 t1, by rw [← m4 t ht]; exact t2⟩) (x1 t ht)
      · have hj9 := (hol_iff hC (i300 hr) hpR hj).mp x1
        have hjl : lsj (mK md) key (eN d) j := lsj_c (fun q hq => (m2 q hq).symm) hj9.1
        rcases tf_last md key (eN d) with ⟨-, t2⟩ | ⟨t, t1, t2, t3, t4, -⟩
        · exact absurd (by rw [← m4 j hj]; exact t2 j hjl) hj9.2
        · have := lsj_u t1 hjl
          subst this
          have h7 := m7 t hj hj9.2
          rw [hj9.1.2.1, ← t3] at h7
          rw [tf_d rfl kN hsn (by rw [e0]; exact t4), x2, x3, h7.1, h7.2, e0, nI_add]
          exact ⟨rfl, rfl⟩
theorem set_step {r1 : Nat} {d d1 : LD} {md md1 : ME} {key : Int32} {v : Int64} (hC : CJ r1 d) (hM : MI d md) (hr : r1 ≤ 300) (hn : eN d ≤ 2000) (h : setR r1 key v d d1) (hA : addR (nI r1) key (nI 1) v md md1) : CJ r1 d1 ∧ MI d1 md1 := by
  obtain ⟨h1, h2, h3, h4, h5, h6, h7⟩ := h
  have hS : ∀ e, e ≠ eN d → eS d1 e = eS d e := fun e he => by rw [h4]; exact pk_un he
  have hV : ∀ e, e ≠ eN d → eV d1 e = eV d e := fun e he => by rw [h5]; exact pk_uLn he
  refine ⟨app_CJ hC hr hn h1 h2 h3 hS ?_ h6, app_MI hC hM hr hn hA h1 h2 h3 hS (by rw [h4]; exact pk_us) hV (fun e he => ?_) (fun e he => ?_) (fun _ => ⟨by rw [h5]; exact pk_uLs, ?_⟩)⟩
  · rcases h7 with ⟨g1, g2, -⟩ | ⟨j, g1, g2, g3, -⟩
    · exact Or.inl ⟨g1, g2⟩
    · exact Or.inr ⟨j, g1, g2, g3⟩
  · rcases h7 with ⟨-, -, g, -⟩ | ⟨j, -, -, -, g, -⟩ <;> (rw [g]; exact pk_un he)
  · rcases h7 with ⟨-, -, -, g⟩ | ⟨j, -, -, -, -, g⟩ <;> (rw [g]; exact pk_un he)
  · rcases h7 with ⟨g1, -, g2, g3⟩ | ⟨j, g1, g2, -, g3, g4⟩
    · exact Or.inl ⟨g1, by rw [g2]; exact pk_us, by rw [g3]; exact pk_us⟩
    · exact Or.inr ⟨j, g1, g2, by rw [g3]; exact pk_us, by rw [g4]; exact pk_us⟩
theorem rem_step {r1 : Nat} {d d1 : LD} {md md1 : ME} {key : Int32} {v : Int64} (hC : CJ r1 d) (hM : MI d md) (hr : r1 ≤ 300) (hn : eN d ≤ 2000) (ht : thr d key (nI r1)) (h : remR r1 key d d1) (hA : addR (nI r1) key (nI 0) v md md1) : CJ r1 d1 ∧ MI d1 md1 ∧ eN d1 = eN d + 1 := by
  rcases h with ⟨-, h⟩ | ⟨h1, h2, h3, h4, h5, h6, h7, h8, j, g1, g2, g3⟩
  · obtain ⟨j, hj, z⟩ := ht
    exact absurd z (h j hj)
  · refine ⟨app_CJ hC hr hn h1 h2 h3 (fun e _ => by rw [h4]) (Or.inr ⟨j, g1, g2, g3⟩) h8, app_MI hC hM hr hn hA h1 h2 h3 (fun e _ => by rw [h4]) (by rw [h4]; exact (hC.2.2.1 _ (Nat.le_refl _)).trans nI_0.symm) (fun e _ => by rw [h5]) (fun e _ => by rw [h6]) (fun e _ => by rw [h7]) (fun z => absurd nI_0 z), h1⟩
theorem CJ_up {r : Nat} {d : LD} (h : CJ r d) (hr : r ≤ 400) : CJ (r + 1) d := ⟨h.1, fun e he => Int32.le_trans (h.2.1 e he) ((nI_leI (by omega) (by omega)).mpr (by omega)), h.2.2⟩
