theorem rem_of {r n : Nat} {kf rf sf : Nat → Int32} {vf : Nat → Int64} {wf cf pf bf : Nat → Int32} {key : Int32} {bn : Nat → Nat} {u : Nat × (Nat → Int32) × (Nat → Int32) × (Nat → Int32) × (Nat → Int32)} (hbn : bnk (n, kf, rf, sf, vf, wf, cf, pf, bf) bn)
    (h : (u = (n, kf, rf, pf, bf) ∧ ∀ j, j < n → ¬ (kf j = key ∧ hld sf rf pf j (nI r))) ∨ (u.1 = n + 1 ∧ u.2.1 = upd kf n key ∧ u.2.2.1 = upd rf n (nI r) ∧ srt (upd kf n key) bn u.2.2.2.2 n ∧ ∃ j, j < n ∧ (kf j = key ∧ hld sf rf pf j (nI r)) ∧ u.2.2.2.1 = upd (upd pf j (nI r)) n (nI 301))) : remR r key (n, kf, rf, sf, vf, wf, cf, pf, bf) (u.1, u.2.1, u.2.2.1, sf, vf, wf, cf, u.2.2.2.1, u.2.2.2.2) := by
  rcases h with ⟨rfl, h⟩ | ⟨h1, h2, h3, h4, h5⟩
  · exact Or.inl ⟨rfl, h⟩
  · exact Or.inr ⟨h1, h2, h3, rfl, rfl, rfl, rfl, ⟨bn, hbn, h4⟩, h5⟩
set_option maxHeartbeats 4000000 in
set_option maxRecDepth 100000 in
theorem c_X2_append (l : Launch) (D : va_G) (cI cJ cZ : ClassId) (sz : Nat) (t0 tk tw tr tb tz : Nat) (ta tv tq : Nat → Int32) (tl : Nat → Int64) (htz : tz < 20) (key w q : Int32) (v : Int64) : Met l yX2_append (Cond.code yX2_append cX2_append 6 none :: wB) ({ frames := 0, cells := 0, slots := 0, locals := 0 } : Room) (rw_Pc D cI cJ cZ sz [.ref t0, .int key, .int w, .int q, .long v] [(t0, .inr (2, [.int (nI tz), .ref tk, .ref tw, .ref tr, .ref tb])), (tk, .inl (cI, 20, .inl ta)), (tw, .inl (cI, 20, .inl tv)), (tr, .inl (cI, 20, .inl tq)), (tb, .inl (cJ, 20, .inr (.inl tl)))]) (rw_Qv (S := Unit) D cI cJ cZ sz [(t0, .inr (2, [.int (nI tz), .ref tk, .ref tw, .ref tr, .ref tb])), (tk, .inl (cI, 20, .inl ta)), (tw, .inl (cI, 20, .inl tv)), (tr, .inl (cI, 20, .inl tq)), (tb, .inl (cJ, 20, .inr (.inl tl)))] (fun u => [(t0, .inr (2, [.int (nI (tz + 1)), .ref tk, .ref tw, .ref tr, .ref tb])), (tk, .inl (cI, 20, .inl (upd ta tz key))), (tw, .inl (cI, 20, .inl (upd tv tz w))), (tr, .inl (cI, 20, .inl (upd tq tz q))), (tb, .inl (cJ, 20, .inr (.inl (vp_updL tl tz v))))]) (fun _ => True)) 0 0 (va_A [(t0, .inr (2, [.int (nI tz), .ref tk, .ref tw, .ref tr, .ref tb])), (tk, .inl (cI, 20, .inl ta)), (tw, .inl (cI, 20, .inl tv)), (tr, .inl (cI, 20, .inl tq)), (tb, .inl (cJ, 20, .inr (.inl tl)))] sz) := by
  refine Met.ofW (cc := cX2_append) (maxL := 6) (ret := none) (by decide) rfl ?_
  intro p e s m args below meth c s₁ B hml hv
  obtain ⟨rfl, hsz, hP, hK, hD0⟩ := hv
  have hx := B.exec
  have hb := B.bytes
  have hr := B.returns
  have hts := atoms_spec (ws := (Cond.code yX2_append cX2_append 6 none :: wB)) B.pre
  have hown : s.vm.findClass RX2 = some m.cls := findClass_of_methodNamed B.named
  have hlocks := B.notSynchronized
  subst hsz
  have hD := hD0.self (sz := s.heap.size)
  obtain ⟨A, hAe⟩ : ∃ A, A = va_A [(t0, .inr (2, [.int (nI tz), .ref tk, .ref tw, .ref tr, .ref tb])), (tk, .inl (cI, 20, .inl ta)), (tw, .inl (cI, 20, .inl tv)), (tr, .inl (cI, 20, .inl tq)), (tb, .inl (cJ, 20, .inr (.inl tl)))] s.heap.size := ⟨_, rfl⟩
  rw [← hAe] at hD
  have hA : ∀ q : Nat, s.heap.size ≤ q → A q := fun q h => by rw [hAe]; exact Or.inr h
  have hS : va_S A s.heap s.heap [] := va_S.rf
  have hl := lv_entry ([.ref t0, .int key, .int w, .int q, .long v]) (n := 6) (Nat.le_of_ble_eq_true rfl)
  rw [lg_entry_eq]
  generalize (lg_sl ([.ref t0, .int key, .int w, .int q, .long v]) ++ List.replicate (6 - (lg_sl ([.ref t0, .int key, .int w, .int q, .long v])).length) Slot.unset).toArray = ls at hl ⊢
  have hl : lv_has ls 6 [(0, .ref t0), (1, .int key), (2, .int w), (3, .int q), (4, .long v)] := hl
  refine lv_aload_n hx hb dX2_append_0 rfl (lv_at hl 0 rfl) ?_
  refine va_get (D := D) (ci := 2) (v := .ref tk) (C := RX2) (T := TX2) (N := 5) hx hb hts mu_X2 hown hK hP 0 rfl rfl 1 (by decide) (hts _ (List.mem_cons_of_mem _ mw_74)) (fun _ h9 => h9) rfl dX2_append_1 ?_
  refine lv_aload_n hx hb dX2_append_4 rfl (lv_at hl 0 rfl) ?_
  refine va_get (D := D) (ci := 2) (v := .int (nI tz)) (C := RX2) (T := TX2) (N := 5) hx hb hts mu_X2 hown hK hP 0 rfl rfl 0 (by decide) (hts _ (List.mem_cons_of_mem _ mw_72)) (fun _ h9 => h9) rfl dX2_append_5 ?_
  refine lv_iload_n hx hb dX2_append_8 rfl (lv_at hl 1 rfl) ?_
  refine rk_iast hx hb hK hP hD hS 1 0 rfl rfl (i := tz) (by omega) (by decide) dX2_append_9 (fun H locs hP hD hS => ?_)
  have hP : va_P D vwCl [(t0, .inr (2, [.int (nI tz), .ref tk, .ref tw, .ref tr, .ref tb])), (tk, .inl (cI, 20, .inl (upd ta tz key))), (tw, .inl (cI, 20, .inl tv)), (tr, .inl (cI, 20, .inl tq)), (tb, .inl (cJ, 20, .inr (.inl tl)))] H := hP
  have hD : va_D A [(t0, .inr (2, [.int (nI tz), .ref tk, .ref tw, .ref tr, .ref tb])), (tk, .inl (cI, 20, .inl (upd ta tz key))), (tw, .inl (cI, 20, .inl tv)), (tr, .inl (cI, 20, .inl tq)), (tb, .inl (cJ, 20, .inr (.inl tl)))] := hD
  refine lv_aload_n hx hb dX2_append_10 rfl (lv_at hl 0 rfl) ?_
  refine va_get (D := D) (ci := 2) (v := .ref tw) (C := RX2) (T := TX2) (N := 5) hx hb hts mu_X2 hown hK hP 0 rfl rfl 2 (by decide) (hts _ (List.mem_cons_of_mem _ mw_75)) (fun _ h9 => h9) rfl dX2_append_11 ?_
  refine lv_aload_n hx hb dX2_append_14 rfl (lv_at hl 0 rfl) ?_
  refine va_get (D := D) (ci := 2) (v := .int (nI tz)) (C := RX2) (T := TX2) (N := 5) hx hb hts mu_X2 hown hK hP 0 rfl rfl 0 (by decide) (hts _ (List.mem_cons_of_mem _ mw_72)) (fun _ h9 => h9) rfl dX2_append_15 ?_
  refine lv_iload_n hx hb dX2_append_18 rfl (lv_at hl 2 rfl) ?_
  refine rk_iast hx hb hK hP hD hS 2 0 rfl rfl (i := tz) (by omega) (by decide) dX2_append_19 (fun H locs hP hD hS => ?_)
  have hP : va_P D vwCl [(t0, .inr (2, [.int (nI tz), .ref tk, .ref tw, .ref tr, .ref tb])), (tk, .inl (cI, 20, .inl (upd ta tz key))), (tw, .inl (cI, 20, .inl (upd tv tz w))), (tr, .inl (cI, 20, .inl tq)), (tb, .inl (cJ, 20, .inr (.inl tl)))] H := hP
  have hD : va_D A [(t0, .inr (2, [.int (nI tz), .ref tk, .ref tw, .ref tr, .ref tb])), (tk, .inl (cI, 20, .inl (upd ta tz key))), (tw, .inl (cI, 20, .inl (upd tv tz w))), (tr, .inl (cI, 20, .inl tq)), (tb, .inl (cJ, 20, .inr (.inl tl)))] := hD
  refine lv_aload_n hx hb dX2_append_20 rfl (lv_at hl 0 rfl) ?_
  refine va_get (D := D) (ci := 2) (v := .ref tr) (C := RX2) (T := TX2) (N := 5) hx hb hts mu_X2 hown hK hP 0 rfl rfl 3 (by decide) (hts _ (List.mem_cons_of_mem _ mw_76)) (fun _ h9 => h9) rfl dX2_append_21 ?_
  refine lv_aload_n hx hb dX2_append_24 rfl (lv_at hl 0 rfl) ?_
  refine va_get (D := D) (ci := 2) (v := .int (nI tz)) (C := RX2) (T := TX2) (N := 5) hx hb hts mu_X2 hown hK hP 0 rfl rfl 0 (by decide) (hts _ (List.mem_cons_of_mem _ mw_72)) (fun _ h9 => h9) rfl dX2_append_25 ?_
  refine lv_iload_n hx hb dX2_append_28 rfl (lv_at hl 3 rfl) ?_
  refine rk_iast hx hb hK hP hD hS 3 0 rfl rfl (i := tz) (by omega) (by decide) dX2_append_29 (fun H locs hP hD hS => ?_)
  have hP : va_P D vwCl [(t0, .inr (2, [.int (nI tz), .ref tk, .ref tw, .ref tr, .ref tb])), (tk, .inl (cI, 20, .inl (upd ta tz key))), (tw, .inl (cI, 20, .inl (upd tv tz w))), (tr, .inl (cI, 20, .inl (upd tq tz q))), (tb, .inl (cJ, 20, .inr (.inl tl)))] H := hP
  have hD : va_D A [(t0, .inr (2, [.int (nI tz), .ref tk, .ref tw, .ref tr, .ref tb])), (tk, .inl (cI, 20, .inl (upd ta tz key))), (tw, .inl (cI, 20, .inl (upd tv tz w))), (tr, .inl (cI, 20, .inl (upd tq tz q))), (tb, .inl (cJ, 20, .inr (.inl tl)))] := hD
  refine lv_aload_n hx hb dX2_append_30 rfl (lv_at hl 0 rfl) ?_
  refine va_get (D := D) (ci := 2) (v := .ref tb) (C := RX2) (T := TX2) (N := 5) hx hb hts mu_X2 hown hK hP 0 rfl rfl 4 (by decide) (hts _ (List.mem_cons_of_mem _ mw_77)) (fun _ h9 => h9) rfl dX2_append_31 ?_
  refine lv_aload_n hx hb dX2_append_34 rfl (lv_at hl 0 rfl) ?_
  refine va_get (D := D) (ci := 2) (v := .int (nI tz)) (C := RX2) (T := TX2) (N := 5) hx hb hts mu_X2 hown hK hP 0 rfl rfl 0 (by decide) (hts _ (List.mem_cons_of_mem _ mw_72)) (fun _ h9 => h9) rfl dX2_append_35 ?_
  refine lv_lload hx hb dX2_append_38 (lv_at hl 4 rfl) ?_
  refine rk_last hx hb hK hP hD hS 4 1 rfl rfl (i := tz) (by omega) (by decide) dX2_append_40 (fun H locs hP hD hS => ?_)
  have hP : va_P D vwCl [(t0, .inr (2, [.int (nI tz), .ref tk, .ref tw, .ref tr, .ref tb])), (tk, .inl (cI, 20, .inl (upd ta tz key))), (tw, .inl (cI, 20, .inl (upd tv tz w))), (tr, .inl (cI, 20, .inl (upd tq tz q))), (tb, .inl (cJ, 20, .inr (.inl (vp_updL tl tz v))))] H := hP
  have hD : va_D A [(t0, .inr (2, [.int (nI tz), .ref tk, .ref tw, .ref tr, .ref tb])), (tk, .inl (cI, 20, .inl (upd ta tz key))), (tw, .inl (cI, 20, .inl (upd tv tz w))), (tr, .inl (cI, 20, .inl (upd tq tz q))), (tb, .inl (cJ, 20, .inr (.inl (vp_updL tl tz v))))] := hD
  refine lv_aload_n hx hb dX2_append_41 rfl (lv_at hl 0 rfl) ?_
  refine lv_dup hx hb dX2_append_42 rfl ?_
  refine va_get (D := D) (ci := 2) (v := .int (nI tz)) (C := RX2) (T := TX2) (N := 5) hx hb hts mu_X2 hown hK hP 0 rfl rfl 0 (by decide) (hts _ (List.mem_cons_of_mem _ mw_72)) (fun _ h9 => h9) rfl dX2_append_43 ?_
  refine lv_iconst (v := nI 1) hx hb dX2_append_46 (by decide) ?_
  refine rk_iadd hx hb dX2_append_47 ?_
  refine va_put (D := D) (ci := 2) (v := .int (nI (tz + 1))) (ty := .int) (C := RX2) (T := TX2) (N := 5) hx hb hts mu_X2 tyX2 tyX2_ok nmX2 hown hK hP hD hS 0 rfl rfl 0 (by decide) (hts _ (List.mem_cons_of_mem _ mw_72)) (fun _ h9 => h9) rfl (by decide +kernel) rfl rfl (Nat.le_of_ble_eq_true rfl) dX2_append_48 (fun H locs hP hD hS => ?_)
  have hP : va_P D vwCl [(t0, .inr (2, [.int (nI (tz + 1)), .ref tk, .ref tw, .ref tr, .ref tb])), (tk, .inl (cI, 20, .inl (upd ta tz key))), (tw, .inl (cI, 20, .inl (upd tv tz w))), (tr, .inl (cI, 20, .inl (upd tq tz q))), (tb, .inl (cJ, 20, .inr (.inl (vp_updL tl tz v))))] H := hP
  have hD : va_D A [(t0, .inr (2, [.int (nI (tz + 1)), .ref tk, .ref tw, .ref tr, .ref tb])), (tk, .inl (cI, 20, .inl (upd ta tz key))), (tw, .inl (cI, 20, .inl (upd tv tz w))), (tr, .inl (cI, 20, .inl (upd tq tz q))), (tb, .inl (cJ, 20, .inr (.inl (vp_updL tl tz v))))] := hD
  exact rw_retv (u := ()) hAe (hP) (hD) hS hK (trivial) (Nat.le_of_ble_eq_true rfl) (Nat.le_of_ble_eq_true rfl) hx hb hr hlocks dX2_append_51
set_option maxHeartbeats 4000000 in
set_option maxRecDepth 100000 in
theorem c_X2_clear (l : Launch) (D : va_G) (cI cJ cZ : ClassId) (sz : Nat) (t0 tk tw tr tb tz : Nat) (ta tv tq : Nat → Int32) (tl : Nat → Int64) : Met l yX2_clear (Cond.code yX2_clear cX2_clear 1 none :: wB) ({ frames := 0, cells := 0, slots := 0, locals := 0 } : Room) (rw_Pc D cI cJ cZ sz [.ref t0] [(t0, .inr (2, [.int (nI tz), .ref tk, .ref tw, .ref tr, .ref tb])), (tk, .inl (cI, 20, .inl ta)), (tw, .inl (cI, 20, .inl tv)), (tr, .inl (cI, 20, .inl tq)), (tb, .inl (cJ, 20, .inr (.inl tl)))]) (rw_Qv (S := Unit) D cI cJ cZ sz [(t0, .inr (2, [.int (nI tz), .ref tk, .ref tw, .ref tr, .ref tb])), (tk, .inl (cI, 20, .inl ta)), (tw, .inl (cI, 20, .inl tv)), (tr, .inl (cI, 20, .inl tq)), (tb, .inl (cJ, 20, .inr (.inl tl)))] (fun u => [(t0, .inr (2, [.int (nI 0), .ref tk, .ref tw, .ref tr, .ref tb])), (tk, .inl (cI, 20, .inl ta)), (tw, .inl (cI, 20, .inl tv)), (tr, .inl (cI, 20, .inl tq)), (tb, .inl (cJ, 20, .inr (.inl tl)))]) (fun _ => True)) 0 0 (va_A [(t0, .inr (2, [.int (nI tz), .ref tk, .ref tw, .ref tr, .ref tb])), (tk, .inl (cI, 20, .inl ta)), (tw, .inl (cI, 20, .inl tv)), (tr, .inl (cI, 20, .inl tq)), (tb, .inl (cJ, 20, .inr (.inl tl)))] sz) := by
  refine Met.ofW (cc := cX2_clear) (maxL := 1) (ret := none) (by decide) rfl ?_
  intro p e s m args below meth c s₁ B hml hv
  obtain ⟨rfl, hsz, hP, hK, hD0⟩ := hv
  have hx := B.exec
  have hb := B.bytes
  have hr := B.returns
  have hts := atoms_spec (ws := (Cond.code yX2_clear cX2_clear 1 none :: wB)) B.pre
  have hown : s.vm.findClass RX2 = some m.cls := findClass_of_methodNamed B.named
  have hlocks := B.notSynchronized
  subst hsz
  have hD := hD0.self (sz := s.heap.size)
  obtain ⟨A, hAe⟩ : ∃ A, A = va_A [(t0, .inr (2, [.int (nI tz), .ref tk, .ref tw, .ref tr, .ref tb])), (tk, .inl (cI, 20, .inl ta)), (tw, .inl (cI, 20, .inl tv)), (tr, .inl (cI, 20, .inl tq)), (tb, .inl (cJ, 20, .inr (.inl tl)))] s.heap.size := ⟨_, rfl⟩
  rw [← hAe] at hD
  have hA : ∀ q : Nat, s.heap.size ≤ q → A q := fun q h => by rw [hAe]; exact Or.inr h
  have hS : va_S A s.heap s.heap [] := va_S.rf
  have hl := lv_entry ([.ref t0]) (n := 1) (Nat.le_of_ble_eq_true rfl)
  rw [lg_entry_eq]
  generalize (lg_sl ([.ref t0]) ++ List.replicate (1 - (lg_sl ([.ref t0])).length) Slot.unset).toArray = ls at hl ⊢
  have hl : lv_has ls 1 [(0, .ref t0)] := hl
  refine lv_aload_n hx hb dX2_clear_0 rfl (lv_at hl 0 rfl) ?_
  refine lv_iconst (v := nI 0) hx hb dX2_clear_1 (by decide) ?_
  refine va_put (D := D) (ci := 2) (v := .int (nI 0)) (ty := .int) (C := RX2) (T := TX2) (N := 5) hx hb hts mu_X2 tyX2 tyX2_ok nmX2 hown hK hP hD hS 0 rfl rfl 0 (by decide) (hts _ (List.mem_cons_of_mem _ mw_72)) (fun _ h9 => h9) rfl (by decide +kernel) rfl rfl (Nat.le_of_ble_eq_true rfl) dX2_clear_2 (fun H locs hP hD hS => ?_)
  have hP : va_P D vwCl [(t0, .inr (2, [.int (nI 0), .ref tk, .ref tw, .ref tr, .ref tb])), (tk, .inl (cI, 20, .inl ta)), (tw, .inl (cI, 20, .inl tv)), (tr, .inl (cI, 20, .inl tq)), (tb, .inl (cJ, 20, .inr (.inl tl)))] H := hP
  have hD : va_D A [(t0, .inr (2, [.int (nI 0), .ref tk, .ref tw, .ref tr, .ref tb])), (tk, .inl (cI, 20, .inl ta)), (tw, .inl (cI, 20, .inl tv)), (tr, .inl (cI, 20, .inl tq)), (tb, .inl (cJ, 20, .inr (.inl tl)))] := hD
  exact rw_retv (u := ()) hAe (hP) (hD) hS hK (trivial) (Nat.le_of_ble_eq_true rfl) (Nat.le_of_ble_eq_true rfl) hx hb hr hlocks dX2_clear_5
set_option maxHeartbeats 4000000 in
set_option maxRecDepth 100000 in
theorem c_X2_holds (l : Launch) (D : va_G) (cI cJ cZ : ClassId) (t0 tk tw tr tb tz : Nat) (ta tv tq : Nat → Int32) (tl : Nat → Int64) (i : Nat) (hi : i < 20) (h : Int64) : Met l yX2_holds (Cond.code yX2_holds cX2_holds 4 (some .boolean) :: wB) ({ frames := 0, cells := 0, slots := 0, locals := 0 } : Room) (ro_Pc D cI cJ cZ [.ref t0, .int (nI i), .long h] [(t0, .inr (2, [.int (nI tz), .ref tk, .ref tw, .ref tr, .ref tb])), (tk, .inl (cI, 20, .inl ta)), (tw, .inl (cI, 20, .inl tv)), (tr, .inl (cI, 20, .inl tq)), (tb, .inl (cJ, 20, .inr (.inl tl)))]) (vp_Si (fun x => (x = nI 1 ∧ tst (tq i) h (tl i)) ∨ (x = nI 0 ∧ ¬ tst (tq i) h (tl i)))) 0 0 (fun _ => False) := by
  refine Met.ofW (cc := cX2_holds) (maxL := 4) (ret := (some .boolean)) (by decide) rfl ?_
  intro p e s m args below meth c s₁ B hml hv
  obtain ⟨rfl, hP, hK⟩ := hv
  have hx := B.exec
  have hb := B.bytes
  have hr := B.returns
  have hts := atoms_spec (ws := (Cond.code yX2_holds cX2_holds 4 (some .boolean) :: wB)) B.pre
  have hown : s.vm.findClass RX2 = some m.cls := findClass_of_methodNamed B.named
  have hlocks := B.notSynchronized
  have hl := lv_entry ([.ref t0, .int (nI i), .long h]) (n := 4) (Nat.le_of_ble_eq_true rfl)
  rw [lg_entry_eq]
  generalize (lg_sl ([.ref t0, .int (nI i), .long h]) ++ List.replicate (4 - (lg_sl ([.ref t0, .int (nI i), .long h])).length) Slot.unset).toArray = ls at hl ⊢
  have hl : lv_has ls 4 [(0, .ref t0), (1, .int (nI i)), (2, .long h)] := hl
  refine lv_aload_n hx hb dX2_holds_0 rfl (lv_at hl 0 rfl) ?_
  refine va_get (D := D) (ci := 2) (v := .ref tr) (C := RX2) (T := TX2) (N := 5) hx hb hts mu_X2 hown hK hP 0 rfl rfl 3 (by decide) (hts _ (List.mem_cons_of_mem _ mw_76)) (fun _ h9 => h9) rfl dX2_holds_1 ?_
  refine lv_iload_n hx hb dX2_holds_4 rfl (lv_at hl 1 rfl) ?_
  refine rk_iald hx hb hK hP 3 0 rfl rfl (i := i) (by omega) (by decide) dX2_holds_5 ?_
  refine lv_if_ge (tgt := 26) hx hb dX2_holds_6 (by decide) (fun c_6 => ?_) (fun c_6 => ?_)
  · skip
    refine lv_aload_n hx hb dX2_holds_26 rfl (lv_at hl 0 rfl) ?_
    refine va_get (D := D) (ci := 2) (v := .ref tr) (C := RX2) (T := TX2) (N := 5) hx hb hts mu_X2 hown hK hP 0 rfl rfl 3 (by decide) (hts _ (List.mem_cons_of_mem _ mw_76)) (fun _ h9 => h9) rfl dX2_holds_27 ?_
    refine lv_iload_n hx hb dX2_holds_30 rfl (lv_at hl 1 rfl) ?_
    refine rk_iald hx hb hK hP 3 0 rfl rfl (i := i) (by omega) (by decide) dX2_holds_31 ?_
    refine lv_if_le (tgt := 52) hx hb dX2_holds_32 (by decide) (fun c_32 => ?_) (fun c_32 => ?_)
    · skip
      refine lv_lload_n hx hb dX2_holds_52 rfl (lv_at hl 2 rfl) ?_
      refine lv_aload_n hx hb dX2_holds_53 rfl (lv_at hl 0 rfl) ?_
      refine va_get (D := D) (ci := 2) (v := .ref tb) (C := RX2) (T := TX2) (N := 5) hx hb hts mu_X2 hown hK hP 0 rfl rfl 4 (by decide) (hts _ (List.mem_cons_of_mem _ mw_77)) (fun _ h9 => h9) rfl dX2_holds_54 ?_
      refine lv_iload_n hx hb dX2_holds_57 rfl (lv_at hl 1 rfl) ?_
      refine rk_lald hx hb hK hP 4 1 rfl rfl (i := i) (by omega) (by decide) dX2_holds_58 ?_
      refine W.lcmp hx hb dX2_holds_59 ?_
      refine lv_if_ne (tgt := 67) hx hb dX2_holds_60 (by decide) (fun c_60 => ?_) (fun c_60 => ?_)
      · have c_60 := mt (lg_cmp_eq _ _).mpr c_60
        refine lv_iconst (v := nI 0) hx hb dX2_holds_67 (by decide) ?_
        exact W.zret (v := (nI 0)) hx hb hr (by decide) (fun t ht hW => ⟨_, rfl, (by have c6 := i_len c_6; have c32 := i_len c_32; first | exact Or.inl ⟨rfl, Or.inr (Or.inr ⟨c6, c32, c_60⟩)⟩ | (refine Or.inr ⟨rfl, fun z => ?_⟩; rcases z with z | z | z; exact c6 z.1; exact c32 z.2.1; exact c_60 z.2.2)), ht⟩) (fun q h => nomatch h) dX2_holds_68
      · have c_60 := (lg_cmp_eq _ _).mp c_60
        refine lv_iconst (v := nI 1) hx hb dX2_holds_63 (by decide) ?_
        refine lv_goto (tgt := 68) hx hb dX2_holds_64 (by decide) ?_
        exact W.zret (v := (nI 1)) hx hb hr (by decide) (fun t ht hW => ⟨_, rfl, (by have c6 := i_len c_6; have c32 := i_len c_32; first | exact Or.inl ⟨rfl, Or.inr (Or.inr ⟨c6, c32, c_60⟩)⟩ | (refine Or.inr ⟨rfl, fun z => ?_⟩; rcases z with z | z | z; exact c6 z.1; exact c32 z.2.1; exact c_60 z.2.2)), ht⟩) (fun q h => nomatch h) dX2_holds_68
    · skip
      refine lv_lload_n hx hb dX2_holds_35 rfl (lv_at hl 2 rfl) ?_
      refine lv_aload_n hx hb dX2_holds_36 rfl (lv_at hl 0 rfl) ?_
      refine va_get (D := D) (ci := 2) (v := .ref tb) (C := RX2) (T := TX2) (N := 5) hx hb hts mu_X2 hown hK hP 0 rfl rfl 4 (by decide) (hts _ (List.mem_cons_of_mem _ mw_77)) (fun _ h9 => h9) rfl dX2_holds_37 ?_
      refine lv_iload_n hx hb dX2_holds_40 rfl (lv_at hl 1 rfl) ?_
      refine rk_lald hx hb hK hP 4 1 rfl rfl (i := i) (by omega) (by decide) dX2_holds_41 ?_
      refine W.lcmp hx hb dX2_holds_42 ?_
      refine lv_if_le (tgt := 50) hx hb dX2_holds_43 (by decide) (fun c_43 => ?_) (fun c_43 => ?_)
      · have c_43 := (lg_cmp_le _ _).mp c_43
        refine lv_iconst (v := nI 0) hx hb dX2_holds_50 (by decide) ?_
        exact W.zret (v := (nI 0)) hx hb hr (by decide) (fun t ht hW => ⟨_, rfl, (by have c6 := i_len c_6; have c32 := i_nle c_32; first | exact Or.inl ⟨rfl, Or.inr (Or.inl ⟨c6, c32, Int64.not_le.mp c_43⟩)⟩ | (refine Or.inr ⟨rfl, fun z => ?_⟩; rcases z with z | z | z; exact c6 z.1; exact absurd c_43 (Int64.not_le.mpr z.2.2); exact z.2.1 c32)), ht⟩) (fun q h => nomatch h) dX2_holds_51
      · have c_43 := mt (lg_cmp_le _ _).mpr c_43
        refine lv_iconst (v := nI 1) hx hb dX2_holds_46 (by decide) ?_
        refine lv_goto (tgt := 51) hx hb dX2_holds_47 (by decide) ?_
        exact W.zret (v := (nI 1)) hx hb hr (by decide) (fun t ht hW => ⟨_, rfl, (by have c6 := i_len c_6; have c32 := i_nle c_32; first | exact Or.inl ⟨rfl, Or.inr (Or.inl ⟨c6, c32, Int64.not_le.mp c_43⟩)⟩ | (refine Or.inr ⟨rfl, fun z => ?_⟩; rcases z with z | z | z; exact c6 z.1; exact absurd c_43 (Int64.not_le.mpr z.2.2); exact z.2.1 c32)), ht⟩) (fun q h => nomatch h) dX2_holds_51
  · skip
    refine lv_lload_n hx hb dX2_holds_9 rfl (lv_at hl 2 rfl) ?_
    refine lv_aload_n hx hb dX2_holds_10 rfl (lv_at hl 0 rfl) ?_
    refine va_get (D := D) (ci := 2) (v := .ref tb) (C := RX2) (T := TX2) (N := 5) hx hb hts mu_X2 hown hK hP 0 rfl rfl 4 (by decide) (hts _ (List.mem_cons_of_mem _ mw_77)) (fun _ h9 => h9) rfl dX2_holds_11 ?_
    refine lv_iload_n hx hb dX2_holds_14 rfl (lv_at hl 1 rfl) ?_
    refine rk_lald hx hb hK hP 4 1 rfl rfl (i := i) (by omega) (by decide) dX2_holds_15 ?_
    refine W.lcmp hx hb dX2_holds_16 ?_
    refine lv_if_ge (tgt := 24) hx hb dX2_holds_17 (by decide) (fun c_17 => ?_) (fun c_17 => ?_)
    · have c_17 := (lg_cmp_ge _ _).mp c_17
      refine lv_iconst (v := nI 0) hx hb dX2_holds_24 (by decide) ?_
      exact W.zret (v := (nI 0)) hx hb hr (by decide) (fun t ht hW => ⟨_, rfl, (by have c6 := i_nle c_6; first | exact Or.inl ⟨rfl, Or.inl ⟨c6, Int64.not_le.mp c_17⟩⟩ | (refine Or.inr ⟨rfl, fun z => ?_⟩; rcases z with z | z | z; exact absurd c_17 (Int64.not_le.mpr z.2); exact z.1 c6; exact z.1 c6)), ht⟩) (fun q h => nomatch h) dX2_holds_25
    · have c_17 := mt (lg_cmp_ge _ _).mpr c_17
      refine lv_iconst (v := nI 1) hx hb dX2_holds_20 (by decide) ?_
      refine lv_goto (tgt := 25) hx hb dX2_holds_21 (by decide) ?_
      exact W.zret (v := (nI 1)) hx hb hr (by decide) (fun t ht hW => ⟨_, rfl, (by have c6 := i_nle c_6; first | exact Or.inl ⟨rfl, Or.inl ⟨c6, Int64.not_le.mp c_17⟩⟩ | (refine Or.inr ⟨rfl, fun z => ?_⟩; rcases z with z | z | z; exact absurd c_17 (Int64.not_le.mpr z.2); exact z.1 c6; exact z.1 c6)), ht⟩) (fun q h => nomatch h) dX2_holds_25
set_option maxHeartbeats 4000000 in
set_option maxRecDepth 100000 in
theorem c_X2_allHold (l : Launch) (D : va_G) (cI cJ cZ : ClassId) (t0 tk tw tr tb tz : Nat) (ta tv tq : Nat → Int32) (tl : Nat → Int64) (htz : tz ≤ 20) (g0 gk gr gs gv gw gc gp gb r n : Nat) (kf rf sf : Nat → Int32) (vf : Nat → Int64) (wf cf pf bf : Nat → Int32) (hn : n ≤ 300) : Met l yX2_allHold (Cond.code yX2_allHold cX2_allHold 3 (some .boolean) :: wB) ({ frames := 3, cells := 0, slots := 0, locals := 69 } : Room) (ro_Pc D cI cJ cZ [.ref t0, .ref g0] [(t0, .inr (2, [.int (nI tz), .ref tk, .ref tw, .ref tr, .ref tb])), (tk, .inl (cI, 20, .inl ta)), (tw, .inl (cI, 20, .inl tv)), (tr, .inl (cI, 20, .inl tq)), (tb, .inl (cJ, 20, .inr (.inl tl))), (g0, .inr (0, [.int (nI r), .int (nI n), .ref gk, .ref gr, .ref gs, .ref gv, .ref gw, .ref gc, .ref gp, .ref gb])), (gk, .inl (cI, 300, .inl kf)), (gr, .inl (cI, 300, .inl rf)), (gs, .inl (cZ, 300, .inl sf)), (gv, .inl (cJ, 300, .inr (.inl vf))), (gw, .inl (cI, 300, .inl wf)), (gc, .inl (cI, 300, .inl cf)), (gp, .inl (cI, 300, .inl pf)), (gb, .inl (cI, 300, .inl bf))]) (vp_Si (fun x => (x = nI 1 ∧ ∀ i, i < tz → ∃ y, rdv (n, kf, rf, sf, vf, wf, cf, pf, bf) (ta i) (nI r) (tv i) y ∧ tst (tq i) y (tl i)) ∨ (x = nI 0 ∧ ∃ i, i < tz ∧ ∃ y, rdv (n, kf, rf, sf, vf, wf, cf, pf, bf) (ta i) (nI r) (tv i) y ∧ ¬ tst (tq i) y (tl i)))) 0 0 (fun _ => False) := by
  refine Met.ofW (cc := cX2_allHold) (maxL := 3) (ret := (some .boolean)) (by decide) rfl ?_
  intro p e s m args below meth c s₁ B hml hv
  obtain ⟨rfl, hP, hK⟩ := hv
  have hx := B.exec
  have hb := B.bytes
  have hr := B.returns
  have hts := atoms_spec (ws := (Cond.code yX2_allHold cX2_allHold 3 (some .boolean) :: wB)) B.pre
  have hown : s.vm.findClass RX2 = some m.cls := findClass_of_methodNamed B.named
  have hlocks := B.notSynchronized
  have hl := lv_entry ([.ref t0, .ref g0]) (n := 3) (Nat.le_of_ble_eq_true rfl)
  rw [lg_entry_eq]
  generalize (lg_sl ([.ref t0, .ref g0]) ++ List.replicate (3 - (lg_sl ([.ref t0, .ref g0])).length) Slot.unset).toArray = ls at hl ⊢
  have hl : lv_has ls 3 [(0, .ref t0), (1, .ref g0)] := hl
  refine lv_iconst (v := nI 0) hx hb dX2_allHold_0 (by decide) ?_
  refine lv_istore_n (lv' := [(2, .int (nI 0)), (0, .ref t0), (1, .ref g0)]) hx hb dX2_allHold_1 rfl hl (by decide) rfl (fun ls hl => ?_)
  have hloop_2 : ∀ (k : Nat) (i : Nat), tz - i < k → i ≤ tz → (∀ j, j < i → ∃ y, rdv (n, kf, rf, sf, vf, wf, cf, pf, bf) (ta j) (nI r) (tv j) y ∧ tst (tq j) y (tl j)) → ∀ (ls : Array Slot), lv_has ls 3 [(0, .ref t0), (1, .ref g0), (2, .int (nI i))] → W p l e ({ frames := 3, cells := 0, slots := 0, locals := 69 } : Room) s m ([.ref t0, .ref g0] : List Value).toArray below meth c s.heap [] 0 0 (MQ below (vp_Si (fun x => (x = nI 1 ∧ ∀ i, i < tz → ∃ y, rdv (n, kf, rf, sf, vf, wf, cf, pf, bf) (ta i) (nI r) (tv i) y ∧ tst (tq i) y (tl i)) ∨ (x = nI 0 ∧ ∃ i, i < tz ∧ ∃ y, rdv (n, kf, rf, sf, vf, wf, cf, pf, bf) (ta i) (nI r) (tv i) y ∧ ¬ tst (tq i) y (tl i)))) ([.ref t0, .ref g0] : List Value).toArray s 0 0 (fun _ => False)) (F0 m 2 ls []) := by
    intro k
    induction k with
    | zero => intro i hm; exact absurd hm (Nat.not_lt_zero _)
    | succ k ih_2 =>
      intro i hm_2 hi hq ls hl
      refine lv_iload_n hx hb dX2_allHold_2 rfl (lv_at hl 2 rfl) ?_
      refine lv_aload_n hx hb dX2_allHold_3 rfl (lv_at hl 0 rfl) ?_
      refine va_get (D := D) (ci := 2) (v := .int (nI tz)) (C := RX2) (T := TX2) (N := 5) hx hb hts mu_X2 hown hK hP 0 rfl rfl 0 (by decide) (hts _ (List.mem_cons_of_mem _ mw_72)) (fun _ h9 => h9) rfl dX2_allHold_4 ?_
      refine lv_icmp_ge (tgt := 46) hx hb dX2_allHold_7 (by decide) (fun c_7 => ?_) (fun c_7 => ?_)
      · have c_7 := (nI_leI (by omega) (by omega)).mp c_7
        refine lv_iconst (v := nI 1) hx hb dX2_allHold_46 (by decide) ?_
        exact W.zret (v := (nI 1)) hx hb hr (by decide) (fun t ht hW => ⟨_, rfl, (Or.inl ⟨rfl, fun j hj => hq j (by omega)⟩), ht⟩) (fun q h => nomatch h) dX2_allHold_47
      · have c_7 := mt (nI_leI (by omega) (by omega)).mpr c_7
        refine lv_aload_n hx hb dX2_allHold_10 rfl (lv_at hl 0 rfl) ?_
        refine lv_iload_n hx hb dX2_allHold_11 rfl (lv_at hl 2 rfl) ?_
        refine lv_aload_n hx hb dX2_allHold_12 rfl (lv_at hl 1 rfl) ?_
        refine lv_aload_n hx hb dX2_allHold_13 rfl (lv_at hl 0 rfl) ?_
        refine va_get (D := D) (ci := 2) (v := .ref tk) (C := RX2) (T := TX2) (N := 5) hx hb hts mu_X2 hown hK hP 0 rfl rfl 1 (by decide) (hts _ (List.mem_cons_of_mem _ mw_74)) (fun _ h9 => h9) rfl dX2_allHold_14 ?_
        refine lv_iload_n hx hb dX2_allHold_17 rfl (lv_at hl 2 rfl) ?_
        refine rk_iald hx hb hK hP 1 0 rfl rfl (i := i) (by omega) (by decide) dX2_allHold_18 ?_
        refine lv_aload_n hx hb dX2_allHold_19 rfl (lv_at hl 1 rfl) ?_
        refine va_get (D := D) (ci := 0) (v := .int (nI r)) (C := RX0) (T := TX0) (N := 10) hx hb hts mu_X0 hown hK hP 5 rfl rfl 0 (by decide) (hts _ (List.mem_cons_of_mem _ mw_29)) (fun _ h9 => h9) rfl dX2_allHold_20 ?_
        refine lv_aload_n hx hb dX2_allHold_23 rfl (lv_at hl 0 rfl) ?_
        refine va_get (D := D) (ci := 2) (v := .ref tw) (C := RX2) (T := TX2) (N := 5) hx hb hts mu_X2 hown hK hP 0 rfl rfl 2 (by decide) (hts _ (List.mem_cons_of_mem _ mw_75)) (fun _ h9 => h9) rfl dX2_allHold_24 ?_
        refine lv_iload_n hx hb dX2_allHold_27 rfl (lv_at hl 2 rfl) ?_
        refine rk_iald hx hb hK hP 2 0 rfl rfl (i := i) (by omega) (by decide) dX2_allHold_28 ?_
        refine ro_callVl (As := [.int (ta i), .int (nI r), .int (tv i)]) (rest := [.int (nI i), .ref t0]) ⟨hx, hb, hml, hown, hts⟩ (c_X0_read l D cI cJ cZ g0 gk gr gs gv gw gc gp gb r n kf rf sf vf wf cf pf bf (by omega) (ta i) (nI r) (tv i)) (cwV 3 hts (wB_V mw_313 mw_314 mw_315 mw_2 mw_316) rfl rfl rfl (by decide +kernel) ⟨Nat.le_of_ble_eq_true rfl, Nat.le_of_ble_eq_true rfl⟩) (va_recv hK hP (ci := 0) (q0 := 5) rfl rfl) (hP.sub (ws' := [(g0, .inr (0, [.int (nI r), .int (nI n), .ref gk, .ref gr, .ref gs, .ref gv, .ref gw, .ref gc, .ref gp, .ref gb])), (gk, .inl (cI, 300, .inl kf)), (gr, .inl (cI, 300, .inl rf)), (gs, .inl (cZ, 300, .inl sf)), (gv, .inl (cJ, 300, .inr (.inl vf))), (gw, .inl (cI, 300, .inl wf)), (gc, .inl (cI, 300, .inl cf)), (gp, .inl (cI, 300, .inl pf)), (gb, .inl (cI, 300, .inl bf))]) [5, 6, 7, 8, 9, 10, 11, 12, 13] rfl) hK rfl hl.1 (Nat.le_of_ble_eq_true rfl) ⟨Nat.le_of_ble_eq_true rfl, Nat.le_of_ble_eq_true rfl⟩ rfl dX2_allHold_29 (fun r_29 hw_29 => ?_)
        try dsimp only at hw_29
        refine ro_callVi (As := [.int (nI i), .long r_29]) (rest := []) ⟨hx, hb, hml, hown, hts⟩ (c_X2_holds l D cI cJ cZ t0 tk tw tr tb tz ta tv tq tl i (by omega) r_29) (cwV 2 hts (wB_V mw_317 mw_319 ms_5 mw_3 mw_320) rfl rfl rfl (by decide +kernel) ⟨Nat.le_of_ble_eq_true rfl, Nat.le_of_ble_eq_true rfl⟩) (va_recv hK hP (ci := 2) (q0 := 0) rfl rfl) (hP.sub (ws' := [(t0, .inr (2, [.int (nI tz), .ref tk, .ref tw, .ref tr, .ref tb])), (tk, .inl (cI, 20, .inl ta)), (tw, .inl (cI, 20, .inl tv)), (tr, .inl (cI, 20, .inl tq)), (tb, .inl (cJ, 20, .inr (.inl tl)))]) [0, 1, 2, 3, 4] rfl) hK rfl hl.1 (Nat.le_of_ble_eq_true rfl) ⟨Nat.le_of_ble_eq_true rfl, Nat.le_of_ble_eq_true rfl⟩ rfl dX2_allHold_32 (fun r_32 hw_32 => ?_)
        try dsimp only at hw_32
        rcases hw_32 with ⟨rfl, hw_32⟩ | ⟨rfl, hw_32⟩
        · skip
          refine lv_if_ne (tgt := 40) hx hb dX2_allHold_35 (by decide) (fun _ => ?_) (fun c => absurd c (by decide))
          refine lv_iinc (v := nI (i + 1)) (lv' := [(2, .int (nI (i + 1))), (0, .ref t0), (1, .ref g0)]) hx hb dX2_allHold_40 hl (k := 2) rfl (by rw [show Int32.ofInt 1 = nI 1 by decide, nI_add]) (by decide) rfl (fun ls hl => ?_)
          refine lv_goto (tgt := 2) hx hb dX2_allHold_43 (by decide) ?_
          exact ih_2 (i + 1) (by omega) (by omega) (by intro j hj; rcases ls_or hj with h | h; exact hq j h; subst h; exact ⟨_, hw_29, hw_32⟩) ls (lv_sub hl [1, 2, 0] rfl)
        · skip
          refine lv_if_ne (tgt := 40) hx hb dX2_allHold_35 (by decide) (fun c => absurd (by decide) c) (fun _ => ?_)
          refine lv_iconst (v := nI 0) hx hb dX2_allHold_38 (by decide) ?_
          exact W.zret (v := (nI 0)) hx hb hr (by decide) (fun t ht hW => ⟨_, rfl, (Or.inr ⟨rfl, i, by omega, _, hw_29, hw_32⟩), ht⟩) (fun q h => nomatch h) dX2_allHold_39
  -- on to the loop
  exact hloop_2 ((tz - 0) + 1) 0 (Nat.lt_succ_self _) (by omega) (fun q h => absurd h (Nat.not_lt_zero q)) ls (lv_sub hl [1, 2, 0] rfl)
set_option maxHeartbeats 4000000 in
set_option maxRecDepth 100000 in
theorem c_X1_append (l : Launch) (D : va_G) (cI cJ cZ : ClassId) (sz : Nat) (s0 sk ss sv zz : Nat) (ka sa : Nat → Int32) (va : Nat → Int64) (hzz : zz < 20) (key b : Int32) (hb01 : b = nI 0 ∨ b = nI 1) (v : Int64) : Met l yX1_append (Cond.code yX1_append cX1_append 5 none :: wB) ({ frames := 0, cells := 0, slots := 0, locals := 0 } : Room) (rw_Pc D cI cJ cZ sz [.ref s0, .int key, .int b, .long v] [(s0, .inr (1, [.int (nI zz), .ref sk, .ref ss, .ref sv])), (sk, .inl (cI, 20, .inl ka)), (ss, .inl (cZ, 20, .inl sa)), (sv, .inl (cJ, 20, .inr (.inl va)))]) (rw_Qv (S := Unit) D cI cJ cZ sz [(s0, .inr (1, [.int (nI zz), .ref sk, .ref ss, .ref sv])), (sk, .inl (cI, 20, .inl ka)), (ss, .inl (cZ, 20, .inl sa)), (sv, .inl (cJ, 20, .inr (.inl va)))] (fun u => [(s0, .inr (1, [.int (nI (zz + 1)), .ref sk, .ref ss, .ref sv])), (sk, .inl (cI, 20, .inl (upd ka zz key))), (ss, .inl (cZ, 20, .inl (upd sa zz b))), (sv, .inl (cJ, 20, .inr (.inl (vp_updL va zz v))))]) (fun _ => True)) 0 0 (va_A [(s0, .inr (1, [.int (nI zz), .ref sk, .ref ss, .ref sv])), (sk, .inl (cI, 20, .inl ka)), (ss, .inl (cZ, 20, .inl sa)), (sv, .inl (cJ, 20, .inr (.inl va)))] sz) := by
  refine Met.ofW (cc := cX1_append) (maxL := 5) (ret := none) (by decide) rfl ?_
  intro p e s m args below meth c s₁ B hml hv
  obtain ⟨rfl, hsz, hP, hK, hD0⟩ := hv
  have hx := B.exec
  have hb := B.bytes
  have hr := B.returns
  have hts := atoms_spec (ws := (Cond.code yX1_append cX1_append 5 none :: wB)) B.pre
  have hown : s.vm.findClass RX1 = some m.cls := findClass_of_methodNamed B.named
  have hlocks := B.notSynchronized
  subst hsz
  have hD := hD0.self (sz := s.heap.size)
  obtain ⟨A, hAe⟩ : ∃ A, A = va_A [(s0, .inr (1, [.int (nI zz), .ref sk, .ref ss, .ref sv])), (sk, .inl (cI, 20, .inl ka)), (ss, .inl (cZ, 20, .inl sa)), (sv, .inl (cJ, 20, .inr (.inl va)))] s.heap.size := ⟨_, rfl⟩
  rw [← hAe] at hD
  have hA : ∀ q : Nat, s.heap.size ≤ q → A q := fun q h => by rw [hAe]; exact Or.inr h
  have hS : va_S A s.heap s.heap [] := va_S.rf
  have hl := lv_entry ([.ref s0, .int key, .int b, .long v]) (n := 5) (Nat.le_of_ble_eq_true rfl)
  rw [lg_entry_eq]
  generalize (lg_sl ([.ref s0, .int key, .int b, .long v]) ++ List.replicate (5 - (lg_sl ([.ref s0, .int key, .int b, .long v])).length) Slot.unset).toArray = ls at hl ⊢
  have hl : lv_has ls 5 [(0, .ref s0), (1, .int key), (2, .int b), (3, .long v)] := hl
  refine lv_aload_n hx hb dX1_append_0 rfl (lv_at hl 0 rfl) ?_
  refine va_get (D := D) (ci := 1) (v := .ref sk) (C := RX1) (T := TX1) (N := 4) hx hb hts mu_X1 hown hK hP 0 rfl rfl 1 (by decide) (hts _ (List.mem_cons_of_mem _ mw_97)) (fun _ h9 => h9) rfl dX1_append_1 ?_
  refine lv_aload_n hx hb dX1_append_4 rfl (lv_at hl 0 rfl) ?_
  refine va_get (D := D) (ci := 1) (v := .int (nI zz)) (C := RX1) (T := TX1) (N := 4) hx hb hts mu_X1 hown hK hP 0 rfl rfl 0 (by decide) (hts _ (List.mem_cons_of_mem _ mw_95)) (fun _ h9 => h9) rfl dX1_append_5 ?_
  refine lv_iload_n hx hb dX1_append_8 rfl (lv_at hl 1 rfl) ?_
  refine rk_iast hx hb hK hP hD hS 1 0 rfl rfl (i := zz) (by omega) (by decide) dX1_append_9 (fun H locs hP hD hS => ?_)
  have hP : va_P D vwCl [(s0, .inr (1, [.int (nI zz), .ref sk, .ref ss, .ref sv])), (sk, .inl (cI, 20, .inl (upd ka zz key))), (ss, .inl (cZ, 20, .inl sa)), (sv, .inl (cJ, 20, .inr (.inl va)))] H := hP
  have hD : va_D A [(s0, .inr (1, [.int (nI zz), .ref sk, .ref ss, .ref sv])), (sk, .inl (cI, 20, .inl (upd ka zz key))), (ss, .inl (cZ, 20, .inl sa)), (sv, .inl (cJ, 20, .inr (.inl va)))] := hD
  refine lv_aload_n hx hb dX1_append_10 rfl (lv_at hl 0 rfl) ?_
  refine va_get (D := D) (ci := 1) (v := .ref ss) (C := RX1) (T := TX1) (N := 4) hx hb hts mu_X1 hown hK hP 0 rfl rfl 2 (by decide) (hts _ (List.mem_cons_of_mem _ mw_98)) (fun _ h9 => h9) rfl dX1_append_11 ?_
  refine lv_aload_n hx hb dX1_append_14 rfl (lv_at hl 0 rfl) ?_
  refine va_get (D := D) (ci := 1) (v := .int (nI zz)) (C := RX1) (T := TX1) (N := 4) hx hb hts mu_X1 hown hK hP 0 rfl rfl 0 (by decide) (hts _ (List.mem_cons_of_mem _ mw_95)) (fun _ h9 => h9) rfl dX1_append_15 ?_
  refine lv_iload_n hx hb dX1_append_18 rfl (lv_at hl 2 rfl) ?_
  refine rk_zast hx hb hK hP hD hS 2 2 rfl rfl (i := zz) (by rcases hb01 with h | h <;> rw [h] <;> decide) (by omega) (by decide) dX1_append_19 (fun H locs hP hD hS => ?_)
  have hP : va_P D vwCl [(s0, .inr (1, [.int (nI zz), .ref sk, .ref ss, .ref sv])), (sk, .inl (cI, 20, .inl (upd ka zz key))), (ss, .inl (cZ, 20, .inl (upd sa zz b))), (sv, .inl (cJ, 20, .inr (.inl va)))] H := hP
  have hD : va_D A [(s0, .inr (1, [.int (nI zz), .ref sk, .ref ss, .ref sv])), (sk, .inl (cI, 20, .inl (upd ka zz key))), (ss, .inl (cZ, 20, .inl (upd sa zz b))), (sv, .inl (cJ, 20, .inr (.inl va)))] := hD
  refine lv_aload_n hx hb dX1_append_20 rfl (lv_at hl 0 rfl) ?_
  refine va_get (D := D) (ci := 1) (v := .ref sv) (C := RX1) (T := TX1) (N := 4) hx hb hts mu_X1 hown hK hP 0 rfl rfl 3 (by decide) (hts _ (List.mem_cons_of_mem _ mw_99)) (fun _ h9 => h9) rfl dX1_append_21 ?_
  refine lv_aload_n hx hb dX1_append_24 rfl (lv_at hl 0 rfl) ?_
  refine va_get (D := D) (ci := 1) (v := .int (nI zz)) (C := RX1) (T := TX1) (N := 4) hx hb hts mu_X1 hown hK hP 0 rfl rfl 0 (by decide) (hts _ (List.mem_cons_of_mem _ mw_95)) (fun _ h9 => h9) rfl dX1_append_25 ?_
  refine lv_lload_n hx hb dX1_append_28 rfl (lv_at hl 3 rfl) ?_
  refine rk_last hx hb hK hP hD hS 3 1 rfl rfl (i := zz) (by omega) (by decide) dX1_append_29 (fun H locs hP hD hS => ?_)
  have hP : va_P D vwCl [(s0, .inr (1, [.int (nI zz), .ref sk, .ref ss, .ref sv])), (sk, .inl (cI, 20, .inl (upd ka zz key))), (ss, .inl (cZ, 20, .inl (upd sa zz b))), (sv, .inl (cJ, 20, .inr (.inl (vp_updL va zz v))))] H := hP
  have hD : va_D A [(s0, .inr (1, [.int (nI zz), .ref sk, .ref ss, .ref sv])), (sk, .inl (cI, 20, .inl (upd ka zz key))), (ss, .inl (cZ, 20, .inl (upd sa zz b))), (sv, .inl (cJ, 20, .inr (.inl (vp_updL va zz v))))] := hD
  refine lv_aload_n hx hb dX1_append_30 rfl (lv_at hl 0 rfl) ?_
  refine lv_dup hx hb dX1_append_31 rfl ?_
  refine va_get (D := D) (ci := 1) (v := .int (nI zz)) (C := RX1) (T := TX1) (N := 4) hx hb hts mu_X1 hown hK hP 0 rfl rfl 0 (by decide) (hts _ (List.mem_cons_of_mem _ mw_95)) (fun _ h9 => h9) rfl dX1_append_32 ?_
  refine lv_iconst (v := nI 1) hx hb dX1_append_35 (by decide) ?_
  refine rk_iadd hx hb dX1_append_36 ?_
  refine va_put (D := D) (ci := 1) (v := .int (nI (zz + 1))) (ty := .int) (C := RX1) (T := TX1) (N := 4) hx hb hts mu_X1 tyX1 tyX1_ok nmX1 hown hK hP hD hS 0 rfl rfl 0 (by decide) (hts _ (List.mem_cons_of_mem _ mw_95)) (fun _ h9 => h9) rfl (by decide +kernel) rfl rfl (Nat.le_of_ble_eq_true rfl) dX1_append_37 (fun H locs hP hD hS => ?_)
  have hP : va_P D vwCl [(s0, .inr (1, [.int (nI (zz + 1)), .ref sk, .ref ss, .ref sv])), (sk, .inl (cI, 20, .inl (upd ka zz key))), (ss, .inl (cZ, 20, .inl (upd sa zz b))), (sv, .inl (cJ, 20, .inr (.inl (vp_updL va zz v))))] H := hP
  have hD : va_D A [(s0, .inr (1, [.int (nI (zz + 1)), .ref sk, .ref ss, .ref sv])), (sk, .inl (cI, 20, .inl (upd ka zz key))), (ss, .inl (cZ, 20, .inl (upd sa zz b))), (sv, .inl (cJ, 20, .inr (.inl (vp_updL va zz v))))] := hD
  exact rw_retv (u := ()) hAe (hP) (hD) hS hK (trivial) (Nat.le_of_ble_eq_true rfl) (Nat.le_of_ble_eq_true rfl) hx hb hr hlocks dX1_append_40
set_option maxHeartbeats 4000000 in
set_option maxRecDepth 100000 in
theorem c_X1_clear (l : Launch) (D : va_G) (cI cJ cZ : ClassId) (sz : Nat) (s0 sk ss sv zz : Nat) (ka sa : Nat → Int32) (va : Nat → Int64) : Met l yX1_clear (Cond.code yX1_clear cX1_clear 1 none :: wB) ({ frames := 0, cells := 0, slots := 0, locals := 0 } : Room) (rw_Pc D cI cJ cZ sz [.ref s0] [(s0, .inr (1, [.int (nI zz), .ref sk, .ref ss, .ref sv])), (sk, .inl (cI, 20, .inl ka)), (ss, .inl (cZ, 20, .inl sa)), (sv, .inl (cJ, 20, .inr (.inl va)))]) (rw_Qv (S := Unit) D cI cJ cZ sz [(s0, .inr (1, [.int (nI zz), .ref sk, .ref ss, .ref sv])), (sk, .inl (cI, 20, .inl ka)), (ss, .inl (cZ, 20, .inl sa)), (sv, .inl (cJ, 20, .inr (.inl va)))] (fun u => [(s0, .inr (1, [.int (nI 0), .ref sk, .ref ss, .ref sv])), (sk, .inl (cI, 20, .inl ka)), (ss, .inl (cZ, 20, .inl sa)), (sv, .inl (cJ, 20, .inr (.inl va)))]) (fun _ => True)) 0 0 (va_A [(s0, .inr (1, [.int (nI zz), .ref sk, .ref ss, .ref sv])), (sk, .inl (cI, 20, .inl ka)), (ss, .inl (cZ, 20, .inl sa)), (sv, .inl (cJ, 20, .inr (.inl va)))] sz) := by
  refine Met.ofW (cc := cX1_clear) (maxL := 1) (ret := none) (by decide) rfl ?_
  intro p e s m args below meth c s₁ B hml hv
  obtain ⟨rfl, hsz, hP, hK, hD0⟩ := hv
  have hx := B.exec
  have hb := B.bytes
  have hr := B.returns
  have hts := atoms_spec (ws := (Cond.code yX1_clear cX1_clear 1 none :: wB)) B.pre
  have hown : s.vm.findClass RX1 = some m.cls := findClass_of_methodNamed B.named
  have hlocks := B.notSynchronized
  subst hsz
  have hD := hD0.self (sz := s.heap.size)
  obtain ⟨A, hAe⟩ : ∃ A, A = va_A [(s0, .inr (1, [.int (nI zz), .ref sk, .ref ss, .ref sv])), (sk, .inl (cI, 20, .inl ka)), (ss, .inl (cZ, 20, .inl sa)), (sv, .inl (cJ, 20, .inr (.inl va)))] s.heap.size := ⟨_, rfl⟩
  rw [← hAe] at hD
  have hA : ∀ q : Nat, s.heap.size ≤ q → A q := fun q h => by rw [hAe]; exact Or.inr h
  have hS : va_S A s.heap s.heap [] := va_S.rf
  have hl := lv_entry ([.ref s0]) (n := 1) (Nat.le_of_ble_eq_true rfl)
  rw [lg_entry_eq]
  generalize (lg_sl ([.ref s0]) ++ List.replicate (1 - (lg_sl ([.ref s0])).length) Slot.unset).toArray = ls at hl ⊢
  have hl : lv_has ls 1 [(0, .ref s0)] := hl
  refine lv_aload_n hx hb dX1_clear_0 rfl (lv_at hl 0 rfl) ?_
  refine lv_iconst (v := nI 0) hx hb dX1_clear_1 (by decide) ?_
  refine va_put (D := D) (ci := 1) (v := .int (nI 0)) (ty := .int) (C := RX1) (T := TX1) (N := 4) hx hb hts mu_X1 tyX1 tyX1_ok nmX1 hown hK hP hD hS 0 rfl rfl 0 (by decide) (hts _ (List.mem_cons_of_mem _ mw_95)) (fun _ h9 => h9) rfl (by decide +kernel) rfl rfl (Nat.le_of_ble_eq_true rfl) dX1_clear_2 (fun H locs hP hD hS => ?_)
  have hP : va_P D vwCl [(s0, .inr (1, [.int (nI 0), .ref sk, .ref ss, .ref sv])), (sk, .inl (cI, 20, .inl ka)), (ss, .inl (cZ, 20, .inl sa)), (sv, .inl (cJ, 20, .inr (.inl va)))] H := hP
  have hD : va_D A [(s0, .inr (1, [.int (nI 0), .ref sk, .ref ss, .ref sv])), (sk, .inl (cI, 20, .inl ka)), (ss, .inl (cZ, 20, .inl sa)), (sv, .inl (cJ, 20, .inr (.inl va)))] := hD
  exact rw_retv (u := ()) hAe (hP) (hD) hS hK (trivial) (Nat.le_of_ble_eq_true rfl) (Nat.le_of_ble_eq_true rfl) hx hb hr hlocks dX1_clear_5
set_option maxHeartbeats 4000000 in
set_option maxRecDepth 100000 in
theorem c_X1_isThereBefore (l : Launch) (D : va_G) (cI cJ cZ : ClassId) (s0 sk ss sv zz : Nat) (ka sa : Nat → Int32) (va : Nat → Int64) (hs01 : ∀ j, j < zz → sa j = nI 0 ∨ sa j = nI 1) (hzz : zz ≤ 20) (i : Nat) (hi : i < zz) (g0 gk gr gs gv gw gc gp gb r n : Nat) (kf rf sf : Nat → Int32) (vf : Nat → Int64) (wf cf pf bf : Nat → Int32) (hn : n ≤ 300) : Met l yX1_isThereBefore (Cond.code yX1_isThereBefore cX1_isThereBefore 4 (some .boolean) :: wB) ({ frames := 3, cells := 0, slots := 0, locals := 66 } : Room) (ro_Pc D cI cJ cZ [.ref s0, .int (nI i), .ref g0] [(s0, .inr (1, [.int (nI zz), .ref sk, .ref ss, .ref sv])), (sk, .inl (cI, 20, .inl ka)), (ss, .inl (cZ, 20, .inl sa)), (sv, .inl (cJ, 20, .inr (.inl va))), (g0, .inr (0, [.int (nI r), .int (nI n), .ref gk, .ref gr, .ref gs, .ref gv, .ref gw, .ref gc, .ref gp, .ref gb])), (gk, .inl (cI, 300, .inl kf)), (gr, .inl (cI, 300, .inl rf)), (gs, .inl (cZ, 300, .inl sf)), (gv, .inl (cJ, 300, .inr (.inl vf))), (gw, .inl (cI, 300, .inl wf)), (gc, .inl (cI, 300, .inl cf)), (gp, .inl (cI, 300, .inl pf)), (gb, .inl (cI, 300, .inl bf))]) (vp_Si (fun x => (x = nI 1 ∧ itb ka sa (fun x => thr (n, kf, rf, sf, vf, wf, cf, pf, bf) x (nI r)) i) ∨ (x = nI 0 ∧ ¬ itb ka sa (fun x => thr (n, kf, rf, sf, vf, wf, cf, pf, bf) x (nI r)) i))) 0 0 (fun _ => False) := by
  refine Met.ofW (cc := cX1_isThereBefore) (maxL := 4) (ret := (some .boolean)) (by decide) rfl ?_
  intro p e s m args below meth c s₁ B hml hv
  obtain ⟨rfl, hP, hK⟩ := hv
  have hx := B.exec
  have hb := B.bytes
  have hr := B.returns
  have hts := atoms_spec (ws := (Cond.code yX1_isThereBefore cX1_isThereBefore 4 (some .boolean) :: wB)) B.pre
  have hown : s.vm.findClass RX1 = some m.cls := findClass_of_methodNamed B.named
  have hlocks := B.notSynchronized
  have hl := lv_entry ([.ref s0, .int (nI i), .ref g0]) (n := 4) (Nat.le_of_ble_eq_true rfl)
  rw [lg_entry_eq]
  generalize (lg_sl ([.ref s0, .int (nI i), .ref g0]) ++ List.replicate (4 - (lg_sl ([.ref s0, .int (nI i), .ref g0])).length) Slot.unset).toArray = ls at hl ⊢
  have hl : lv_has ls 4 [(0, .ref s0), (1, .int (nI i)), (2, .ref g0)] := hl
  refine lv_iload_n hx hb dX1_isThereBefore_0 rfl (lv_at hl 1 rfl) ?_
  refine lv_iconst (v := nI 1) hx hb dX1_isThereBefore_1 (by decide) ?_
  refine lv_isub hx hb dX1_isThereBefore_2 ?_
  refine lv_istore_n (lv' := [(3, .int (nI i - nI 1)), (0, .ref s0), (1, .int (nI i)), (2, .ref g0)]) hx hb dX1_isThereBefore_3 rfl hl (by decide) rfl (fun ls hl => ?_)
  have hloop_4 : ∀ (k : Nat) (j : Nat), j < k → j ≤ i → (∀ t, j ≤ t → t < i → ka t ≠ ka i) → ∀ (ls : Array Slot), lv_has ls 4 [(0, .ref s0), (1, .int (nI i)), (2, .ref g0), (3, .int (nI j - nI 1))] → W p l e ({ frames := 3, cells := 0, slots := 0, locals := 66 } : Room) s m ([.ref s0, .int (nI i), .ref g0] : List Value).toArray below meth c s.heap [] 0 0 (MQ below (vp_Si (fun x => (x = nI 1 ∧ itb ka sa (fun x => thr (n, kf, rf, sf, vf, wf, cf, pf, bf) x (nI r)) i) ∨ (x = nI 0 ∧ ¬ itb ka sa (fun x => thr (n, kf, rf, sf, vf, wf, cf, pf, bf) x (nI r)) i))) ([.ref s0, .int (nI i), .ref g0] : List Value).toArray s 0 0 (fun _ => False)) (F0 m 4 ls []) := by
    intro k
    induction k with
    | zero => intro j hm; exact absurd hm (Nat.not_lt_zero _)
    | succ k ih_4 =>
      intro j hm_4 hj hq ls hl
      refine lv_iload_n hx hb dX1_isThereBefore_4 rfl (lv_at hl 3 rfl) ?_
      refine lv_if_lt (tgt := 36) hx hb dX1_isThereBefore_5 (by decide) (fun c_5 => ?_) (fun c_5 => ?_)
      · have c_5 := (zn_m0 (by omega)).mp c_5
        refine lv_aload_n hx hb dX1_isThereBefore_36 rfl (lv_at hl 2 rfl) ?_
        refine lv_aload_n hx hb dX1_isThereBefore_37 rfl (lv_at hl 0 rfl) ?_
        refine va_get (D := D) (ci := 1) (v := .ref sk) (C := RX1) (T := TX1) (N := 4) hx hb hts mu_X1 hown hK hP 0 rfl rfl 1 (by decide) (hts _ (List.mem_cons_of_mem _ mw_97)) (fun _ h9 => h9) rfl dX1_isThereBefore_38 ?_
        refine lv_iload_n hx hb dX1_isThereBefore_41 rfl (lv_at hl 1 rfl) ?_
        refine rk_iald hx hb hK hP 1 0 rfl rfl (i := i) (by omega) (by decide) dX1_isThereBefore_42 ?_
        refine ro_callVi (As := [.int (ka i)]) (rest := []) ⟨hx, hb, hml, hown, hts⟩ (c_X0_isThere l D cI cJ cZ g0 gk gr gs gv gw gc gp gb r n kf rf sf vf wf cf pf bf (by omega) (ka i)) (cwV 1 hts (wB_V mw_329 mw_241 mw_242 mw_2 mw_243) rfl rfl rfl (by decide +kernel) ⟨Nat.le_of_ble_eq_true rfl, Nat.le_of_ble_eq_true rfl⟩) (va_recv hK hP (ci := 0) (q0 := 4) rfl rfl) (hP.sub (ws' := [(g0, .inr (0, [.int (nI r), .int (nI n), .ref gk, .ref gr, .ref gs, .ref gv, .ref gw, .ref gc, .ref gp, .ref gb])), (gk, .inl (cI, 300, .inl kf)), (gr, .inl (cI, 300, .inl rf)), (gs, .inl (cZ, 300, .inl sf)), (gv, .inl (cJ, 300, .inr (.inl vf))), (gw, .inl (cI, 300, .inl wf)), (gc, .inl (cI, 300, .inl cf)), (gp, .inl (cI, 300, .inl pf)), (gb, .inl (cI, 300, .inl bf))]) [4, 5, 6, 7, 8, 9, 10, 11, 12] rfl) hK rfl hl.1 (Nat.le_of_ble_eq_true rfl) ⟨Nat.le_of_ble_eq_true rfl, Nat.le_of_ble_eq_true rfl⟩ rfl dX1_isThereBefore_43 (fun r_43 hw_43 => ?_)
        try dsimp only at hw_43
        rcases hw_43 with ⟨rfl, hw_43⟩ | ⟨rfl, hw_43⟩
        · skip
          exact W.zret (v := (nI 1)) hx hb hr (by decide) (fun t ht hW => ⟨_, rfl, (by have hal : ∀ t, t < i → ka t ≠ ka i := fun t h2 => hq t (by omega) h2; first | exact Or.inl ⟨rfl, Or.inr ⟨hal, hw_43⟩⟩ | (refine Or.inr ⟨rfl, fun z => ?_⟩; rcases z with ⟨t, ht, hk, -, -⟩ | ⟨-, j1, hj1, z⟩; exact hal t ht hk; exact hw_43 j1 hj1 z)), ht⟩) (fun q h => nomatch h) dX1_isThereBefore_46
        · skip
          exact W.zret (v := (nI 0)) hx hb hr (by decide) (fun t ht hW => ⟨_, rfl, (by have hal : ∀ t, t < i → ka t ≠ ka i := fun t h2 => hq t (by omega) h2; first | exact Or.inl ⟨rfl, Or.inr ⟨hal, hw_43⟩⟩ | (refine Or.inr ⟨rfl, fun z => ?_⟩; rcases z with ⟨t, ht, hk, -, -⟩ | ⟨-, j1, hj1, z⟩; exact hal t ht hk; exact hw_43 j1 hj1 z)), ht⟩) (fun q h => nomatch h) dX1_isThereBefore_46
      · have c_5 := mt (zn_m0 (by omega)).mpr c_5
        rw [pk_sub (show 1 ≤ j by omega)] at hl
        have hl : lv_has ls 4 [(0, .ref s0), (1, .int (nI i)), (2, .ref g0), (3, .int (nI (j - 1)))] := hl
        refine lv_aload_n hx hb dX1_isThereBefore_8 rfl (lv_at hl 0 rfl) ?_
        refine va_get (D := D) (ci := 1) (v := .ref sk) (C := RX1) (T := TX1) (N := 4) hx hb hts mu_X1 hown hK hP 0 rfl rfl 1 (by decide) (hts _ (List.mem_cons_of_mem _ mw_97)) (fun _ h9 => h9) rfl dX1_isThereBefore_9 ?_
        refine lv_iload_n hx hb dX1_isThereBefore_12 rfl (lv_at hl 3 rfl) ?_
        refine rk_iald hx hb hK hP 1 0 rfl rfl (i := j - 1) (by omega) (by decide) dX1_isThereBefore_13 ?_
        refine lv_aload_n hx hb dX1_isThereBefore_14 rfl (lv_at hl 0 rfl) ?_
        refine va_get (D := D) (ci := 1) (v := .ref sk) (C := RX1) (T := TX1) (N := 4) hx hb hts mu_X1 hown hK hP 0 rfl rfl 1 (by decide) (hts _ (List.mem_cons_of_mem _ mw_97)) (fun _ h9 => h9) rfl dX1_isThereBefore_15 ?_
        refine lv_iload_n hx hb dX1_isThereBefore_18 rfl (lv_at hl 1 rfl) ?_
        refine rk_iald hx hb hK hP 1 0 rfl rfl (i := i) (by omega) (by decide) dX1_isThereBefore_19 ?_
        refine lv_icmp_ne (tgt := 30) hx hb dX1_isThereBefore_20 (by decide) (fun c_20 => ?_) (fun c_20 => ?_)
        · skip
          refine lv_iinc (v := nI (j - 1) - nI 1) (lv' := [(3, .int (nI (j - 1) - nI 1)), (0, .ref s0), (1, .int (nI i)), (2, .ref g0)]) hx hb dX1_isThereBefore_30 hl (k := 3) rfl (zn_dec _) (by decide) rfl (fun ls hl => ?_)
          refine lv_goto (tgt := 4) hx hb dX1_isThereBefore_33 (by decide) ?_
          exact ih_4 (j - 1) (by omega) (by omega) (by intro t h1 h2; by_cases h : t = j - 1; (rw [h]; exact c_20); exact hq t (by omega) h2) ls (lv_sub hl [1, 2, 3, 0] rfl)
        · skip
          refine lv_aload_n hx hb dX1_isThereBefore_23 rfl (lv_at hl 0 rfl) ?_
          refine va_get (D := D) (ci := 1) (v := .ref ss) (C := RX1) (T := TX1) (N := 4) hx hb hts mu_X1 hown hK hP 0 rfl rfl 2 (by decide) (hts _ (List.mem_cons_of_mem _ mw_98)) (fun _ h9 => h9) rfl dX1_isThereBefore_24 ?_
          refine lv_iload_n hx hb dX1_isThereBefore_27 rfl (lv_at hl 3 rfl) ?_
          refine rk_zald hx hb hK hP 2 2 rfl rfl (i := j - 1) (by omega) (by decide) dX1_isThereBefore_28 ?_
          rcases hs01 (j - 1) (by omega) with h28 | h28
          · rw [h28]
            exact W.zret (v := (nI 0)) hx hb hr (by decide) (fun t ht hW => ⟨_, rfl, (by have hne : ∀ t, j - 1 < t → t < i → ka t ≠ ka i := fun t h1 h2 => hq t (by omega) h2; first | exact Or.inl ⟨rfl, Or.inl ⟨j - 1, by omega, c_20, hne, by rw [h28]; decide⟩⟩ | (refine Or.inr ⟨rfl, fun z => ?_⟩; rcases z with ⟨t, ht, hk, hm, hs⟩ | ⟨z, -⟩; (by_cases h : t = j - 1; (rw [h, h28] at hs; exact hs (by decide)); (by_cases h2 : t < j - 1; exact hm (j - 1) h2 (by omega) c_20; exact hq t (by omega) ht hk)); exact z (j - 1) (by omega) c_20)), ht⟩) (fun q h => nomatch h) dX1_isThereBefore_29
          · rw [h28]
            exact W.zret (v := (nI 1)) hx hb hr (by decide) (fun t ht hW => ⟨_, rfl, (by have hne : ∀ t, j - 1 < t → t < i → ka t ≠ ka i := fun t h1 h2 => hq t (by omega) h2; first | exact Or.inl ⟨rfl, Or.inl ⟨j - 1, by omega, c_20, hne, by rw [h28]; decide⟩⟩ | (refine Or.inr ⟨rfl, fun z => ?_⟩; rcases z with ⟨t, ht, hk, hm, hs⟩ | ⟨z, -⟩; (by_cases h : t = j - 1; (rw [h, h28] at hs; exact hs (by decide)); (by_cases h2 : t < j - 1; exact hm (j - 1) h2 (by omega) c_20; exact hq t (by omega) ht hk)); exact z (j - 1) (by omega) c_20)), ht⟩) (fun q h => nomatch h) dX1_isThereBefore_29
  -- on to the loop
  exact hloop_4 (i + 1) i (Nat.lt_succ_self _) (by omega) (fun t h1 h2 => absurd h1 (by omega)) ls (lv_sub hl [1, 2, 3, 0] rfl)
set_option maxHeartbeats 4000000 in
set_option maxRecDepth 100000 in
theorem c_X1_eventsOn (l : Launch) (D : va_G) (cI cJ cZ : ClassId) (s0 sk ss sv zz : Nat) (ka sa : Nat → Int32) (va : Nat → Int64) (hs01 : ∀ j, j < zz → sa j = nI 0 ∨ sa j = nI 1) (hzz : zz ≤ 20) (g0 gk gr gs gv gw gc gp gb r n : Nat) (kf rf sf : Nat → Int32) (vf : Nat → Int64) (wf cf pf bf : Nat → Int32) (hn : n ≤ 300) : Met l yX1_eventsOn (Cond.code yX1_eventsOn cX1_eventsOn 4 (some .int) :: wB) ({ frames := 4, cells := 0, slots := 0, locals := 89 } : Room) (ro_Pc D cI cJ cZ [.ref s0, .ref g0] [(s0, .inr (1, [.int (nI zz), .ref sk, .ref ss, .ref sv])), (sk, .inl (cI, 20, .inl ka)), (ss, .inl (cZ, 20, .inl sa)), (sv, .inl (cJ, 20, .inr (.inl va))), (g0, .inr (0, [.int (nI r), .int (nI n), .ref gk, .ref gr, .ref gs, .ref gv, .ref gw, .ref gc, .ref gp, .ref gb])), (gk, .inl (cI, 300, .inl kf)), (gr, .inl (cI, 300, .inl rf)), (gs, .inl (cZ, 300, .inl sf)), (gv, .inl (cJ, 300, .inr (.inl vf))), (gw, .inl (cI, 300, .inl wf)), (gc, .inl (cI, 300, .inl cf)), (gp, .inl (cI, 300, .inl pf)), (gb, .inl (cI, 300, .inl bf))]) (vp_Si (fun x => x = nI (cnt (fun t => (sa t ≠ 0 ∨ itb ka sa (fun x => thr (n, kf, rf, sf, vf, wf, cf, pf, bf) x (nI r)) t)) zz))) 0 0 (fun _ => False) := by
  refine Met.ofW (cc := cX1_eventsOn) (maxL := 4) (ret := (some .int)) (by decide) rfl ?_
  intro p e s m args below meth c s₁ B hml hv
  obtain ⟨rfl, hP, hK⟩ := hv
  have hx := B.exec
  have hb := B.bytes
  have hr := B.returns
  have hts := atoms_spec (ws := (Cond.code yX1_eventsOn cX1_eventsOn 4 (some .int) :: wB)) B.pre
  have hown : s.vm.findClass RX1 = some m.cls := findClass_of_methodNamed B.named
  have hlocks := B.notSynchronized
  have hl := lv_entry ([.ref s0, .ref g0]) (n := 4) (Nat.le_of_ble_eq_true rfl)
  rw [lg_entry_eq]
  generalize (lg_sl ([.ref s0, .ref g0]) ++ List.replicate (4 - (lg_sl ([.ref s0, .ref g0])).length) Slot.unset).toArray = ls at hl ⊢
  have hl : lv_has ls 4 [(0, .ref s0), (1, .ref g0)] := hl
  refine lv_iconst (v := nI 0) hx hb dX1_eventsOn_0 (by decide) ?_
  refine lv_istore_n (lv' := [(2, .int (nI 0)), (0, .ref s0), (1, .ref g0)]) hx hb dX1_eventsOn_1 rfl hl (by decide) rfl (fun ls hl => ?_)
  refine lv_iconst (v := nI 0) hx hb dX1_eventsOn_2 (by decide) ?_
  refine lv_istore_n (lv' := [(3, .int (nI 0)), (2, .int (nI 0)), (0, .ref s0), (1, .ref g0)]) hx hb dX1_eventsOn_3 rfl hl (by decide) rfl (fun ls hl => ?_)
  have hloop_4 : ∀ (k : Nat) (f : Nat) (i : Nat), zz - i < k → i ≤ zz → f = cnt (fun t => (sa t ≠ 0 ∨ itb ka sa (fun x => thr (n, kf, rf, sf, vf, wf, cf, pf, bf) x (nI r)) t)) i → ∀ (ls : Array Slot), lv_has ls 4 [(0, .ref s0), (1, .ref g0), (2, .int (nI f)), (3, .int (nI i))] → W p l e ({ frames := 4, cells := 0, slots := 0, locals := 89 } : Room) s m ([.ref s0, .ref g0] : List Value).toArray below meth c s.heap [] 0 0 (MQ below (vp_Si (fun x => x = nI (cnt (fun t => (sa t ≠ 0 ∨ itb ka sa (fun x => thr (n, kf, rf, sf, vf, wf, cf, pf, bf) x (nI r)) t)) zz))) ([.ref s0, .ref g0] : List Value).toArray s 0 0 (fun _ => False)) (F0 m 4 ls []) := by
    intro k
    induction k with
    | zero => intro f i hm; exact absurd hm (Nat.not_lt_zero _)
    | succ k ih_4 =>
      intro f i hm_4 hi hf ls hl
      refine lv_iload_n hx hb dX1_eventsOn_4 rfl (lv_at hl 3 rfl) ?_
      refine lv_aload_n hx hb dX1_eventsOn_5 rfl (lv_at hl 0 rfl) ?_
      refine va_get (D := D) (ci := 1) (v := .int (nI zz)) (C := RX1) (T := TX1) (N := 4) hx hb hts mu_X1 hown hK hP 0 rfl rfl 0 (by decide) (hts _ (List.mem_cons_of_mem _ mw_95)) (fun _ h9 => h9) rfl dX1_eventsOn_6 ?_
      refine lv_icmp_ge (tgt := 39) hx hb dX1_eventsOn_9 (by decide) (fun c_9 => ?_) (fun c_9 => ?_)
      · have c_9 := (nI_leI (by omega) (by omega)).mp c_9
        refine lv_iload_n hx hb dX1_eventsOn_39 rfl (lv_at hl 2 rfl) ?_
        exact W.iret (v := (nI f)) hx hb hr (fun t ht hW => ⟨_, rfl, (by rw [hf, show i = zz by omega]), ht⟩) (fun q h => nomatch h) dX1_eventsOn_40
      · have c_9 := mt (nI_leI (by omega) (by omega)).mpr c_9
        refine lv_aload_n hx hb dX1_eventsOn_12 rfl (lv_at hl 0 rfl) ?_
        refine va_get (D := D) (ci := 1) (v := .ref ss) (C := RX1) (T := TX1) (N := 4) hx hb hts mu_X1 hown hK hP 0 rfl rfl 2 (by decide) (hts _ (List.mem_cons_of_mem _ mw_98)) (fun _ h9 => h9) rfl dX1_eventsOn_13 ?_
        refine lv_iload_n hx hb dX1_eventsOn_16 rfl (lv_at hl 3 rfl) ?_
        refine rk_zald hx hb hK hP 2 2 rfl rfl (i := i) (by omega) (by decide) dX1_eventsOn_17 ?_
        refine lv_if_ne (tgt := 30) hx hb dX1_eventsOn_18 (by decide) (fun c_18 => ?_) (fun c_18 => ?_)
        · skip
          refine lv_iinc (v := nI (f + 1)) (lv' := [(2, .int (nI (f + 1))), (0, .ref s0), (1, .ref g0), (3, .int (nI i))]) hx hb dX1_eventsOn_30 hl (k := 2) rfl (by rw [show Int32.ofInt 1 = nI 1 by decide, nI_add]) (by decide) rfl (fun ls hl => ?_)
          refine lv_iinc (v := nI (i + 1)) (lv' := [(3, .int (nI (i + 1))), (2, .int (nI (f + 1))), (0, .ref s0), (1, .ref g0)]) hx hb dX1_eventsOn_33 hl (k := 3) rfl (by rw [show Int32.ofInt 1 = nI 1 by decide, nI_add]) (by decide) rfl (fun ls hl => ?_)
          refine lv_goto (tgt := 4) hx hb dX1_eventsOn_36 (by decide) ?_
          exact ih_4 (f + 1) (i + 1) (by omega) (by omega) (by first | rw [cnt_1 (Pr := fun t => (sa t ≠ 0 ∨ itb ka sa (fun x => thr (n, kf, rf, sf, vf, wf, cf, pf, bf) x (nI r)) t)) (Or.inl c_18), hf] | rw [cnt_1 (Pr := fun t => (sa t ≠ 0 ∨ itb ka sa (fun x => thr (n, kf, rf, sf, vf, wf, cf, pf, bf) x (nI r)) t)) (Or.inr hw_24), hf] | rw [cnt_0 (Pr := fun t => (sa t ≠ 0 ∨ itb ka sa (fun x => thr (n, kf, rf, sf, vf, wf, cf, pf, bf) x (nI r)) t)) (fun z => z.elim (fun z => z c_18) hw_24), hf]) ls (lv_sub hl [2, 3, 1, 0] rfl)
        · skip
          refine lv_aload_n hx hb dX1_eventsOn_21 rfl (lv_at hl 0 rfl) ?_
          refine lv_iload_n hx hb dX1_eventsOn_22 rfl (lv_at hl 3 rfl) ?_
          refine lv_aload_n hx hb dX1_eventsOn_23 rfl (lv_at hl 1 rfl) ?_
          refine ro_callVi (As := [.int (nI i), .ref g0]) (rest := []) ⟨hx, hb, hml, hown, hts⟩ (c_X1_isThereBefore l D cI cJ cZ s0 sk ss sv zz ka sa va (hs01) (by omega) i (by omega) g0 gk gr gs gv gw gc gp gb r n kf rf sf vf wf cf pf bf (by omega)) (cwV 2 hts (wB_V mw_325 mw_327 ms_6 mw_4 mw_328) rfl rfl rfl (by decide +kernel) ⟨Nat.le_of_ble_eq_true rfl, Nat.le_of_ble_eq_true rfl⟩) (va_recv hK hP (ci := 1) (q0 := 0) rfl rfl) (hP.sub (ws' := [(s0, .inr (1, [.int (nI zz), .ref sk, .ref ss, .ref sv])), (sk, .inl (cI, 20, .inl ka)), (ss, .inl (cZ, 20, .inl sa)), (sv, .inl (cJ, 20, .inr (.inl va))), (g0, .inr (0, [.int (nI r), .int (nI n), .ref gk, .ref gr, .ref gs, .ref gv, .ref gw, .ref gc, .ref gp, .ref gb])), (gk, .inl (cI, 300, .inl kf)), (gr, .inl (cI, 300, .inl rf)), (gs, .inl (cZ, 300, .inl sf)), (gv, .inl (cJ, 300, .inr (.inl vf))), (gw, .inl (cI, 300, .inl wf)), (gc, .inl (cI, 300, .inl cf)), (gp, .inl (cI, 300, .inl pf)), (gb, .inl (cI, 300, .inl bf))]) [0, 1, 2, 3, 4, 5, 6, 7, 8, 9, 10, 11, 12] rfl) hK rfl hl.1 (Nat.le_of_ble_eq_true rfl) ⟨Nat.le_of_ble_eq_true rfl, Nat.le_of_ble_eq_true rfl⟩ rfl dX1_eventsOn_24 (fun r_24 hw_24 => ?_)
          try dsimp only at hw_24
          rcases hw_24 with ⟨rfl, hw_24⟩ | ⟨rfl, hw_24⟩
          · skip
            refine lv_if_eq (tgt := 33) hx hb dX1_eventsOn_27 (by decide) (fun c => absurd c (by decide)) (fun _ => ?_)
            refine lv_iinc (v := nI (f + 1)) (lv' := [(2, .int (nI (f + 1))), (0, .ref s0), (1, .ref g0), (3, .int (nI i))]) hx hb dX1_eventsOn_30 hl (k := 2) rfl (by rw [show Int32.ofInt 1 = nI 1 by decide, nI_add]) (by decide) rfl (fun ls hl => ?_)
            refine lv_iinc (v := nI (i + 1)) (lv' := [(3, .int (nI (i + 1))), (2, .int (nI (f + 1))), (0, .ref s0), (1, .ref g0)]) hx hb dX1_eventsOn_33 hl (k := 3) rfl (by rw [show Int32.ofInt 1 = nI 1 by decide, nI_add]) (by decide) rfl (fun ls hl => ?_)
            refine lv_goto (tgt := 4) hx hb dX1_eventsOn_36 (by decide) ?_
            exact ih_4 (f + 1) (i + 1) (by omega) (by omega) (by first | rw [cnt_1 (Pr := fun t => (sa t ≠ 0 ∨ itb ka sa (fun x => thr (n, kf, rf, sf, vf, wf, cf, pf, bf) x (nI r)) t)) (Or.inl c_18), hf] | rw [cnt_1 (Pr := fun t => (sa t ≠ 0 ∨ itb ka sa (fun x => thr (n, kf, rf, sf, vf, wf, cf, pf, bf) x (nI r)) t)) (Or.inr hw_24), hf] | rw [cnt_0 (Pr := fun t => (sa t ≠ 0 ∨ itb ka sa (fun x => thr (n, kf, rf, sf, vf, wf, cf, pf, bf) x (nI r)) t)) (fun z => z.elim (fun z => z c_18) hw_24), hf]) ls (lv_sub hl [2, 3, 1, 0] rfl)
          · skip
            refine lv_if_eq (tgt := 33) hx hb dX1_eventsOn_27 (by decide) (fun _ => ?_) (fun c => absurd (by decide) c)
            refine lv_iinc (v := nI (i + 1)) (lv' := [(3, .int (nI (i + 1))), (0, .ref s0), (1, .ref g0), (2, .int (nI f))]) hx hb dX1_eventsOn_33 hl (k := 3) rfl (by rw [show Int32.ofInt 1 = nI 1 by decide, nI_add]) (by decide) rfl (fun ls hl => ?_)
            refine lv_goto (tgt := 4) hx hb dX1_eventsOn_36 (by decide) ?_
            exact ih_4 f (i + 1) (by omega) (by omega) (by first | rw [cnt_1 (Pr := fun t => (sa t ≠ 0 ∨ itb ka sa (fun x => thr (n, kf, rf, sf, vf, wf, cf, pf, bf) x (nI r)) t)) (Or.inl c_18), hf] | rw [cnt_1 (Pr := fun t => (sa t ≠ 0 ∨ itb ka sa (fun x => thr (n, kf, rf, sf, vf, wf, cf, pf, bf) x (nI r)) t)) (Or.inr hw_24), hf] | rw [cnt_0 (Pr := fun t => (sa t ≠ 0 ∨ itb ka sa (fun x => thr (n, kf, rf, sf, vf, wf, cf, pf, bf) x (nI r)) t)) (fun z => z.elim (fun z => z c_18) hw_24), hf]) ls (lv_sub hl [1, 2, 3, 0] rfl)
  -- on to the loop
  exact hloop_4 ((zz - 0) + 1) 0 0 (Nat.lt_succ_self _) (by omega) (rfl) ls (lv_sub hl [2, 3, 1, 0] rfl)
set_option maxHeartbeats 4000000 in
set_option maxRecDepth 100000 in
theorem c_X1_applyTo (l : Launch) (D : va_G) (cI cJ cZ : ClassId) (sz : Nat) (s0 sk ss sv zz : Nat) (ka sa : Nat → Int32) (va : Nat → Int64) (hzz : zz ≤ 20) (g0 gk gr gs gv gw gc gp gb r n : Nat) (kf rf sf : Nat → Int32) (vf : Nat → Int64) (wf cf pf bf : Nat → Int32) (hr3 : r ≤ 300) (hok : ∀ i d, i ≤ zz → aps r ka sa va (n, kf, rf, sf, vf, wf, cf, pf, bf) i d → eN d ≤ 300 ∧ ∃ bn, bnk d bn) (hroom : ∀ i d, i < zz → aps r ka sa va (n, kf, rf, sf, vf, wf, cf, pf, bf) i d → (sa i ≠ 0 ∨ thr d (ka i) (nI r)) → eN d < 300) : Met l yX1_applyTo (Cond.code yX1_applyTo cX1_applyTo 3 none :: wB) ({ frames := 3, cells := 0, slots := 0, locals := 70 } : Room) (rw_Pc D cI cJ cZ sz [.ref s0, .ref g0] [(s0, .inr (1, [.int (nI zz), .ref sk, .ref ss, .ref sv])), (sk, .inl (cI, 20, .inl ka)), (ss, .inl (cZ, 20, .inl sa)), (sv, .inl (cJ, 20, .inr (.inl va))), (g0, .inr (0, [.int (nI r), .int (nI n), .ref gk, .ref gr, .ref gs, .ref gv, .ref gw, .ref gc, .ref gp, .ref gb])), (gk, .inl (cI, 300, .inl kf)), (gr, .inl (cI, 300, .inl rf)), (gs, .inl (cZ, 300, .inl sf)), (gv, .inl (cJ, 300, .inr (.inl vf))), (gw, .inl (cI, 300, .inl wf)), (gc, .inl (cI, 300, .inl cf)), (gp, .inl (cI, 300, .inl pf)), (gb, .inl (cI, 300, .inl bf))]) (rw_Qv (S := LD) D cI cJ cZ sz [(s0, .inr (1, [.int (nI zz), .ref sk, .ref ss, .ref sv])), (sk, .inl (cI, 20, .inl ka)), (ss, .inl (cZ, 20, .inl sa)), (sv, .inl (cJ, 20, .inr (.inl va))), (g0, .inr (0, [.int (nI r), .int (nI n), .ref gk, .ref gr, .ref gs, .ref gv, .ref gw, .ref gc, .ref gp, .ref gb])), (gk, .inl (cI, 300, .inl kf)), (gr, .inl (cI, 300, .inl rf)), (gs, .inl (cZ, 300, .inl sf)), (gv, .inl (cJ, 300, .inr (.inl vf))), (gw, .inl (cI, 300, .inl wf)), (gc, .inl (cI, 300, .inl cf)), (gp, .inl (cI, 300, .inl pf)), (gb, .inl (cI, 300, .inl bf))] (fun u => [(s0, .inr (1, [.int (nI zz), .ref sk, .ref ss, .ref sv])), (sk, .inl (cI, 20, .inl ka)), (ss, .inl (cZ, 20, .inl sa)), (sv, .inl (cJ, 20, .inr (.inl va))), (g0, .inr (0, [.int (nI r), .int (nI u.1), .ref gk, .ref gr, .ref gs, .ref gv, .ref gw, .ref gc, .ref gp, .ref gb])), (gk, .inl (cI, 300, .inl u.2.1)), (gr, .inl (cI, 300, .inl u.2.2.1)), (gs, .inl (cZ, 300, .inl u.2.2.2.1)), (gv, .inl (cJ, 300, .inr (.inl u.2.2.2.2.1))), (gw, .inl (cI, 300, .inl u.2.2.2.2.2.1)), (gc, .inl (cI, 300, .inl u.2.2.2.2.2.2.1)), (gp, .inl (cI, 300, .inl u.2.2.2.2.2.2.2.1)), (gb, .inl (cI, 300, .inl u.2.2.2.2.2.2.2.2))]) (fun u => aps r ka sa va (n, kf, rf, sf, vf, wf, cf, pf, bf) zz u)) 0 0 (va_A [(s0, .inr (1, [.int (nI zz), .ref sk, .ref ss, .ref sv])), (sk, .inl (cI, 20, .inl ka)), (ss, .inl (cZ, 20, .inl sa)), (sv, .inl (cJ, 20, .inr (.inl va))), (g0, .inr (0, [.int (nI r), .int (nI n), .ref gk, .ref gr, .ref gs, .ref gv, .ref gw, .ref gc, .ref gp, .ref gb])), (gk, .inl (cI, 300, .inl kf)), (gr, .inl (cI, 300, .inl rf)), (gs, .inl (cZ, 300, .inl sf)), (gv, .inl (cJ, 300, .inr (.inl vf))), (gw, .inl (cI, 300, .inl wf)), (gc, .inl (cI, 300, .inl cf)), (gp, .inl (cI, 300, .inl pf)), (gb, .inl (cI, 300, .inl bf))] sz) := by
  refine Met.ofW (cc := cX1_applyTo) (maxL := 3) (ret := none) (by decide) rfl ?_
  intro p e s m args below meth c s₁ B hml hv
  obtain ⟨rfl, hsz, hP, hK, hD0⟩ := hv
  have hx := B.exec
  have hb := B.bytes
  have hr := B.returns
  have hts := atoms_spec (ws := (Cond.code yX1_applyTo cX1_applyTo 3 none :: wB)) B.pre
  have hown : s.vm.findClass RX1 = some m.cls := findClass_of_methodNamed B.named
  have hlocks := B.notSynchronized
  subst hsz
  have hD := hD0.self (sz := s.heap.size)
  obtain ⟨A, hAe⟩ : ∃ A, A = va_A [(s0, .inr (1, [.int (nI zz), .ref sk, .ref ss, .ref sv])), (sk, .inl (cI, 20, .inl ka)), (ss, .inl (cZ, 20, .inl sa)), (sv, .inl (cJ, 20, .inr (.inl va))), (g0, .inr (0, [.int (nI r), .int (nI n), .ref gk, .ref gr, .ref gs, .ref gv, .ref gw, .ref gc, .ref gp, .ref gb])), (gk, .inl (cI, 300, .inl kf)), (gr, .inl (cI, 300, .inl rf)), (gs, .inl (cZ, 300, .inl sf)), (gv, .inl (cJ, 300, .inr (.inl vf))), (gw, .inl (cI, 300, .inl wf)), (gc, .inl (cI, 300, .inl cf)), (gp, .inl (cI, 300, .inl pf)), (gb, .inl (cI, 300, .inl bf))] s.heap.size := ⟨_, rfl⟩
  rw [← hAe] at hD
  have hA : ∀ q : Nat, s.heap.size ≤ q → A q := fun q h => by rw [hAe]; exact Or.inr h
  have hS : va_S A s.heap s.heap [] := va_S.rf
  have hl := lv_entry ([.ref s0, .ref g0]) (n := 3) (Nat.le_of_ble_eq_true rfl)
  rw [lg_entry_eq]
  generalize (lg_sl ([.ref s0, .ref g0]) ++ List.replicate (3 - (lg_sl ([.ref s0, .ref g0])).length) Slot.unset).toArray = ls at hl ⊢
  have hl : lv_has ls 3 [(0, .ref s0), (1, .ref g0)] := hl
  refine lv_iconst (v := nI 0) hx hb dX1_applyTo_0 (by decide) ?_
  refine lv_istore_n (lv' := [(2, .int (nI 0)), (0, .ref s0), (1, .ref g0)]) hx hb dX1_applyTo_1 rfl hl (by decide) rfl (fun ls hl => ?_)
  have hloop_2 : ∀ (k : Nat) (i : Nat) (n1 : Nat) (kf1 : Nat → Int32) (rf1 : Nat → Int32) (sf1 : Nat → Int32) (vf1 : Nat → Int64) (wf1 : Nat → Int32) (cf1 : Nat → Int32) (pf1 : Nat → Int32) (bf1 : Nat → Int32), zz - i < k → i ≤ zz → aps r ka sa va (n, kf, rf, sf, vf, wf, cf, pf, bf) i (n1, kf1, rf1, sf1, vf1, wf1, cf1, pf1, bf1) → ∀ (H : Heap) (locs : List Loc), va_P D vwCl [(s0, .inr (1, [.int (nI zz), .ref sk, .ref ss, .ref sv])), (sk, .inl (cI, 20, .inl ka)), (ss, .inl (cZ, 20, .inl sa)), (sv, .inl (cJ, 20, .inr (.inl va))), (g0, .inr (0, [.int (nI r), .int (nI n1), .ref gk, .ref gr, .ref gs, .ref gv, .ref gw, .ref gc, .ref gp, .ref gb])), (gk, .inl (cI, 300, .inl kf1)), (gr, .inl (cI, 300, .inl rf1)), (gs, .inl (cZ, 300, .inl sf1)), (gv, .inl (cJ, 300, .inr (.inl vf1))), (gw, .inl (cI, 300, .inl wf1)), (gc, .inl (cI, 300, .inl cf1)), (gp, .inl (cI, 300, .inl pf1)), (gb, .inl (cI, 300, .inl bf1))] H → va_D A [(s0, .inr (1, [.int (nI zz), .ref sk, .ref ss, .ref sv])), (sk, .inl (cI, 20, .inl ka)), (ss, .inl (cZ, 20, .inl sa)), (sv, .inl (cJ, 20, .inr (.inl va))), (g0, .inr (0, [.int (nI r), .int (nI n1), .ref gk, .ref gr, .ref gs, .ref gv, .ref gw, .ref gc, .ref gp, .ref gb])), (gk, .inl (cI, 300, .inl kf1)), (gr, .inl (cI, 300, .inl rf1)), (gs, .inl (cZ, 300, .inl sf1)), (gv, .inl (cJ, 300, .inr (.inl vf1))), (gw, .inl (cI, 300, .inl wf1)), (gc, .inl (cI, 300, .inl cf1)), (gp, .inl (cI, 300, .inl pf1)), (gb, .inl (cI, 300, .inl bf1))] → va_S A s.heap H locs → ∀ (ls : Array Slot), lv_has ls 3 [(0, .ref s0), (1, .ref g0), (2, .int (nI i))] → W p l e ({ frames := 3, cells := 0, slots := 0, locals := 70 } : Room) s m ([.ref s0, .ref g0] : List Value).toArray below meth c H locs 0 0 (MQ below (rw_Qv (S := LD) D cI cJ cZ s.heap.size [(s0, .inr (1, [.int (nI zz), .ref sk, .ref ss, .ref sv])), (sk, .inl (cI, 20, .inl ka)), (ss, .inl (cZ, 20, .inl sa)), (sv, .inl (cJ, 20, .inr (.inl va))), (g0, .inr (0, [.int (nI r), .int (nI n), .ref gk, .ref gr, .ref gs, .ref gv, .ref gw, .ref gc, .ref gp, .ref gb])), (gk, .inl (cI, 300, .inl kf)), (gr, .inl (cI, 300, .inl rf)), (gs, .inl (cZ, 300, .inl sf)), (gv, .inl (cJ, 300, .inr (.inl vf))), (gw, .inl (cI, 300, .inl wf)), (gc, .inl (cI, 300, .inl cf)), (gp, .inl (cI, 300, .inl pf)), (gb, .inl (cI, 300, .inl bf))] (fun u => [(s0, .inr (1, [.int (nI zz), .ref sk, .ref ss, .ref sv])), (sk, .inl (cI, 20, .inl ka)), (ss, .inl (cZ, 20, .inl sa)), (sv, .inl (cJ, 20, .inr (.inl va))), (g0, .inr (0, [.int (nI r), .int (nI u.1), .ref gk, .ref gr, .ref gs, .ref gv, .ref gw, .ref gc, .ref gp, .ref gb])), (gk, .inl (cI, 300, .inl u.2.1)), (gr, .inl (cI, 300, .inl u.2.2.1)), (gs, .inl (cZ, 300, .inl u.2.2.2.1)), (gv, .inl (cJ, 300, .inr (.inl u.2.2.2.2.1))), (gw, .inl (cI, 300, .inl u.2.2.2.2.2.1)), (gc, .inl (cI, 300, .inl u.2.2.2.2.2.2.1)), (gp, .inl (cI, 300, .inl u.2.2.2.2.2.2.2.1)), (gb, .inl (cI, 300, .inl u.2.2.2.2.2.2.2.2))]) (fun u => aps r ka sa va (n, kf, rf, sf, vf, wf, cf, pf, bf) zz u)) ([.ref s0, .ref g0] : List Value).toArray s 0 0 (va_A [(s0, .inr (1, [.int (nI zz), .ref sk, .ref ss, .ref sv])), (sk, .inl (cI, 20, .inl ka)), (ss, .inl (cZ, 20, .inl sa)), (sv, .inl (cJ, 20, .inr (.inl va))), (g0, .inr (0, [.int (nI r), .int (nI n), .ref gk, .ref gr, .ref gs, .ref gv, .ref gw, .ref gc, .ref gp, .ref gb])), (gk, .inl (cI, 300, .inl kf)), (gr, .inl (cI, 300, .inl rf)), (gs, .inl (cZ, 300, .inl sf)), (gv, .inl (cJ, 300, .inr (.inl vf))), (gw, .inl (cI, 300, .inl wf)), (gc, .inl (cI, 300, .inl cf)), (gp, .inl (cI, 300, .inl pf)), (gb, .inl (cI, 300, .inl bf))] s.heap.size)) (F0 m 2 ls []) := by
    intro k
    induction k with
    | zero => intro i n1 kf1 rf1 sf1 vf1 wf1 cf1 pf1 bf1 hm; exact absurd hm (Nat.not_lt_zero _)
    | succ k ih_2 =>
      intro i n1 kf1 rf1 sf1 vf1 wf1 cf1 pf1 bf1 hm_2 hi hap H locs hP hD hS ls hl
      obtain ⟨hn1, bn, hbn⟩ := hok i _ hi hap
      have hn1 : n1 ≤ 300 := hn1
      refine lv_iload_n hx hb dX1_applyTo_2 rfl (lv_at hl 2 rfl) ?_
      refine lv_aload_n hx hb dX1_applyTo_3 rfl (lv_at hl 0 rfl) ?_
      refine va_get (D := D) (ci := 1) (v := .int (nI zz)) (C := RX1) (T := TX1) (N := 4) hx hb hts mu_X1 hown hK hP 0 rfl rfl 0 (by decide) (hts _ (List.mem_cons_of_mem _ mw_95)) (fun _ h9 => h9) rfl dX1_applyTo_4 ?_
      refine lv_icmp_ge (tgt := 54) hx hb dX1_applyTo_7 (by decide) (fun c_7 => ?_) (fun c_7 => ?_)
      · have c_7 := (nI_leI (by omega) (by omega)).mp c_7
        exact rw_retv (u := (n1, kf1, rf1, sf1, vf1, wf1, cf1, pf1, bf1)) hAe (hP) (hD) hS hK (by rw [show zz = i by omega]; exact hap) (Nat.le_of_ble_eq_true rfl) (Nat.le_of_ble_eq_true rfl) hx hb hr hlocks dX1_applyTo_54
      · have c_7 := mt (nI_leI (by omega) (by omega)).mpr c_7
        refine lv_aload_n hx hb dX1_applyTo_10 rfl (lv_at hl 0 rfl) ?_
        refine va_get (D := D) (ci := 1) (v := .ref ss) (C := RX1) (T := TX1) (N := 4) hx hb hts mu_X1 hown hK hP 0 rfl rfl 2 (by decide) (hts _ (List.mem_cons_of_mem _ mw_98)) (fun _ h9 => h9) rfl dX1_applyTo_11 ?_
        refine lv_iload_n hx hb dX1_applyTo_14 rfl (lv_at hl 2 rfl) ?_
        refine rk_zald hx hb hK hP 2 2 rfl rfl (i := i) (by omega) (by decide) dX1_applyTo_15 ?_
        refine lv_if_eq (tgt := 38) hx hb dX1_applyTo_16 (by decide) (fun c_16 => ?_) (fun c_16 => ?_)
        · skip
          refine lv_aload_n hx hb dX1_applyTo_38 rfl (lv_at hl 1 rfl) ?_
          refine lv_aload_n hx hb dX1_applyTo_39 rfl (lv_at hl 0 rfl) ?_
          refine va_get (D := D) (ci := 1) (v := .ref sk) (C := RX1) (T := TX1) (N := 4) hx hb hts mu_X1 hown hK hP 0 rfl rfl 1 (by decide) (hts _ (List.mem_cons_of_mem _ mw_97)) (fun _ h9 => h9) rfl dX1_applyTo_40 ?_
          refine lv_iload_n hx hb dX1_applyTo_43 rfl (lv_at hl 2 rfl) ?_
          refine rk_iald hx hb hK hP 1 0 rfl rfl (i := i) (by omega) (by decide) dX1_applyTo_44 ?_
          refine rw_callVv (wr := [(s0, .inr (1, [.int (nI zz), .ref sk, .ref ss, .ref sv])), (sk, .inl (cI, 20, .inl ka)), (ss, .inl (cZ, 20, .inl sa)), (sv, .inl (cJ, 20, .inr (.inl va)))]) (As := [.int (ka i)]) (rest := []) ⟨hx, hb, hml, hown, hts⟩ (c_X0_appendRemoval l D cI cJ cZ H.size g0 gk gr gs gv gw gc gp gb r n1 kf1 rf1 sf1 vf1 wf1 cf1 pf1 bf1 bn (by omega) (by omega) (hbn) (ka i) (fun z => hroom i _ (by omega) hap (Or.inr z))) (cwV 1 hts (wB_V mw_335 mw_245 mw_246 mw_2 mw_247) rfl rfl rfl (by decide +kernel) ⟨Nat.le_of_ble_eq_true rfl, Nat.le_of_ble_eq_true rfl⟩) (va_recv hK hP (ci := 0) (q0 := 4) rfl rfl) hK hP hD hS hA [4, 5, 6, 7, 8, 9, 10, 11, 12] [0, 1, 2, 3] rfl rfl rfl (by decide) (by decide) (by decide) rfl hl.1 (Nat.le_of_ble_eq_true rfl) ⟨Nat.le_of_ble_eq_true rfl, Nat.le_of_ble_eq_true rfl⟩ rfl dX1_applyTo_45 (fun u_45 H locs hw_45 hP hD hS => ?_)
          try dsimp only at hw_45
          have hP : va_P D vwCl [(s0, .inr (1, [.int (nI zz), .ref sk, .ref ss, .ref sv])), (sk, .inl (cI, 20, .inl ka)), (ss, .inl (cZ, 20, .inl sa)), (sv, .inl (cJ, 20, .inr (.inl va))), (g0, .inr (0, [.int (nI r), .int (nI u_45.1), .ref gk, .ref gr, .ref gs, .ref gv, .ref gw, .ref gc, .ref gp, .ref gb])), (gk, .inl (cI, 300, .inl u_45.2.1)), (gr, .inl (cI, 300, .inl u_45.2.2.1)), (gs, .inl (cZ, 300, .inl sf1)), (gv, .inl (cJ, 300, .inr (.inl vf1))), (gw, .inl (cI, 300, .inl wf1)), (gc, .inl (cI, 300, .inl cf1)), (gp, .inl (cI, 300, .inl u_45.2.2.2.1)), (gb, .inl (cI, 300, .inl u_45.2.2.2.2))] H := hP.sub [0, 1, 2, 3, 4, 5, 6, 7, 8, 9, 10, 11, 12] rfl
          have hD : va_D A [(s0, .inr (1, [.int (nI zz), .ref sk, .ref ss, .ref sv])), (sk, .inl (cI, 20, .inl ka)), (ss, .inl (cZ, 20, .inl sa)), (sv, .inl (cJ, 20, .inr (.inl va))), (g0, .inr (0, [.int (nI r), .int (nI u_45.1), .ref gk, .ref gr, .ref gs, .ref gv, .ref gw, .ref gc, .ref gp, .ref gb])), (gk, .inl (cI, 300, .inl u_45.2.1)), (gr, .inl (cI, 300, .inl u_45.2.2.1)), (gs, .inl (cZ, 300, .inl sf1)), (gv, .inl (cJ, 300, .inr (.inl vf1))), (gw, .inl (cI, 300, .inl wf1)), (gc, .inl (cI, 300, .inl cf1)), (gp, .inl (cI, 300, .inl u_45.2.2.2.1)), (gb, .inl (cI, 300, .inl u_45.2.2.2.2))] := hD.sub [0, 1, 2, 3, 4, 5, 6, 7, 8, 9, 10, 11, 12] (by decide) rfl
          refine lv_iinc (v := nI (i + 1)) (lv' := [(2, .int (nI (i + 1))), (0, .ref s0), (1, .ref g0)]) hx hb dX1_applyTo_48 hl (k := 2) rfl (by rw [show Int32.ofInt 1 = nI 1 by decide, nI_add]) (by decide) rfl (fun ls hl => ?_)
          refine lv_goto (tgt := 2) hx hb dX1_applyTo_51 (by decide) ?_
          exact ih_2 (i + 1) u_45.1 u_45.2.1 u_45.2.2.1 sf1 vf1 wf1 cf1 u_45.2.2.2.1 u_45.2.2.2.2 (by omega) (by omega) (by first | exact ⟨_, hap, Or.inl ⟨c_16, rfl, rfl, rfl, rfl, rfl, ⟨bn, hbn, hw_32.1⟩, hw_32.2⟩⟩ | exact ⟨_, hap, Or.inr ⟨c_16, rem_of hbn hw_45⟩⟩) H locs hP hD hS ls (lv_sub hl [1, 2, 0] rfl)
        · have hroo := hroom i _ (by omega) hap (Or.inl c_16)
          have hroo : n1 < 300 := hroo
          refine lv_aload_n hx hb dX1_applyTo_19 rfl (lv_at hl 1 rfl) ?_
          refine lv_aload_n hx hb dX1_applyTo_20 rfl (lv_at hl 0 rfl) ?_
          refine va_get (D := D) (ci := 1) (v := .ref sk) (C := RX1) (T := TX1) (N := 4) hx hb hts mu_X1 hown hK hP 0 rfl rfl 1 (by decide) (hts _ (List.mem_cons_of_mem _ mw_97)) (fun _ h9 => h9) rfl dX1_applyTo_21 ?_
          refine lv_iload_n hx hb dX1_applyTo_24 rfl (lv_at hl 2 rfl) ?_
          refine rk_iald hx hb hK hP 1 0 rfl rfl (i := i) (by omega) (by decide) dX1_applyTo_25 ?_
          refine lv_aload_n hx hb dX1_applyTo_26 rfl (lv_at hl 0 rfl) ?_
          refine va_get (D := D) (ci := 1) (v := .ref sv) (C := RX1) (T := TX1) (N := 4) hx hb hts mu_X1 hown hK hP 0 rfl rfl 3 (by decide) (hts _ (List.mem_cons_of_mem _ mw_99)) (fun _ h9 => h9) rfl dX1_applyTo_27 ?_
          refine lv_iload_n hx hb dX1_applyTo_30 rfl (lv_at hl 2 rfl) ?_
          refine rk_lald hx hb hK hP 3 1 rfl rfl (i := i) (by omega) (by decide) dX1_applyTo_31 ?_
          refine rw_callVv (wr := [(s0, .inr (1, [.int (nI zz), .ref sk, .ref ss, .ref sv])), (sk, .inl (cI, 20, .inl ka)), (ss, .inl (cZ, 20, .inl sa)), (sv, .inl (cJ, 20, .inr (.inl va)))]) (As := [.int (ka i), .long (va i)]) (rest := []) ⟨hx, hb, hml, hown, hts⟩ (c_X0_appendSet l D cI cJ cZ H.size g0 gk gr gs gv gw gc gp gb r n1 kf1 rf1 sf1 vf1 wf1 cf1 pf1 bf1 bn (by omega) (by omega) (hbn) (ka i) (va i)) (cwV 2 hts (wB_V mw_334 mw_218 mw_219 mw_2 mw_220) rfl rfl rfl (by decide +kernel) ⟨Nat.le_of_ble_eq_true rfl, Nat.le_of_ble_eq_true rfl⟩) (va_recv hK hP (ci := 0) (q0 := 4) rfl rfl) hK hP hD hS hA [4, 5, 6, 7, 8, 9, 10, 11, 12] [0, 1, 2, 3] rfl rfl rfl (by decide) (by decide) (by decide) rfl hl.1 (Nat.le_of_ble_eq_true rfl) ⟨Nat.le_of_ble_eq_true rfl, Nat.le_of_ble_eq_true rfl⟩ rfl dX1_applyTo_32 (fun u_32 H locs hw_32 hP hD hS => ?_)
          try dsimp only at hw_32
          have hP : va_P D vwCl [(s0, .inr (1, [.int (nI zz), .ref sk, .ref ss, .ref sv])), (sk, .inl (cI, 20, .inl ka)), (ss, .inl (cZ, 20, .inl sa)), (sv, .inl (cJ, 20, .inr (.inl va))), (g0, .inr (0, [.int (nI r), .int (nI (n1 + 1)), .ref gk, .ref gr, .ref gs, .ref gv, .ref gw, .ref gc, .ref gp, .ref gb])), (gk, .inl (cI, 300, .inl (upd kf1 n1 (ka i)))), (gr, .inl (cI, 300, .inl (upd rf1 n1 (nI r)))), (gs, .inl (cZ, 300, .inl (upd sf1 n1 (nI 1)))), (gv, .inl (cJ, 300, .inr (.inl (vp_updL vf1 n1 (va i))))), (gw, .inl (cI, 300, .inl u_32.2.2.1)), (gc, .inl (cI, 300, .inl u_32.2.2.2)), (gp, .inl (cI, 300, .inl u_32.1)), (gb, .inl (cI, 300, .inl u_32.2.1))] H := hP.sub [0, 1, 2, 3, 4, 5, 6, 7, 8, 9, 10, 11, 12] rfl
          have hD : va_D A [(s0, .inr (1, [.int (nI zz), .ref sk, .ref ss, .ref sv])), (sk, .inl (cI, 20, .inl ka)), (ss, .inl (cZ, 20, .inl sa)), (sv, .inl (cJ, 20, .inr (.inl va))), (g0, .inr (0, [.int (nI r), .int (nI (n1 + 1)), .ref gk, .ref gr, .ref gs, .ref gv, .ref gw, .ref gc, .ref gp, .ref gb])), (gk, .inl (cI, 300, .inl (upd kf1 n1 (ka i)))), (gr, .inl (cI, 300, .inl (upd rf1 n1 (nI r)))), (gs, .inl (cZ, 300, .inl (upd sf1 n1 (nI 1)))), (gv, .inl (cJ, 300, .inr (.inl (vp_updL vf1 n1 (va i))))), (gw, .inl (cI, 300, .inl u_32.2.2.1)), (gc, .inl (cI, 300, .inl u_32.2.2.2)), (gp, .inl (cI, 300, .inl u_32.1)), (gb, .inl (cI, 300, .inl u_32.2.1))] := hD.sub [0, 1, 2, 3, 4, 5, 6, 7, 8, 9, 10, 11, 12] (by decide) rfl
          refine lv_goto (tgt := 48) hx hb dX1_applyTo_35 (by decide) ?_
          refine lv_iinc (v := nI (i + 1)) (lv' := [(2, .int (nI (i + 1))), (0, .ref s0), (1, .ref g0)]) hx hb dX1_applyTo_48 hl (k := 2) rfl (by rw [show Int32.ofInt 1 = nI 1 by decide, nI_add]) (by decide) rfl (fun ls hl => ?_)
          refine lv_goto (tgt := 2) hx hb dX1_applyTo_51 (by decide) ?_
          exact ih_2 (i + 1) (n1 + 1) (upd kf1 n1 (ka i)) (upd rf1 n1 (nI r)) (upd sf1 n1 (nI 1)) (vp_updL vf1 n1 (va i)) u_32.2.2.1 u_32.2.2.2 u_32.1 u_32.2.1 (by omega) (by omega) (by first | exact ⟨_, hap, Or.inl ⟨c_16, rfl, rfl, rfl, rfl, rfl, ⟨bn, hbn, hw_32.1⟩, hw_32.2⟩⟩ | exact ⟨_, hap, Or.inr ⟨c_16, rem_of hbn hw_45⟩⟩) H locs hP hD hS ls (lv_sub hl [1, 2, 0] rfl)
  -- on to the loop
  exact hloop_2 ((zz - 0) + 1) 0 n kf rf sf vf wf cf pf bf (Nat.lt_succ_self _) (by omega) (rfl) _ _ hP hD hS ls (lv_sub hl [1, 2, 0] rfl)
