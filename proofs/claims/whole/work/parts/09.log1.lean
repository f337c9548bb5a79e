set_option maxHeartbeats 4000000 in
set_option maxRecDepth 100000 in
theorem c_X0_holds (l : Launch) (D : va_G) (cI cJ cZ : ClassId) (g0 gk gr gs gv gw gc gp gb r n : Nat) (kf rf sf : Nat → Int32) (vf : Nat → Int64) (wf cf pf bf : Nat → Int32) (ev : Nat) (he : ev < 300) (a : Int32) : Met l yX0_holds (Cond.code yX0_holds cX0_holds 3 (some .boolean) :: wB) ({ frames := 0, cells := 0, slots := 0, locals := 0 } : Room) (ro_Pc D cI cJ cZ [.ref g0, .int (nI ev), .int a] [(g0, .inr (0, [.int (nI r), .int (nI n), .ref gk, .ref gr, .ref gs, .ref gv, .ref gw, .ref gc, .ref gp, .ref gb])), (gk, .inl (cI, 300, .inl kf)), (gr, .inl (cI, 300, .inl rf)), (gs, .inl (cZ, 300, .inl sf)), (gv, .inl (cJ, 300, .inr (.inl vf))), (gw, .inl (cI, 300, .inl wf)), (gc, .inl (cI, 300, .inl cf)), (gp, .inl (cI, 300, .inl pf)), (gb, .inl (cI, 300, .inl bf))]) (vp_Si (fun x => (x = nI 1 ∧ hld sf rf pf ev a) ∨ (x = nI 0 ∧ ¬ hld sf rf pf ev a))) 0 0 (fun _ => False) := by
  refine Met.ofW (cc := cX0_holds) (maxL := 3) (ret := (some .boolean)) (by decide) rfl ?_
  intro p e s m args below meth c s₁ B hml hv
  obtain ⟨rfl, hP, hK⟩ := hv
  have hx := B.exec
  have hb := B.bytes
  have hr := B.returns
  have hts := atoms_spec (ws := (Cond.code yX0_holds cX0_holds 3 (some .boolean) :: wB)) B.pre
  have hown : s.vm.findClass RX0 = some m.cls := findClass_of_methodNamed B.named
  have hlocks := B.notSynchronized
  have hl := lv_entry ([.ref g0, .int (nI ev), .int a]) (n := 3) (Nat.le_of_ble_eq_true rfl)
  rw [lg_entry_eq]
  generalize (lg_sl ([.ref g0, .int (nI ev), .int a]) ++ List.replicate (3 - (lg_sl ([.ref g0, .int (nI ev), .int a])).length) Slot.unset).toArray = ls at hl ⊢
  have hl : lv_has ls 3 [(0, .ref g0), (1, .int (nI ev)), (2, .int a)] := hl
  refine lv_aload_n hx hb dX0_holds_0 rfl (lv_at hl 0 rfl) ?_
  refine va_get (D := D) (ci := 0) (v := .ref gs) (C := RX0) (T := TX0) (N := 10) hx hb hts mu_X0 hown hK hP 0 rfl rfl 4 (by decide) (hts _ (List.mem_cons_of_mem _ mw_35)) (fun _ h9 => h9) rfl dX0_holds_1 ?_
  refine lv_iload_n hx hb dX0_holds_4 rfl (lv_at hl 1 rfl) ?_
  refine rk_zald hx hb hK hP 3 2 rfl rfl (i := ev) (by omega) (by decide) dX0_holds_5 ?_
  refine lv_if_eq (tgt := 33) hx hb dX0_holds_6 (by decide) (fun c_6 => ?_) (fun c_6 => ?_)
  · skip
    refine lv_iconst (v := nI 0) hx hb dX0_holds_33 (by decide) ?_
    exact W.zret (v := (nI 0)) hx hb hr (by decide) (fun t ht hW => ⟨_, rfl, (by first | exact Or.inl ⟨rfl, c_6, i_nlt c_16, i_nle c_26⟩ | exact Or.inr ⟨rfl, fun h => h.1 c_6⟩ | exact Or.inr ⟨rfl, fun h => i_ltn c_16 h.2.1⟩ | exact Or.inr ⟨rfl, fun h => i_len c_26 h.2.2⟩), ht⟩) (fun q h => nomatch h) dX0_holds_34
  · skip
    refine lv_aload_n hx hb dX0_holds_9 rfl (lv_at hl 0 rfl) ?_
    refine va_get (D := D) (ci := 0) (v := .ref gr) (C := RX0) (T := TX0) (N := 10) hx hb hts mu_X0 hown hK hP 0 rfl rfl 3 (by decide) (hts _ (List.mem_cons_of_mem _ mw_34)) (fun _ h9 => h9) rfl dX0_holds_10 ?_
    refine lv_iload_n hx hb dX0_holds_13 rfl (lv_at hl 1 rfl) ?_
    refine rk_iald hx hb hK hP 2 0 rfl rfl (i := ev) (by omega) (by decide) dX0_holds_14 ?_
    refine lv_iload_n hx hb dX0_holds_15 rfl (lv_at hl 2 rfl) ?_
    refine lv_icmp_gt (tgt := 33) hx hb dX0_holds_16 (by decide) (fun c_16 => ?_) (fun c_16 => ?_)
    · skip
      refine lv_iconst (v := nI 0) hx hb dX0_holds_33 (by decide) ?_
      exact W.zret (v := (nI 0)) hx hb hr (by decide) (fun t ht hW => ⟨_, rfl, (by first | exact Or.inl ⟨rfl, c_6, i_nlt c_16, i_nle c_26⟩ | exact Or.inr ⟨rfl, fun h => h.1 c_6⟩ | exact Or.inr ⟨rfl, fun h => i_ltn c_16 h.2.1⟩ | exact Or.inr ⟨rfl, fun h => i_len c_26 h.2.2⟩), ht⟩) (fun q h => nomatch h) dX0_holds_34
    · skip
      refine lv_iload_n hx hb dX0_holds_19 rfl (lv_at hl 2 rfl) ?_
      refine lv_aload_n hx hb dX0_holds_20 rfl (lv_at hl 0 rfl) ?_
      refine va_get (D := D) (ci := 0) (v := .ref gp) (C := RX0) (T := TX0) (N := 10) hx hb hts mu_X0 hown hK hP 0 rfl rfl 8 (by decide) (hts _ (List.mem_cons_of_mem _ mw_40)) (fun _ h9 => h9) rfl dX0_holds_21 ?_
      refine lv_iload_n hx hb dX0_holds_24 rfl (lv_at hl 1 rfl) ?_
      refine rk_iald hx hb hK hP 7 0 rfl rfl (i := ev) (by omega) (by decide) dX0_holds_25 ?_
      refine lv_icmp_ge (tgt := 33) hx hb dX0_holds_26 (by decide) (fun c_26 => ?_) (fun c_26 => ?_)
      · skip
        refine lv_iconst (v := nI 0) hx hb dX0_holds_33 (by decide) ?_
        exact W.zret (v := (nI 0)) hx hb hr (by decide) (fun t ht hW => ⟨_, rfl, (by first | exact Or.inl ⟨rfl, c_6, i_nlt c_16, i_nle c_26⟩ | exact Or.inr ⟨rfl, fun h => h.1 c_6⟩ | exact Or.inr ⟨rfl, fun h => i_ltn c_16 h.2.1⟩ | exact Or.inr ⟨rfl, fun h => i_len c_26 h.2.2⟩), ht⟩) (fun q h => nomatch h) dX0_holds_34
      · skip
        refine lv_iconst (v := nI 1) hx hb dX0_holds_29 (by decide) ?_
        refine lv_goto (tgt := 34) hx hb dX0_holds_30 (by decide) ?_
        exact W.zret (v := (nI 1)) hx hb hr (by decide) (fun t ht hW => ⟨_, rfl, (by first | exact Or.inl ⟨rfl, c_6, i_nlt c_16, i_nle c_26⟩ | exact Or.inr ⟨rfl, fun h => h.1 c_6⟩ | exact Or.inr ⟨rfl, fun h => i_ltn c_16 h.2.1⟩ | exact Or.inr ⟨rfl, fun h => i_len c_26 h.2.2⟩), ht⟩) (fun q h => nomatch h) dX0_holds_34
set_option maxHeartbeats 4000000 in
set_option maxRecDepth 100000 in
theorem c_X0_find (l : Launch) (D : va_G) (cI cJ cZ : ClassId) (g0 gk gr gs gv gw gc gp gb r n : Nat) (kf rf sf : Nat → Int32) (vf : Nat → Int64) (wf cf pf bf : Nat → Int32) (hn : n ≤ 300) (key a : Int32) : Met l yX0_find (Cond.code yX0_find cX0_find 4 (some .int) :: wB) ({ frames := 1, cells := 0, slots := 0, locals := 22 } : Room) (ro_Pc D cI cJ cZ [.ref g0, .int key, .int a] [(g0, .inr (0, [.int (nI r), .int (nI n), .ref gk, .ref gr, .ref gs, .ref gv, .ref gw, .ref gc, .ref gp, .ref gb])), (gk, .inl (cI, 300, .inl kf)), (gr, .inl (cI, 300, .inl rf)), (gs, .inl (cZ, 300, .inl sf)), (gv, .inl (cJ, 300, .inr (.inl vf))), (gw, .inl (cI, 300, .inl wf)), (gc, .inl (cI, 300, .inl cf)), (gp, .inl (cI, 300, .inl pf)), (gb, .inl (cI, 300, .inl bf))]) (vp_Si (fun x => (x = -1 ∧ ∀ j, j < n → ¬ (kf j = key ∧ hld sf rf pf j a)) ∨ (∃ j, j < n ∧ x = nI j ∧ (kf j = key ∧ hld sf rf pf j a) ∧ ∀ i, i < j → ¬ (kf i = key ∧ hld sf rf pf i a)))) 0 0 (fun _ => False) := by
  refine Met.ofW (cc := cX0_find) (maxL := 4) (ret := (some .int)) (by decide) rfl ?_
  intro p e s m args below meth c s₁ B hml hv
  obtain ⟨rfl, hP, hK⟩ := hv
  have hx := B.exec
  have hb := B.bytes
  have hr := B.returns
  have hts := atoms_spec (ws := (Cond.code yX0_find cX0_find 4 (some .int) :: wB)) B.pre
  have hown : s.vm.findClass RX0 = some m.cls := findClass_of_methodNamed B.named
  have hlocks := B.notSynchronized
  have hl := lv_entry ([.ref g0, .int key, .int a]) (n := 4) (Nat.le_of_ble_eq_true rfl)
  rw [lg_entry_eq]
  generalize (lg_sl ([.ref g0, .int key, .int a]) ++ List.replicate (4 - (lg_sl ([.ref g0, .int key, .int a])).length) Slot.unset).toArray = ls at hl ⊢
  have hl : lv_has ls 4 [(0, .ref g0), (1, .int key), (2, .int a)] := hl
  refine lv_iconst (v := nI 0) hx hb dX0_find_0 (by decide) ?_
  refine lv_istore_n (lv' := [(3, .int (nI 0)), (0, .ref g0), (1, .int key), (2, .int a)]) hx hb dX0_find_1 rfl hl (by decide) rfl (fun ls hl => ?_)
  have hloop_2 : ∀ (k : Nat) (i : Nat), n - i < k → i ≤ n → (∀ j, j < i → ¬ (kf j = key ∧ hld sf rf pf j a)) → ∀ (ls : Array Slot), lv_has ls 4 [(0, .ref g0), (1, .int key), (2, .int a), (3, .int (nI i))] → W p l e ({ frames := 1, cells := 0, slots := 0, locals := 22 } : Room) s m ([.ref g0, .int key, .int a] : List Value).toArray below meth c s.heap [] 0 0 (MQ below (vp_Si (fun x => (x = -1 ∧ ∀ j, j < n → ¬ (kf j = key ∧ hld sf rf pf j a)) ∨ (∃ j, j < n ∧ x = nI j ∧ (kf j = key ∧ hld sf rf pf j a) ∧ ∀ i, i < j → ¬ (kf i = key ∧ hld sf rf pf i a)))) ([.ref g0, .int key, .int a] : List Value).toArray s 0 0 (fun _ => False)) (F0 m 2 ls []) := by
    intro k
    induction k with
    | zero => intro i hm; exact absurd hm (Nat.not_lt_zero _)
    | succ k ih_2 =>
      intro i hm_2 hi hq ls hl
      refine lv_iload_n hx hb dX0_find_2 rfl (lv_at hl 3 rfl) ?_
      refine lv_aload_n hx hb dX0_find_3 rfl (lv_at hl 0 rfl) ?_
      refine va_get (D := D) (ci := 0) (v := .int (nI n)) (C := RX0) (T := TX0) (N := 10) hx hb hts mu_X0 hown hK hP 0 rfl rfl 1 (by decide) (hts _ (List.mem_cons_of_mem _ mw_30)) (fun _ h9 => h9) rfl dX0_find_4 ?_
      refine lv_icmp_ge (tgt := 37) hx hb dX0_find_7 (by decide) (fun c_7 => ?_) (fun c_7 => ?_)
      · have c_7 := (nI_leI (by omega) (by omega)).mp c_7
        refine lv_iconst (v := -1) hx hb dX0_find_37 (by decide) ?_
        exact W.iret (v := (-1)) hx hb hr (fun t ht hW => ⟨_, rfl, (Or.inl ⟨rfl, fun j hj => hq j (by omega)⟩), ht⟩) (fun q h => nomatch h) dX0_find_38
      · have c_7 := mt (nI_leI (by omega) (by omega)).mpr c_7
        refine lv_aload_n hx hb dX0_find_10 rfl (lv_at hl 0 rfl) ?_
        refine va_get (D := D) (ci := 0) (v := .ref gk) (C := RX0) (T := TX0) (N := 10) hx hb hts mu_X0 hown hK hP 0 rfl rfl 2 (by decide) (hts _ (List.mem_cons_of_mem _ mw_32)) (fun _ h9 => h9) rfl dX0_find_11 ?_
        refine lv_iload_n hx hb dX0_find_14 rfl (lv_at hl 3 rfl) ?_
        refine rk_iald hx hb hK hP 1 0 rfl rfl (i := i) (by omega) (by decide) dX0_find_15 ?_
        refine lv_iload_n hx hb dX0_find_16 rfl (lv_at hl 1 rfl) ?_
        refine lv_icmp_ne (tgt := 31) hx hb dX0_find_17 (by decide) (fun c_17 => ?_) (fun c_17 => ?_)
        · skip
          refine lv_iinc (v := nI (i + 1)) (lv' := [(3, .int (nI (i + 1))), (0, .ref g0), (1, .int key), (2, .int a)]) hx hb dX0_find_31 hl (k := 3) rfl (by rw [show Int32.ofInt 1 = nI 1 by decide, nI_add]) (by decide) rfl (fun ls hl => ?_)
          refine lv_goto (tgt := 2) hx hb dX0_find_34 (by decide) ?_
          exact ih_2 (i + 1) (by omega) (by omega) (by intro j hj hPj; rcases ls_or hj with h | h; exact hq j h hPj; subst h; first | exact c_17 hPj.1 | exact hw_23 hPj.2) ls (lv_sub hl [1, 2, 3, 0] rfl)
        · skip
          refine lv_aload_n hx hb dX0_find_20 rfl (lv_at hl 0 rfl) ?_
          refine lv_iload_n hx hb dX0_find_21 rfl (lv_at hl 3 rfl) ?_
          refine lv_iload_n hx hb dX0_find_22 rfl (lv_at hl 2 rfl) ?_
          refine ro_callVi (As := [.int (nI i), .int a]) (rest := []) ⟨hx, hb, hml, hown, hts⟩ (c_X0_holds l D cI cJ cZ g0 gk gr gs gv gw gc gp gb r n kf rf sf vf wf cf pf bf i (by omega) a) (cwV 2 hts (wB_V mw_133 mw_135 ms_0 mw_2 mw_136) rfl rfl rfl (by decide +kernel) ⟨Nat.le_of_ble_eq_true rfl, Nat.le_of_ble_eq_true rfl⟩) (va_recv hK hP (ci := 0) (q0 := 0) rfl rfl) (hP.sub (ws' := [(g0, .inr (0, [.int (nI r), .int (nI n), .ref gk, .ref gr, .ref gs, .ref gv, .ref gw, .ref gc, .ref gp, .ref gb])), (gk, .inl (cI, 300, .inl kf)), (gr, .inl (cI, 300, .inl rf)), (gs, .inl (cZ, 300, .inl sf)), (gv, .inl (cJ, 300, .inr (.inl vf))), (gw, .inl (cI, 300, .inl wf)), (gc, .inl (cI, 300, .inl cf)), (gp, .inl (cI, 300, .inl pf)), (gb, .inl (cI, 300, .inl bf))]) [0, 1, 2, 3, 4, 5, 6, 7, 8] rfl) hK rfl hl.1 (Nat.le_of_ble_eq_true rfl) ⟨Nat.le_of_ble_eq_true rfl, Nat.le_of_ble_eq_true rfl⟩ rfl dX0_find_23 (fun r_23 hw_23 => ?_)
          try dsimp only at hw_23
          rcases hw_23 with ⟨rfl, hw_23⟩ | ⟨rfl, hw_23⟩
          · skip
            refine lv_if_eq (tgt := 31) hx hb dX0_find_26 (by decide) (fun c => absurd c (by decide)) (fun _ => ?_)
            refine lv_iload_n hx hb dX0_find_29 rfl (lv_at hl 3 rfl) ?_
            exact W.iret (v := (nI i)) hx hb hr (fun t ht hW => ⟨_, rfl, (Or.inr ⟨i, by omega, rfl, ⟨c_17, hw_23⟩, hq⟩), ht⟩) (fun q h => nomatch h) dX0_find_30
          · skip
            refine lv_if_eq (tgt := 31) hx hb dX0_find_26 (by decide) (fun _ => ?_) (fun c => absurd (by decide) c)
            refine lv_iinc (v := nI (i + 1)) (lv' := [(3, .int (nI (i + 1))), (0, .ref g0), (1, .int key), (2, .int a)]) hx hb dX0_find_31 hl (k := 3) rfl (by rw [show Int32.ofInt 1 = nI 1 by decide, nI_add]) (by decide) rfl (fun ls hl => ?_)
            refine lv_goto (tgt := 2) hx hb dX0_find_34 (by decide) ?_
            exact ih_2 (i + 1) (by omega) (by omega) (by intro j hj hPj; rcases ls_or hj with h | h; exact hq j h hPj; subst h; first | exact c_17 hPj.1 | exact hw_23 hPj.2) ls (lv_sub hl [1, 2, 3, 0] rfl)
  -- on to the loop
  exact hloop_2 ((n - 0) + 1) 0 (Nat.lt_succ_self _) (by omega) (fun j h => absurd h (Nat.not_lt_zero j)) ls (lv_sub hl [1, 2, 3, 0] rfl)
set_option maxHeartbeats 4000000 in
set_option maxRecDepth 100000 in
theorem c_X0_isThere (l : Launch) (D : va_G) (cI cJ cZ : ClassId) (g0 gk gr gs gv gw gc gp gb r n : Nat) (kf rf sf : Nat → Int32) (vf : Nat → Int64) (wf cf pf bf : Nat → Int32) (hn : n ≤ 300) (key : Int32) : Met l yX0_isThere (Cond.code yX0_isThere cX0_isThere 2 (some .boolean) :: wB) ({ frames := 2, cells := 0, slots := 0, locals := 45 } : Room) (ro_Pc D cI cJ cZ [.ref g0, .int key] [(g0, .inr (0, [.int (nI r), .int (nI n), .ref gk, .ref gr, .ref gs, .ref gv, .ref gw, .ref gc, .ref gp, .ref gb])), (gk, .inl (cI, 300, .inl kf)), (gr, .inl (cI, 300, .inl rf)), (gs, .inl (cZ, 300, .inl sf)), (gv, .inl (cJ, 300, .inr (.inl vf))), (gw, .inl (cI, 300, .inl wf)), (gc, .inl (cI, 300, .inl cf)), (gp, .inl (cI, 300, .inl pf)), (gb, .inl (cI, 300, .inl bf))]) (vp_Si (fun x => (x = nI 1 ∧ ∃ j, j < n ∧ (kf j = key ∧ hld sf rf pf j (nI r))) ∨ (x = nI 0 ∧ ∀ j, j < n → ¬ (kf j = key ∧ hld sf rf pf j (nI r))))) 0 0 (fun _ => False) := by
  refine Met.ofW (cc := cX0_isThere) (maxL := 2) (ret := (some .boolean)) (by decide) rfl ?_
  intro p e s m args below meth c s₁ B hml hv
  obtain ⟨rfl, hP, hK⟩ := hv
  have hx := B.exec
  have hb := B.bytes
  have hr := B.returns
  have hts := atoms_spec (ws := (Cond.code yX0_isThere cX0_isThere 2 (some .boolean) :: wB)) B.pre
  have hown : s.vm.findClass RX0 = some m.cls := findClass_of_methodNamed B.named
  have hlocks := B.notSynchronized
  have hl := lv_entry ([.ref g0, .int key]) (n := 2) (Nat.le_of_ble_eq_true rfl)
  rw [lg_entry_eq]
  generalize (lg_sl ([.ref g0, .int key]) ++ List.replicate (2 - (lg_sl ([.ref g0, .int key])).length) Slot.unset).toArray = ls at hl ⊢
  have hl : lv_has ls 2 [(0, .ref g0), (1, .int key)] := hl
  refine lv_aload_n hx hb dX0_isThere_0 rfl (lv_at hl 0 rfl) ?_
  refine lv_iload_n hx hb dX0_isThere_1 rfl (lv_at hl 1 rfl) ?_
  refine lv_aload_n hx hb dX0_isThere_2 rfl (lv_at hl 0 rfl) ?_
  refine va_get (D := D) (ci := 0) (v := .int (nI r)) (C := RX0) (T := TX0) (N := 10) hx hb hts mu_X0 hown hK hP 0 rfl rfl 0 (by decide) (hts _ (List.mem_cons_of_mem _ mw_27)) (fun _ h9 => h9) rfl dX0_isThere_3 ?_
  refine ro_callVi (As := [.int key, .int (nI r)]) (rest := []) ⟨hx, hb, hml, hown, hts⟩ (c_X0_find l D cI cJ cZ g0 gk gr gs gv gw gc gp gb r n kf rf sf vf wf cf pf bf (by omega) key (nI r)) (cwV 2 hts (wB_V mw_221 mw_222 mw_223 mw_2 mw_224) rfl rfl rfl (by decide +kernel) ⟨Nat.le_of_ble_eq_true rfl, Nat.le_of_ble_eq_true rfl⟩) (va_recv hK hP (ci := 0) (q0 := 0) rfl rfl) (hP.sub (ws' := [(g0, .inr (0, [.int (nI r), .int (nI n), .ref gk, .ref gr, .ref gs, .ref gv, .ref gw, .ref gc, .ref gp, .ref gb])), (gk, .inl (cI, 300, .inl kf)), (gr, .inl (cI, 300, .inl rf)), (gs, .inl (cZ, 300, .inl sf)), (gv, .inl (cJ, 300, .inr (.inl vf))), (gw, .inl (cI, 300, .inl wf)), (gc, .inl (cI, 300, .inl cf)), (gp, .inl (cI, 300, .inl pf)), (gb, .inl (cI, 300, .inl bf))]) [0, 1, 2, 3, 4, 5, 6, 7, 8] rfl) hK rfl hl.1 (Nat.le_of_ble_eq_true rfl) ⟨Nat.le_of_ble_eq_true rfl, Nat.le_of_ble_eq_true rfl⟩ rfl dX0_isThere_6 (fun r_6 hw_6 => ?_)
  try dsimp only at hw_6
  rcases hw_6 with ⟨rfl, hw_6⟩ | ⟨j, hj, rfl, hw_6, hq⟩
  · skip
    refine lv_iconst (v := -1) hx hb dX0_isThere_9 (by decide) ?_
    refine lv_icmp_eq (tgt := 17) hx hb dX0_isThere_10 (by decide) (fun _ => ?_) (fun c => absurd (by decide) c)
    refine lv_iconst (v := nI 0) hx hb dX0_isThere_17 (by decide) ?_
    exact W.zret (v := (nI 0)) hx hb hr (by decide) (fun t ht hW => ⟨_, rfl, (by first | exact Or.inl ⟨rfl, j, hj, hw_6⟩ | exact Or.inr ⟨rfl, hw_6⟩), ht⟩) (fun q h => nomatch h) dX0_isThere_18
  · skip
    refine lv_iconst (v := -1) hx hb dX0_isThere_9 (by decide) ?_
    refine lv_icmp_eq (tgt := 17) hx hb dX0_isThere_10 (by decide) (fun c => absurd c (zn_nm1 (n := j) (by omega))) (fun _ => ?_)
    refine lv_iconst (v := nI 1) hx hb dX0_isThere_13 (by decide) ?_
    refine lv_goto (tgt := 18) hx hb dX0_isThere_14 (by decide) ?_
    exact W.zret (v := (nI 1)) hx hb hr (by decide) (fun t ht hW => ⟨_, rfl, (by first | exact Or.inl ⟨rfl, j, hj, hw_6⟩ | exact Or.inr ⟨rfl, hw_6⟩), ht⟩) (fun q h => nomatch h) dX0_isThere_18
set_option maxHeartbeats 4000000 in
set_option maxRecDepth 100000 in
theorem c_X0_read (l : Launch) (D : va_G) (cI cJ cZ : ClassId) (g0 gk gr gs gv gw gc gp gb r n : Nat) (kf rf sf : Nat → Int32) (vf : Nat → Int64) (wf cf pf bf : Nat → Int32) (hn : n ≤ 300) (key a w : Int32) : Met l yX0_read (Cond.code yX0_read cX0_read 5 (some .long) :: wB) ({ frames := 2, cells := 0, slots := 0, locals := 45 } : Room) (ro_Pc D cI cJ cZ [.ref g0, .int key, .int a, .int w] [(g0, .inr (0, [.int (nI r), .int (nI n), .ref gk, .ref gr, .ref gs, .ref gv, .ref gw, .ref gc, .ref gp, .ref gb])), (gk, .inl (cI, 300, .inl kf)), (gr, .inl (cI, 300, .inl rf)), (gs, .inl (cZ, 300, .inl sf)), (gv, .inl (cJ, 300, .inr (.inl vf))), (gw, .inl (cI, 300, .inl wf)), (gc, .inl (cI, 300, .inl cf)), (gp, .inl (cI, 300, .inl pf)), (gb, .inl (cI, 300, .inl bf))]) (vp_Sl (fun x => (x = 0 ∧ ∀ j, j < n → ¬ (kf j = key ∧ hld sf rf pf j a)) ∨ (∃ j, j < n ∧ (kf j = key ∧ hld sf rf pf j a) ∧ ((w = nI 0 ∧ x = vf j) ∨ (w ≠ nI 0 ∧ w = nI 1 ∧ x = (wf j).toInt64) ∨ (w ≠ nI 0 ∧ w ≠ nI 1 ∧ w = nI 2 ∧ x = (cf j).toInt64) ∨ (w ≠ nI 0 ∧ w ≠ nI 1 ∧ w ≠ nI 2 ∧ x = (rf j).toInt64))))) 0 0 (fun _ => False) := by
  refine Met.ofW (cc := cX0_read) (maxL := 5) (ret := (some .long)) (by decide) rfl ?_
  intro p e s m args below meth c s₁ B hml hv
  obtain ⟨rfl, hP, hK⟩ := hv
  have hx := B.exec
  have hb := B.bytes
  have hr := B.returns
  have hts := atoms_spec (ws := (Cond.code yX0_read cX0_read 5 (some .long) :: wB)) B.pre
  have hown : s.vm.findClass RX0 = some m.cls := findClass_of_methodNamed B.named
  have hlocks := B.notSynchronized
  have hl := lv_entry ([.ref g0, .int key, .int a, .int w]) (n := 5) (Nat.le_of_ble_eq_true rfl)
  rw [lg_entry_eq]
  generalize (lg_sl ([.ref g0, .int key, .int a, .int w]) ++ List.replicate (5 - (lg_sl ([.ref g0, .int key, .int a, .int w])).length) Slot.unset).toArray = ls at hl ⊢
  have hl : lv_has ls 5 [(0, .ref g0), (1, .int key), (2, .int a), (3, .int w)] := hl
  refine lv_aload_n hx hb dX0_read_0 rfl (lv_at hl 0 rfl) ?_
  refine lv_iload_n hx hb dX0_read_1 rfl (lv_at hl 1 rfl) ?_
  refine lv_iload_n hx hb dX0_read_2 rfl (lv_at hl 2 rfl) ?_
  refine ro_callVi (As := [.int key, .int a]) (rest := []) ⟨hx, hb, hml, hown, hts⟩ (c_X0_find l D cI cJ cZ g0 gk gr gs gv gw gc gp gb r n kf rf sf vf wf cf pf bf (by omega) key a) (cwV 2 hts (wB_V mw_221 mw_222 mw_223 mw_2 mw_224) rfl rfl rfl (by decide +kernel) ⟨Nat.le_of_ble_eq_true rfl, Nat.le_of_ble_eq_true rfl⟩) (va_recv hK hP (ci := 0) (q0 := 0) rfl rfl) (hP.sub (ws' := [(g0, .inr (0, [.int (nI r), .int (nI n), .ref gk, .ref gr, .ref gs, .ref gv, .ref gw, .ref gc, .ref gp, .ref gb])), (gk, .inl (cI, 300, .inl kf)), (gr, .inl (cI, 300, .inl rf)), (gs, .inl (cZ, 300, .inl sf)), (gv, .inl (cJ, 300, .inr (.inl vf))), (gw, .inl (cI, 300, .inl wf)), (gc, .inl (cI, 300, .inl cf)), (gp, .inl (cI, 300, .inl pf)), (gb, .inl (cI, 300, .inl bf))]) [0, 1, 2, 3, 4, 5, 6, 7, 8] rfl) hK rfl hl.1 (Nat.le_of_ble_eq_true rfl) ⟨Nat.le_of_ble_eq_true rfl, Nat.le_of_ble_eq_true rfl⟩ rfl dX0_read_3 (fun r_3 hw_3 => ?_)
  try dsimp only at hw_3
  rcases hw_3 with ⟨rfl, hw_3⟩ | ⟨j, hj, rfl, hw_3, hq⟩
  · skip
    refine lv_istore (lv' := [(4, .int (-1)), (0, .ref g0), (1, .int key), (2, .int a), (3, .int w)]) hx hb dX0_read_6 hl (by decide) rfl (fun ls hl => ?_)
    refine lv_iload hx hb dX0_read_8 (lv_at hl 0 rfl) ?_
    refine lv_iconst (v := -1) hx hb dX0_read_10 (by decide) ?_
    refine lv_icmp_ne (tgt := 16) hx hb dX0_read_11 (by decide) (fun c => absurd (by decide) c) (fun _ => ?_)
    refine lv_lconst (v := 0) hx hb dX0_read_14 (by decide) ?_
    exact W.lret (v := 0) hx hb hr (fun t ht hW => ⟨_, rfl, (Or.inl ⟨rfl, hw_3⟩), ht⟩) (fun q h => nomatch h) dX0_read_15
  · skip
    refine lv_istore (lv' := [(4, .int (nI j)), (0, .ref g0), (1, .int key), (2, .int a), (3, .int w)]) hx hb dX0_read_6 hl (by decide) rfl (fun ls hl => ?_)
    refine lv_iload hx hb dX0_read_8 (lv_at hl 0 rfl) ?_
    refine lv_iconst (v := -1) hx hb dX0_read_10 (by decide) ?_
    refine lv_icmp_ne (tgt := 16) hx hb dX0_read_11 (by decide) (fun _ => ?_) (fun c => absurd c (zn_nm1 (n := j) (by omega)))
    refine lv_iload_n hx hb dX0_read_16 rfl (lv_at hl 4 rfl) ?_
    by_cases s17_0 : w = nI 0
    · refine lv_tableIn (tgt := 44) hx hb dX0_read_17 (by rw [s17_0]; decide) (by rw [s17_0]; decide) (by rw [s17_0]; rfl) (by decide) ?_
      refine lv_aload_n hx hb dX0_read_44 rfl (lv_at hl 1 rfl) ?_
      refine va_get (D := D) (ci := 0) (v := .ref gv) (C := RX0) (T := TX0) (N := 10) hx hb hts mu_X0 hown hK hP 0 rfl rfl 5 (by decide) (hts _ (List.mem_cons_of_mem _ mw_36)) (fun _ h9 => h9) rfl dX0_read_45 ?_
      refine lv_iload hx hb dX0_read_48 (lv_at hl 0 rfl) ?_
      refine rk_lald hx hb hK hP 4 1 rfl rfl (i := j) (by omega) (by decide) dX0_read_50 ?_
      exact W.lret (v := (vf j)) hx hb hr (fun t ht hW => ⟨_, rfl, (Or.inr ⟨j, hj, hw_3, Or.inl ⟨s17_0, rfl⟩⟩), ht⟩) (fun q h => nomatch h) dX0_read_51
    · by_cases s17_1 : w = nI 1
      · refine lv_tableIn (tgt := 52) hx hb dX0_read_17 (by rw [s17_1]; decide) (by rw [s17_1]; decide) (by rw [s17_1]; rfl) (by decide) ?_
        refine lv_aload_n hx hb dX0_read_52 rfl (lv_at hl 1 rfl) ?_
        refine va_get (D := D) (ci := 0) (v := .ref gw) (C := RX0) (T := TX0) (N := 10) hx hb hts mu_X0 hown hK hP 0 rfl rfl 6 (by decide) (hts _ (List.mem_cons_of_mem _ mw_38)) (fun _ h9 => h9) rfl dX0_read_53 ?_
        refine lv_iload hx hb dX0_read_56 (lv_at hl 0 rfl) ?_
        refine rk_iald hx hb hK hP 5 0 rfl rfl (i := j) (by omega) (by decide) dX0_read_58 ?_
        refine lv_i2l hx hb dX0_read_59 rfl ?_
        exact W.lret (v := ((wf j).toInt64)) hx hb hr (fun t ht hW => ⟨_, rfl, (Or.inr ⟨j, hj, hw_3, Or.inr (Or.inl ⟨s17_0, s17_1, rfl⟩)⟩), ht⟩) (fun q h => nomatch h) dX0_read_60
      · by_cases s17_2 : w = nI 2
        · refine lv_tableIn (tgt := 61) hx hb dX0_read_17 (by rw [s17_2]; decide) (by rw [s17_2]; decide) (by rw [s17_2]; rfl) (by decide) ?_
          refine lv_aload_n hx hb dX0_read_61 rfl (lv_at hl 1 rfl) ?_
          refine va_get (D := D) (ci := 0) (v := .ref gc) (C := RX0) (T := TX0) (N := 10) hx hb hts mu_X0 hown hK hP 0 rfl rfl 7 (by decide) (hts _ (List.mem_cons_of_mem _ mw_39)) (fun _ h9 => h9) rfl dX0_read_62 ?_
          refine lv_iload hx hb dX0_read_65 (lv_at hl 0 rfl) ?_
          refine rk_iald hx hb hK hP 6 0 rfl rfl (i := j) (by omega) (by decide) dX0_read_67 ?_
          refine lv_i2l hx hb dX0_read_68 rfl ?_
          exact W.lret (v := ((cf j).toInt64)) hx hb hr (fun t ht hW => ⟨_, rfl, (Or.inr ⟨j, hj, hw_3, Or.inr (Or.inr (Or.inl ⟨s17_0, s17_1, s17_2, rfl⟩))⟩), ht⟩) (fun q h => nomatch h) dX0_read_69
        · refine lv_tableOut (tgt := 70) hx hb dX0_read_17 (by have := lv_neT s17_0 (a := 0) (by decide); have := lv_neT s17_1 (a := 1) (by decide); have := lv_neT s17_2 (a := 2) (by decide); omega) (by decide) ?_
          refine lv_aload_n hx hb dX0_read_70 rfl (lv_at hl 1 rfl) ?_
          refine va_get (D := D) (ci := 0) (v := .ref gr) (C := RX0) (T := TX0) (N := 10) hx hb hts mu_X0 hown hK hP 0 rfl rfl 3 (by decide) (hts _ (List.mem_cons_of_mem _ mw_34)) (fun _ h9 => h9) rfl dX0_read_71 ?_
          refine lv_iload hx hb dX0_read_74 (lv_at hl 0 rfl) ?_
          refine rk_iald hx hb hK hP 2 0 rfl rfl (i := j) (by omega) (by decide) dX0_read_76 ?_
          refine lv_i2l hx hb dX0_read_77 rfl ?_
          exact W.lret (v := ((rf j).toInt64)) hx hb hr (fun t ht hW => ⟨_, rfl, (Or.inr ⟨j, hj, hw_3, Or.inr (Or.inr (Or.inr ⟨s17_0, s17_1, s17_2, rfl⟩))⟩), ht⟩) (fun q h => nomatch h) dX0_read_78
set_option maxHeartbeats 4000000 in
set_option maxRecDepth 100000 in
theorem c_X0_holdsWithin (l : Launch) (D : va_G) (cI cJ cZ : ClassId) (g0 gk gr gs gv gw gc gp gb r n : Nat) (kf rf sf : Nat → Int32) (vf : Nat → Int64) (wf cf pf bf : Nat → Int32) (ev : Nat) (he : ev < 300) (lw hg a : Int32) : Met l yX0_holdsWithin (Cond.code yX0_holdsWithin cX0_holdsWithin 5 (some .boolean) :: wB) ({ frames := 1, cells := 0, slots := 0, locals := 22 } : Room) (ro_Pc D cI cJ cZ [.ref g0, .int (nI ev), .int lw, .int hg, .int a] [(g0, .inr (0, [.int (nI r), .int (nI n), .ref gk, .ref gr, .ref gs, .ref gv, .ref gw, .ref gc, .ref gp, .ref gb])), (gk, .inl (cI, 300, .inl kf)), (gr, .inl (cI, 300, .inl rf)), (gs, .inl (cZ, 300, .inl sf)), (gv, .inl (cJ, 300, .inr (.inl vf))), (gw, .inl (cI, 300, .inl wf)), (gc, .inl (cI, 300, .inl cf)), (gp, .inl (cI, 300, .inl pf)), (gb, .inl (cI, 300, .inl bf))]) (vp_Si (fun x => (x = nI 1 ∧ (lw ≤ kf ev ∧ kf ev < hg ∧ hld sf rf pf ev a)) ∨ (x = nI 0 ∧ ¬ (lw ≤ kf ev ∧ kf ev < hg ∧ hld sf rf pf ev a)))) 0 0 (fun _ => False) := by
  refine Met.ofW (cc := cX0_holdsWithin) (maxL := 5) (ret := (some .boolean)) (by decide) rfl ?_
  intro p e s m args below meth c s₁ B hml hv
  obtain ⟨rfl, hP, hK⟩ := hv
  have hx := B.exec
  have hb := B.bytes
  have hr := B.returns
  have hts := atoms_spec (ws := (Cond.code yX0_holdsWithin cX0_holdsWithin 5 (some .boolean) :: wB)) B.pre
  have hown : s.vm.findClass RX0 = some m.cls := findClass_of_methodNamed B.named
  have hlocks := B.notSynchronized
  have hl := lv_entry ([.ref g0, .int (nI ev), .int lw, .int hg, .int a]) (n := 5) (Nat.le_of_ble_eq_true rfl)
  rw [lg_entry_eq]
  generalize (lg_sl ([.ref g0, .int (nI ev), .int lw, .int hg, .int a]) ++ List.replicate (5 - (lg_sl ([.ref g0, .int (nI ev), .int lw, .int hg, .int a])).length) Slot.unset).toArray = ls at hl ⊢
  have hl : lv_has ls 5 [(0, .ref g0), (1, .int (nI ev)), (2, .int lw), (3, .int hg), (4, .int a)] := hl
  refine lv_aload_n hx hb dX0_holdsWithin_0 rfl (lv_at hl 0 rfl) ?_
  refine va_get (D := D) (ci := 0) (v := .ref gk) (C := RX0) (T := TX0) (N := 10) hx hb hts mu_X0 hown hK hP 0 rfl rfl 2 (by decide) (hts _ (List.mem_cons_of_mem _ mw_32)) (fun _ h9 => h9) rfl dX0_holdsWithin_1 ?_
  refine lv_iload_n hx hb dX0_holdsWithin_4 rfl (lv_at hl 1 rfl) ?_
  refine rk_iald hx hb hK hP 1 0 rfl rfl (i := ev) (by omega) (by decide) dX0_holdsWithin_5 ?_
  refine lv_iload_n hx hb dX0_holdsWithin_6 rfl (lv_at hl 2 rfl) ?_
  refine lv_icmp_lt (tgt := 34) hx hb dX0_holdsWithin_7 (by decide) (fun c_7 => ?_) (fun c_7 => ?_)
  · skip
    refine lv_iconst (v := nI 0) hx hb dX0_holdsWithin_34 (by decide) ?_
    exact W.zret (v := (nI 0)) hx hb hr (by decide) (fun t ht hW => ⟨_, rfl, (by first | exact Or.inl ⟨rfl, i_nlt c_7, i_nle c_17, hw_24⟩ | exact Or.inr ⟨rfl, fun h => i_ltn c_7 h.1⟩ | exact Or.inr ⟨rfl, fun h => i_len c_17 h.2.1⟩ | exact Or.inr ⟨rfl, fun h => hw_24 h.2.2⟩), ht⟩) (fun q h => nomatch h) dX0_holdsWithin_35
  · skip
    refine lv_aload_n hx hb dX0_holdsWithin_10 rfl (lv_at hl 0 rfl) ?_
    refine va_get (D := D) (ci := 0) (v := .ref gk) (C := RX0) (T := TX0) (N := 10) hx hb hts mu_X0 hown hK hP 0 rfl rfl 2 (by decide) (hts _ (List.mem_cons_of_mem _ mw_32)) (fun _ h9 => h9) rfl dX0_holdsWithin_11 ?_
    refine lv_iload_n hx hb dX0_holdsWithin_14 rfl (lv_at hl 1 rfl) ?_
    refine rk_iald hx hb hK hP 1 0 rfl rfl (i := ev) (by omega) (by decide) dX0_holdsWithin_15 ?_
    refine lv_iload_n hx hb dX0_holdsWithin_16 rfl (lv_at hl 3 rfl) ?_
    refine lv_icmp_ge (tgt := 34) hx hb dX0_holdsWithin_17 (by decide) (fun c_17 => ?_) (fun c_17 => ?_)
    · skip
      refine lv_iconst (v := nI 0) hx hb dX0_holdsWithin_34 (by decide) ?_
      exact W.zret (v := (nI 0)) hx hb hr (by decide) (fun t ht hW => ⟨_, rfl, (by first | exact Or.inl ⟨rfl, i_nlt c_7, i_nle c_17, hw_24⟩ | exact Or.inr ⟨rfl, fun h => i_ltn c_7 h.1⟩ | exact Or.inr ⟨rfl, fun h => i_len c_17 h.2.1⟩ | exact Or.inr ⟨rfl, fun h => hw_24 h.2.2⟩), ht⟩) (fun q h => nomatch h) dX0_holdsWithin_35
    · skip
      refine lv_aload_n hx hb dX0_holdsWithin_20 rfl (lv_at hl 0 rfl) ?_
      refine lv_iload_n hx hb dX0_holdsWithin_21 rfl (lv_at hl 1 rfl) ?_
      refine lv_iload hx hb dX0_holdsWithin_22 (lv_at hl 4 rfl) ?_
      refine ro_callVi (As := [.int (nI ev), .int a]) (rest := []) ⟨hx, hb, hml, hown, hts⟩ (c_X0_holds l D cI cJ cZ g0 gk gr gs gv gw gc gp gb r n kf rf sf vf wf cf pf bf ev (by omega) a) (cwV 2 hts (wB_V mw_133 mw_135 ms_0 mw_2 mw_136) rfl rfl rfl (by decide +kernel) ⟨Nat.le_of_ble_eq_true rfl, Nat.le_of_ble_eq_true rfl⟩) (va_recv hK hP (ci := 0) (q0 := 0) rfl rfl) (hP.sub (ws' := [(g0, .inr (0, [.int (nI r), .int (nI n), .ref gk, .ref gr, .ref gs, .ref gv, .ref gw, .ref gc, .ref gp, .ref gb])), (gk, .inl (cI, 300, .inl kf)), (gr, .inl (cI, 300, .inl rf)), (gs, .inl (cZ, 300, .inl sf)), (gv, .inl (cJ, 300, .inr (.inl vf))), (gw, .inl (cI, 300, .inl wf)), (gc, .inl (cI, 300, .inl cf)), (gp, .inl (cI, 300, .inl pf)), (gb, .inl (cI, 300, .inl bf))]) [0, 1, 2, 3, 4, 5, 6, 7, 8] rfl) hK rfl hl.1 (Nat.le_of_ble_eq_true rfl) ⟨Nat.le_of_ble_eq_true rfl, Nat.le_of_ble_eq_true rfl⟩ rfl dX0_holdsWithin_24 (fun r_24 hw_24 => ?_)
      try dsimp only at hw_24
      rcases hw_24 with ⟨rfl, hw_24⟩ | ⟨rfl, hw_24⟩
      · skip
        refine lv_if_eq (tgt := 34) hx hb dX0_holdsWithin_27 (by decide) (fun c => absurd c (by decide)) (fun _ => ?_)
        refine lv_iconst (v := nI 1) hx hb dX0_holdsWithin_30 (by decide) ?_
        refine lv_goto (tgt := 35) hx hb dX0_holdsWithin_31 (by decide) ?_
        exact W.zret (v := (nI 1)) hx hb hr (by decide) (fun t ht hW => ⟨_, rfl, (by first | exact Or.inl ⟨rfl, i_nlt c_7, i_nle c_17, hw_24⟩ | exact Or.inr ⟨rfl, fun h => i_ltn c_7 h.1⟩ | exact Or.inr ⟨rfl, fun h => i_len c_17 h.2.1⟩ | exact Or.inr ⟨rfl, fun h => hw_24 h.2.2⟩), ht⟩) (fun q h => nomatch h) dX0_holdsWithin_35
      · skip
        refine lv_if_eq (tgt := 34) hx hb dX0_holdsWithin_27 (by decide) (fun _ => ?_) (fun c => absurd (by decide) c)
        refine lv_iconst (v := nI 0) hx hb dX0_holdsWithin_34 (by decide) ?_
        exact W.zret (v := (nI 0)) hx hb hr (by decide) (fun t ht hW => ⟨_, rfl, (by first | exact Or.inl ⟨rfl, i_nlt c_7, i_nle c_17, hw_24⟩ | exact Or.inr ⟨rfl, fun h => i_ltn c_7 h.1⟩ | exact Or.inr ⟨rfl, fun h => i_len c_17 h.2.1⟩ | exact Or.inr ⟨rfl, fun h => hw_24 h.2.2⟩), ht⟩) (fun q h => nomatch h) dX0_holdsWithin_35
set_option maxHeartbeats 4000000 in
set_option maxRecDepth 100000 in
theorem c_X0_keysWithin (l : Launch) (D : va_G) (cI cJ cZ : ClassId) (g0 gk gr gs gv gw gc gp gb r n : Nat) (kf rf sf : Nat → Int32) (vf : Nat → Int64) (wf cf pf bf : Nat → Int32) (hn : n ≤ 300) (lw hg a : Int32) : Met l yX0_keysWithin (Cond.code yX0_keysWithin cX0_keysWithin 6 (some .int) :: wB) ({ frames := 2, cells := 0, slots := 0, locals := 46 } : Room) (ro_Pc D cI cJ cZ [.ref g0, .int lw, .int hg, .int a] [(g0, .inr (0, [.int (nI r), .int (nI n), .ref gk, .ref gr, .ref gs, .ref gv, .ref gw, .ref gc, .ref gp, .ref gb])), (gk, .inl (cI, 300, .inl kf)), (gr, .inl (cI, 300, .inl rf)), (gs, .inl (cZ, 300, .inl sf)), (gv, .inl (cJ, 300, .inr (.inl vf))), (gw, .inl (cI, 300, .inl wf)), (gc, .inl (cI, 300, .inl cf)), (gp, .inl (cI, 300, .inl pf)), (gb, .inl (cI, 300, .inl bf))]) (vp_Si (fun x => x = nI (cnt (fun t => (lw ≤ kf t ∧ kf t < hg ∧ hld sf rf pf t a)) n))) 0 0 (fun _ => False) := by
  refine Met.ofW (cc := cX0_keysWithin) (maxL := 6) (ret := (some .int)) (by decide) rfl ?_
  intro p e s m args below meth c s₁ B hml hv
  obtain ⟨rfl, hP, hK⟩ := hv
  have hx := B.exec
  have hb := B.bytes
  have hr := B.returns
  have hts := atoms_spec (ws := (Cond.code yX0_keysWithin cX0_keysWithin 6 (some .int) :: wB)) B.pre
  have hown : s.vm.findClass RX0 = some m.cls := findClass_of_methodNamed B.named
  have hlocks := B.notSynchronized
  have hl := lv_entry ([.ref g0, .int lw, .int hg, .int a]) (n := 6) (Nat.le_of_ble_eq_true rfl)
  rw [lg_entry_eq]
  generalize (lg_sl ([.ref g0, .int lw, .int hg, .int a]) ++ List.replicate (6 - (lg_sl ([.ref g0, .int lw, .int hg, .int a])).length) Slot.unset).toArray = ls at hl ⊢
  have hl : lv_has ls 6 [(0, .ref g0), (1, .int lw), (2, .int hg), (3, .int a)] := hl
  refine lv_iconst (v := nI 0) hx hb dX0_keysWithin_0 (by decide) ?_
  refine lv_istore (lv' := [(4, .int (nI 0)), (0, .ref g0), (1, .int lw), (2, .int hg), (3, .int a)]) hx hb dX0_keysWithin_1 hl (by decide) rfl (fun ls hl => ?_)
  refine lv_iconst (v := nI 0) hx hb dX0_keysWithin_3 (by decide) ?_
  refine lv_istore (lv' := [(5, .int (nI 0)), (4, .int (nI 0)), (0, .ref g0), (1, .int lw), (2, .int hg), (3, .int a)]) hx hb dX0_keysWithin_4 hl (by decide) rfl (fun ls hl => ?_)
  have hloop_6 : ∀ (k : Nat) (f : Nat) (i : Nat), n - i < k → i ≤ n → f = cnt (fun t => (lw ≤ kf t ∧ kf t < hg ∧ hld sf rf pf t a)) i → ∀ (ls : Array Slot), lv_has ls 6 [(0, .ref g0), (1, .int lw), (2, .int hg), (3, .int a), (4, .int (nI f)), (5, .int (nI i))] → W p l e ({ frames := 2, cells := 0, slots := 0, locals := 46 } : Room) s m ([.ref g0, .int lw, .int hg, .int a] : List Value).toArray below meth c s.heap [] 0 0 (MQ below (vp_Si (fun x => x = nI (cnt (fun t => (lw ≤ kf t ∧ kf t < hg ∧ hld sf rf pf t a)) n))) ([.ref g0, .int lw, .int hg, .int a] : List Value).toArray s 0 0 (fun _ => False)) (F0 m 6 ls []) := by
    intro k
    induction k with
    | zero => intro f i hm; exact absurd hm (Nat.not_lt_zero _)
    | succ k ih_6 =>
      intro f i hm_6 hi hf ls hl
      refine lv_iload hx hb dX0_keysWithin_6 (lv_at hl 5 rfl) ?_
      refine lv_aload_n hx hb dX0_keysWithin_8 rfl (lv_at hl 0 rfl) ?_
      refine va_get (D := D) (ci := 0) (v := .int (nI n)) (C := RX0) (T := TX0) (N := 10) hx hb hts mu_X0 hown hK hP 0 rfl rfl 1 (by decide) (hts _ (List.mem_cons_of_mem _ mw_30)) (fun _ h9 => h9) rfl dX0_keysWithin_9 ?_
      refine lv_icmp_ge (tgt := 36) hx hb dX0_keysWithin_12 (by decide) (fun c_12 => ?_) (fun c_12 => ?_)
      · have c_12 := (nI_leI (by omega) (by omega)).mp c_12
        refine lv_iload hx hb dX0_keysWithin_36 (lv_at hl 4 rfl) ?_
        exact W.iret (v := (nI f)) hx hb hr (fun t ht hW => ⟨_, rfl, (by rw [hf, show i = n by omega]), ht⟩) (fun q h => nomatch h) dX0_keysWithin_38
      · have c_12 := mt (nI_leI (by omega) (by omega)).mpr c_12
        refine lv_aload_n hx hb dX0_keysWithin_15 rfl (lv_at hl 0 rfl) ?_
        refine lv_iload hx hb dX0_keysWithin_16 (lv_at hl 5 rfl) ?_
        refine lv_iload_n hx hb dX0_keysWithin_18 rfl (lv_at hl 1 rfl) ?_
        refine lv_iload_n hx hb dX0_keysWithin_19 rfl (lv_at hl 2 rfl) ?_
        refine lv_iload_n hx hb dX0_keysWithin_20 rfl (lv_at hl 3 rfl) ?_
        refine ro_callVi (As := [.int (nI i), .int lw, .int hg, .int a]) (rest := []) ⟨hx, hb, hml, hown, hts⟩ (c_X0_holdsWithin l D cI cJ cZ g0 gk gr gs gv gw gc gp gb r n kf rf sf vf wf cf pf bf i (by omega) lw hg a) (cwV 4 hts (wB_V mw_391 mw_393 ms_8 mw_2 mw_394) rfl rfl rfl (by decide +kernel) ⟨Nat.le_of_ble_eq_true rfl, Nat.le_of_ble_eq_true rfl⟩) (va_recv hK hP (ci := 0) (q0 := 0) rfl rfl) (hP.sub (ws' := [(g0, .inr (0, [.int (nI r), .int (nI n), .ref gk, .ref gr, .ref gs, .ref gv, .ref gw, .ref gc, .ref gp, .ref gb])), (gk, .inl (cI, 300, .inl kf)), (gr, .inl (cI, 300, .inl rf)), (gs, .inl (cZ, 300, .inl sf)), (gv, .inl (cJ, 300, .inr (.inl vf))), (gw, .inl (cI, 300, .inl wf)), (gc, .inl (cI, 300, .inl cf)), (gp, .inl (cI, 300, .inl pf)), (gb, .inl (cI, 300, .inl bf))]) [0, 1, 2, 3, 4, 5, 6, 7, 8] rfl) hK rfl hl.1 (Nat.le_of_ble_eq_true rfl) ⟨Nat.le_of_ble_eq_true rfl, Nat.le_of_ble_eq_true rfl⟩ rfl dX0_keysWithin_21 (fun r_21 hw_21 => ?_)
        try dsimp only at hw_21
        rcases hw_21 with ⟨rfl, hw_21⟩ | ⟨rfl, hw_21⟩
        · skip
          refine lv_if_eq (tgt := 30) hx hb dX0_keysWithin_24 (by decide) (fun c => absurd c (by decide)) (fun _ => ?_)
          refine lv_iinc (v := nI (f + 1)) (lv' := [(4, .int (nI (f + 1))), (0, .ref g0), (1, .int lw), (2, .int hg), (3, .int a), (5, .int (nI i))]) hx hb dX0_keysWithin_27 hl (k := 4) rfl (by rw [show Int32.ofInt 1 = nI 1 by decide, nI_add]) (by decide) rfl (fun ls hl => ?_)
          refine lv_iinc (v := nI (i + 1)) (lv' := [(5, .int (nI (i + 1))), (4, .int (nI (f + 1))), (0, .ref g0), (1, .int lw), (2, .int hg), (3, .int a)]) hx hb dX0_keysWithin_30 hl (k := 5) rfl (by rw [show Int32.ofInt 1 = nI 1 by decide, nI_add]) (by decide) rfl (fun ls hl => ?_)
          refine lv_goto (tgt := 6) hx hb dX0_keysWithin_33 (by decide) ?_
          exact ih_6 (f + 1) (i + 1) (by omega) (by omega) (by first | rw [cnt_1 hw_21, hf] | rw [cnt_0 hw_21, hf]) ls (lv_sub hl [2, 3, 4, 5, 1, 0] rfl)
        · skip
          refine lv_if_eq (tgt := 30) hx hb dX0_keysWithin_24 (by decide) (fun _ => ?_) (fun c => absurd (by decide) c)
          refine lv_iinc (v := nI (i + 1)) (lv' := [(5, .int (nI (i + 1))), (0, .ref g0), (1, .int lw), (2, .int hg), (3, .int a), (4, .int (nI f))]) hx hb dX0_keysWithin_30 hl (k := 5) rfl (by rw [show Int32.ofInt 1 = nI 1 by decide, nI_add]) (by decide) rfl (fun ls hl => ?_)
          refine lv_goto (tgt := 6) hx hb dX0_keysWithin_33 (by decide) ?_
          exact ih_6 f (i + 1) (by omega) (by omega) (by first | rw [cnt_1 hw_21, hf] | rw [cnt_0 hw_21, hf]) ls (lv_sub hl [1, 2, 3, 4, 5, 0] rfl)
  -- on to the loop
  exact hloop_6 ((n - 0) + 1) 0 0 (Nat.lt_succ_self _) (by omega) (rfl) ls (lv_sub hl [2, 3, 4, 5, 1, 0] rfl)
set_option maxHeartbeats 4000000 in
set_option maxRecDepth 100000 in
theorem c_X0_findWithin (l : Launch) (D : va_G) (cI cJ cZ : ClassId) (g0 gk gr gs gv gw gc gp gb r n : Nat) (kf rf sf : Nat → Int32) (vf : Nat → Int64) (wf cf pf bf : Nat → Int32) (bn : Nat → Nat) (hn : n ≤ 300) (hbn : ∀ q, q < n → bf q = nI (bn q) ∧ bn q < n) (lw hg a ix : Int32) : Met l yX0_findWithin (Cond.code yX0_findWithin cX0_findWithin 8 (some .int) :: wB) ({ frames := 2, cells := 0, slots := 0, locals := 46 } : Room) (ro_Pc D cI cJ cZ [.ref g0, .int lw, .int hg, .int a, .int ix] [(g0, .inr (0, [.int (nI r), .int (nI n), .ref gk, .ref gr, .ref gs, .ref gv, .ref gw, .ref gc, .ref gp, .ref gb])), (gk, .inl (cI, 300, .inl kf)), (gr, .inl (cI, 300, .inl rf)), (gs, .inl (cZ, 300, .inl sf)), (gv, .inl (cJ, 300, .inr (.inl vf))), (gw, .inl (cI, 300, .inl wf)), (gc, .inl (cI, 300, .inl cf)), (gp, .inl (cI, 300, .inl pf)), (gb, .inl (cI, 300, .inl bf))]) (vp_Si (fun x => (x = -1 ∧ ∀ q, q < n → (lw ≤ kf (bn q) ∧ kf (bn q) < hg ∧ hld sf rf pf (bn q) a) → ix ≠ nI (cnt (fun t => (lw ≤ kf (bn t) ∧ kf (bn t) < hg ∧ hld sf rf pf (bn t) a)) q)) ∨ (∃ q, q < n ∧ x = nI (bn q) ∧ (lw ≤ kf (bn q) ∧ kf (bn q) < hg ∧ hld sf rf pf (bn q) a) ∧ ix = nI (cnt (fun t => (lw ≤ kf (bn t) ∧ kf (bn t) < hg ∧ hld sf rf pf (bn t) a)) q)))) 0 0 (fun _ => False) := by
  refine Met.ofW (cc := cX0_findWithin) (maxL := 8) (ret := (some .int)) (by decide) rfl ?_
  intro p e s m args below meth c s₁ B hml hv
  obtain ⟨rfl, hP, hK⟩ := hv
  have hx := B.exec
  have hb := B.bytes
  have hr := B.returns
  have hts := atoms_spec (ws := (Cond.code yX0_findWithin cX0_findWithin 8 (some .int) :: wB)) B.pre
  have hown : s.vm.findClass RX0 = some m.cls := findClass_of_methodNamed B.named
  have hlocks := B.notSynchronized
  have hl := lv_entry ([.ref g0, .int lw, .int hg, .int a, .int ix]) (n := 8) (Nat.le_of_ble_eq_true rfl)
  rw [lg_entry_eq]
  generalize (lg_sl ([.ref g0, .int lw, .int hg, .int a, .int ix]) ++ List.replicate (8 - (lg_sl ([.ref g0, .int lw, .int hg, .int a, .int ix])).length) Slot.unset).toArray = ls at hl ⊢
  have hl : lv_has ls 8 [(0, .ref g0), (1, .int lw), (2, .int hg), (3, .int a), (4, .int ix)] := hl
  refine lv_iconst (v := nI 0) hx hb dX0_findWithin_0 (by decide) ?_
  refine lv_istore (lv' := [(5, .int (nI 0)), (0, .ref g0), (1, .int lw), (2, .int hg), (3, .int a), (4, .int ix)]) hx hb dX0_findWithin_1 hl (by decide) rfl (fun ls hl => ?_)
  refine lv_iconst (v := nI 0) hx hb dX0_findWithin_3 (by decide) ?_
  refine lv_istore (lv' := [(6, .int (nI 0)), (5, .int (nI 0)), (0, .ref g0), (1, .int lw), (2, .int hg), (3, .int a), (4, .int ix)]) hx hb dX0_findWithin_4 hl (by decide) rfl (fun ls hl => ?_)
  have hloop_6 : ∀ (k : Nat) (f : Nat) (i : Nat), n - i < k → i ≤ n → f = cnt (fun t => (lw ≤ kf (bn t) ∧ kf (bn t) < hg ∧ hld sf rf pf (bn t) a)) i → (∀ q, q < i → (lw ≤ kf (bn q) ∧ kf (bn q) < hg ∧ hld sf rf pf (bn q) a) → ix ≠ nI (cnt (fun t => (lw ≤ kf (bn t) ∧ kf (bn t) < hg ∧ hld sf rf pf (bn t) a)) q)) → ∀ (ls : Array Slot), lv_has ls 8 [(0, .ref g0), (1, .int lw), (2, .int hg), (3, .int a), (4, .int ix), (5, .int (nI f)), (6, .int (nI i))] → W p l e ({ frames := 2, cells := 0, slots := 0, locals := 46 } : Room) s m ([.ref g0, .int lw, .int hg, .int a, .int ix] : List Value).toArray below meth c s.heap [] 0 0 (MQ below (vp_Si (fun x => (x = -1 ∧ ∀ q, q < n → (lw ≤ kf (bn q) ∧ kf (bn q) < hg ∧ hld sf rf pf (bn q) a) → ix ≠ nI (cnt (fun t => (lw ≤ kf (bn t) ∧ kf (bn t) < hg ∧ hld sf rf pf (bn t) a)) q)) ∨ (∃ q, q < n ∧ x = nI (bn q) ∧ (lw ≤ kf (bn q) ∧ kf (bn q) < hg ∧ hld sf rf pf (bn q) a) ∧ ix = nI (cnt (fun t => (lw ≤ kf (bn t) ∧ kf (bn t) < hg ∧ hld sf rf pf (bn t) a)) q)))) ([.ref g0, .int lw, .int hg, .int a, .int ix] : List Value).toArray s 0 0 (fun _ => False)) (F0 m 6 ls []) := by
    intro k
    induction k with
    | zero => intro f i hm; exact absurd hm (Nat.not_lt_zero _)
    | succ k ih_6 =>
      intro f i hm_6 hi hf hq ls hl
      refine lv_iload hx hb dX0_findWithin_6 (lv_at hl 6 rfl) ?_
      refine lv_aload_n hx hb dX0_findWithin_8 rfl (lv_at hl 0 rfl) ?_
      refine va_get (D := D) (ci := 0) (v := .int (nI n)) (C := RX0) (T := TX0) (N := 10) hx hb hts mu_X0 hown hK hP 0 rfl rfl 1 (by decide) (hts _ (List.mem_cons_of_mem _ mw_30)) (fun _ h9 => h9) rfl dX0_findWithin_9 ?_
      refine lv_icmp_ge (tgt := 55) hx hb dX0_findWithin_12 (by decide) (fun c_12 => ?_) (fun c_12 => ?_)
      · have c_12 := (nI_leI (by omega) (by omega)).mp c_12
        refine lv_iconst (v := -1) hx hb dX0_findWithin_55 (by decide) ?_
        exact W.iret (v := (-1)) hx hb hr (fun t ht hW => ⟨_, rfl, (Or.inl ⟨rfl, fun q hq1 => hq q (by omega)⟩), ht⟩) (fun q h => nomatch h) dX0_findWithin_56
      · have c_12 := mt (nI_leI (by omega) (by omega)).mpr c_12
        refine lv_aload_n hx hb dX0_findWithin_15 rfl (lv_at hl 0 rfl) ?_
        refine va_get (D := D) (ci := 0) (v := .ref gb) (C := RX0) (T := TX0) (N := 10) hx hb hts mu_X0 hown hK hP 0 rfl rfl 9 (by decide) (hts _ (List.mem_cons_of_mem _ mw_41)) (fun _ h9 => h9) rfl dX0_findWithin_16 ?_
        refine lv_iload hx hb dX0_findWithin_19 (lv_at hl 6 rfl) ?_
        refine rk_iald hx hb hK hP 8 0 rfl rfl (i := i) (by omega) (by decide) dX0_findWithin_21 ?_
        rw [(hbn i (by omega)).1]
        have hbi := (hbn i (by omega)).2
        refine lv_istore (lv' := [(7, .int (nI (bn i))), (0, .ref g0), (1, .int lw), (2, .int hg), (3, .int a), (4, .int ix), (5, .int (nI f)), (6, .int (nI i))]) hx hb dX0_findWithin_22 hl (by decide) rfl (fun ls hl => ?_)
        refine lv_aload_n hx hb dX0_findWithin_24 rfl (lv_at hl 1 rfl) ?_
        refine lv_iload hx hb dX0_findWithin_25 (lv_at hl 0 rfl) ?_
        refine lv_iload_n hx hb dX0_findWithin_27 rfl (lv_at hl 2 rfl) ?_
        refine lv_iload_n hx hb dX0_findWithin_28 rfl (lv_at hl 3 rfl) ?_
        refine lv_iload_n hx hb dX0_findWithin_29 rfl (lv_at hl 4 rfl) ?_
        refine ro_callVi (As := [.int (nI (bn i)), .int lw, .int hg, .int a]) (rest := []) ⟨hx, hb, hml, hown, hts⟩ (c_X0_holdsWithin l D cI cJ cZ g0 gk gr gs gv gw gc gp gb r n kf rf sf vf wf cf pf bf (bn i) (by omega) lw hg a) (cwV 4 hts (wB_V mw_391 mw_393 ms_8 mw_2 mw_394) rfl rfl rfl (by decide +kernel) ⟨Nat.le_of_ble_eq_true rfl, Nat.le_of_ble_eq_true rfl⟩) (va_recv hK hP (ci := 0) (q0 := 0) rfl rfl) (hP.sub (ws' := [(g0, .inr (0, [.int (nI r), .int (nI n), .ref gk, .ref gr, .ref gs, .ref gv, .ref gw, .ref gc, .ref gp, .ref gb])), (gk, .inl (cI, 300, .inl kf)), (gr, .inl (cI, 300, .inl rf)), (gs, .inl (cZ, 300, .inl sf)), (gv, .inl (cJ, 300, .inr (.inl vf))), (gw, .inl (cI, 300, .inl wf)), (gc, .inl (cI, 300, .inl cf)), (gp, .inl (cI, 300, .inl pf)), (gb, .inl (cI, 300, .inl bf))]) [0, 1, 2, 3, 4, 5, 6, 7, 8] rfl) hK rfl hl.1 (Nat.le_of_ble_eq_true rfl) ⟨Nat.le_of_ble_eq_true rfl, Nat.le_of_ble_eq_true rfl⟩ rfl dX0_findWithin_30 (fun r_30 hw_30 => ?_)
        try dsimp only at hw_30
        rcases hw_30 with ⟨rfl, hw_30⟩ | ⟨rfl, hw_30⟩
        · skip
          refine lv_if_eq (tgt := 49) hx hb dX0_findWithin_33 (by decide) (fun c => absurd c (by decide)) (fun _ => ?_)
          refine lv_iload hx hb dX0_findWithin_36 (lv_at hl 6 rfl) ?_
          refine lv_iload hx hb dX0_findWithin_38 (lv_at hl 5 rfl) ?_
          refine lv_icmp_ne (tgt := 46) hx hb dX0_findWithin_40 (by decide) (fun c_40 => ?_) (fun c_40 => ?_)
          · skip
            refine lv_iinc (v := nI (f + 1)) (lv' := [(5, .int (nI (f + 1))), (7, .int (nI (bn i))), (0, .ref g0), (1, .int lw), (2, .int hg), (3, .int a), (4, .int ix), (6, .int (nI i))]) hx hb dX0_findWithin_46 hl (k := 6) rfl (by rw [show Int32.ofInt 1 = nI 1 by decide, nI_add]) (by decide) rfl (fun ls hl => ?_)
            refine lv_iinc (v := nI (i + 1)) (lv' := [(6, .int (nI (i + 1))), (5, .int (nI (f + 1))), (7, .int (nI (bn i))), (0, .ref g0), (1, .int lw), (2, .int hg), (3, .int a), (4, .int ix)]) hx hb dX0_findWithin_49 hl (k := 7) rfl (by rw [show Int32.ofInt 1 = nI 1 by decide, nI_add]) (by decide) rfl (fun ls hl => ?_)
            refine lv_goto (tgt := 6) hx hb dX0_findWithin_52 (by decide) ?_
            exact ih_6 (f + 1) (i + 1) (by omega) (by omega) (by first | rw [cnt_1 (Pr := fun t => (lw ≤ kf (bn t) ∧ kf (bn t) < hg ∧ hld sf rf pf (bn t) a)) hw_30, hf] | rw [cnt_0 (Pr := fun t => (lw ≤ kf (bn t) ∧ kf (bn t) < hg ∧ hld sf rf pf (bn t) a)) hw_30, hf]) (by intro q hq1 hq2; rcases ls_or hq1 with h | h; exact hq q h hq2; subst h; first | exact absurd hq2 hw_30 | (intro h3; exact c_40 (by rw [hf, h3]))) ls (lv_sub hl [3, 4, 5, 6, 7, 1, 0] rfl)
          · skip
            refine lv_iload hx hb dX0_findWithin_43 (lv_at hl 0 rfl) ?_
            exact W.iret (v := (nI (bn i))) hx hb hr (fun t ht hW => ⟨_, rfl, (Or.inr ⟨i, by omega, rfl, hw_30, by rw [← c_40, hf]⟩), ht⟩) (fun q h => nomatch h) dX0_findWithin_45
        · skip
          refine lv_if_eq (tgt := 49) hx hb dX0_findWithin_33 (by decide) (fun _ => ?_) (fun c => absurd (by decide) c)
          refine lv_iinc (v := nI (i + 1)) (lv' := [(6, .int (nI (i + 1))), (7, .int (nI (bn i))), (0, .ref g0), (1, .int lw), (2, .int hg), (3, .int a), (4, .int ix), (5, .int (nI f))]) hx hb dX0_findWithin_49 hl (k := 7) rfl (by rw [show Int32.ofInt 1 = nI 1 by decide, nI_add]) (by decide) rfl (fun ls hl => ?_)
          refine lv_goto (tgt := 6) hx hb dX0_findWithin_52 (by decide) ?_
          exact ih_6 f (i + 1) (by omega) (by omega) (by first | rw [cnt_1 (Pr := fun t => (lw ≤ kf (bn t) ∧ kf (bn t) < hg ∧ hld sf rf pf (bn t) a)) hw_30, hf] | rw [cnt_0 (Pr := fun t => (lw ≤ kf (bn t) ∧ kf (bn t) < hg ∧ hld sf rf pf (bn t) a)) hw_30, hf]) (by intro q hq1 hq2; rcases ls_or hq1 with h | h; exact hq q h hq2; subst h; first | exact absurd hq2 hw_30 | (intro h3; exact c_40 (by rw [hf, h3]))) ls (lv_sub hl [2, 3, 4, 5, 6, 7, 0] rfl)
  -- on to the loop
  exact hloop_6 ((n - 0) + 1) 0 0 (Nat.lt_succ_self _) (by omega) (rfl) (fun q h => absurd h (Nat.not_lt_zero q)) ls (lv_sub hl [2, 3, 4, 5, 6, 1, 0] rfl)
set_option maxHeartbeats 4000000 in
set_option maxRecDepth 100000 in
theorem c_X0_keysNow (l : Launch) (D : va_G) (cI cJ cZ : ClassId) (g0 gk gr gs gv gw gc gp gb r n : Nat) (kf rf sf : Nat → Int32) (vf : Nat → Int64) (wf cf pf bf : Nat → Int32) (hn : n ≤ 300) : Met l yX0_keysNow (Cond.code yX0_keysNow cX0_keysNow 3 (some .int) :: wB) ({ frames := 1, cells := 0, slots := 0, locals := 22 } : Room) (ro_Pc D cI cJ cZ [.ref g0] [(g0, .inr (0, [.int (nI r), .int (nI n), .ref gk, .ref gr, .ref gs, .ref gv, .ref gw, .ref gc, .ref gp, .ref gb])), (gk, .inl (cI, 300, .inl kf)), (gr, .inl (cI, 300, .inl rf)), (gs, .inl (cZ, 300, .inl sf)), (gv, .inl (cJ, 300, .inr (.inl vf))), (gw, .inl (cI, 300, .inl wf)), (gc, .inl (cI, 300, .inl cf)), (gp, .inl (cI, 300, .inl pf)), (gb, .inl (cI, 300, .inl bf))]) (vp_Si (fun x => x = nI (cnt (fun t => hld sf rf pf t (nI r)) n))) 0 0 (fun _ => False) := by
  refine Met.ofW (cc := cX0_keysNow) (maxL := 3) (ret := (some .int)) (by decide) rfl ?_
  intro p e s m args below meth c s₁ B hml hv
  obtain ⟨rfl, hP, hK⟩ := hv
  have hx := B.exec
  have hb := B.bytes
  have hr := B.returns
  have hts := atoms_spec (ws := (Cond.code yX0_keysNow cX0_keysNow 3 (some .int) :: wB)) B.pre
  have hown : s.vm.findClass RX0 = some m.cls := findClass_of_methodNamed B.named
  have hlocks := B.notSynchronized
  have hl := lv_entry ([.ref g0]) (n := 3) (Nat.le_of_ble_eq_true rfl)
  rw [lg_entry_eq]
  generalize (lg_sl ([.ref g0]) ++ List.replicate (3 - (lg_sl ([.ref g0])).length) Slot.unset).toArray = ls at hl ⊢
  have hl : lv_has ls 3 [(0, .ref g0)] := hl
  refine lv_iconst (v := nI 0) hx hb dX0_keysNow_0 (by decide) ?_
  refine lv_istore_n (lv' := [(1, .int (nI 0)), (0, .ref g0)]) hx hb dX0_keysNow_1 rfl hl (by decide) rfl (fun ls hl => ?_)
  refine lv_iconst (v := nI 0) hx hb dX0_keysNow_2 (by decide) ?_
  refine lv_istore_n (lv' := [(2, .int (nI 0)), (1, .int (nI 0)), (0, .ref g0)]) hx hb dX0_keysNow_3 rfl hl (by decide) rfl (fun ls hl => ?_)
  have hloop_4 : ∀ (k : Nat) (f : Nat) (i : Nat), n - i < k → i ≤ n → f = cnt (fun t => hld sf rf pf t (nI r)) i → ∀ (ls : Array Slot), lv_has ls 3 [(0, .ref g0), (1, .int (nI f)), (2, .int (nI i))] → W p l e ({ frames := 1, cells := 0, slots := 0, locals := 22 } : Room) s m ([.ref g0] : List Value).toArray below meth c s.heap [] 0 0 (MQ below (vp_Si (fun x => x = nI (cnt (fun t => hld sf rf pf t (nI r)) n))) ([.ref g0] : List Value).toArray s 0 0 (fun _ => False)) (F0 m 4 ls []) := by
    intro k
    induction k with
    | zero => intro f i hm; exact absurd hm (Nat.not_lt_zero _)
    | succ k ih_4 =>
      intro f i hm_4 hi hf ls hl
      refine lv_iload_n hx hb dX0_keysNow_4 rfl (lv_at hl 2 rfl) ?_
      refine lv_aload_n hx hb dX0_keysNow_5 rfl (lv_at hl 0 rfl) ?_
      refine va_get (D := D) (ci := 0) (v := .int (nI n)) (C := RX0) (T := TX0) (N := 10) hx hb hts mu_X0 hown hK hP 0 rfl rfl 1 (by decide) (hts _ (List.mem_cons_of_mem _ mw_30)) (fun _ h9 => h9) rfl dX0_keysNow_6 ?_
      refine lv_icmp_ge (tgt := 33) hx hb dX0_keysNow_9 (by decide) (fun c_9 => ?_) (fun c_9 => ?_)
      · have c_9 := (nI_leI (by omega) (by omega)).mp c_9
        refine lv_iload_n hx hb dX0_keysNow_33 rfl (lv_at hl 1 rfl) ?_
        exact W.iret (v := (nI f)) hx hb hr (fun t ht hW => ⟨_, rfl, (by rw [hf, show i = n by omega]), ht⟩) (fun q h => nomatch h) dX0_keysNow_34
      · have c_9 := mt (nI_leI (by omega) (by omega)).mpr c_9
        refine lv_aload_n hx hb dX0_keysNow_12 rfl (lv_at hl 0 rfl) ?_
        refine lv_iload_n hx hb dX0_keysNow_13 rfl (lv_at hl 2 rfl) ?_
        refine lv_aload_n hx hb dX0_keysNow_14 rfl (lv_at hl 0 rfl) ?_
        refine va_get (D := D) (ci := 0) (v := .int (nI r)) (C := RX0) (T := TX0) (N := 10) hx hb hts mu_X0 hown hK hP 0 rfl rfl 0 (by decide) (hts _ (List.mem_cons_of_mem _ mw_27)) (fun _ h9 => h9) rfl dX0_keysNow_15 ?_
        refine ro_callVi (As := [.int (nI i), .int (nI r)]) (rest := []) ⟨hx, hb, hml, hown, hts⟩ (c_X0_holds l D cI cJ cZ g0 gk gr gs gv gw gc gp gb r n kf rf sf vf wf cf pf bf i (by omega) (nI r)) (cwV 2 hts (wB_V mw_133 mw_135 ms_0 mw_2 mw_136) rfl rfl rfl (by decide +kernel) ⟨Nat.le_of_ble_eq_true rfl, Nat.le_of_ble_eq_true rfl⟩) (va_recv hK hP (ci := 0) (q0 := 0) rfl rfl) (hP.sub (ws' := [(g0, .inr (0, [.int (nI r), .int (nI n), .ref gk, .ref gr, .ref gs, .ref gv, .ref gw, .ref gc, .ref gp, .ref gb])), (gk, .inl (cI, 300, .inl kf)), (gr, .inl (cI, 300, .inl rf)), (gs, .inl (cZ, 300, .inl sf)), (gv, .inl (cJ, 300, .inr (.inl vf))), (gw, .inl (cI, 300, .inl wf)), (gc, .inl (cI, 300, .inl cf)), (gp, .inl (cI, 300, .inl pf)), (gb, .inl (cI, 300, .inl bf))]) [0, 1, 2, 3, 4, 5, 6, 7, 8] rfl) hK rfl hl.1 (Nat.le_of_ble_eq_true rfl) ⟨Nat.le_of_ble_eq_true rfl, Nat.le_of_ble_eq_true rfl⟩ rfl dX0_keysNow_18 (fun r_18 hw_18 => ?_)
        try dsimp only at hw_18
        rcases hw_18 with ⟨rfl, hw_18⟩ | ⟨rfl, hw_18⟩
        · skip
          refine lv_if_eq (tgt := 27) hx hb dX0_keysNow_21 (by decide) (fun c => absurd c (by decide)) (fun _ => ?_)
          refine lv_iinc (v := nI (f + 1)) (lv' := [(1, .int (nI (f + 1))), (0, .ref g0), (2, .int (nI i))]) hx hb dX0_keysNow_24 hl (k := 1) rfl (by rw [show Int32.ofInt 1 = nI 1 by decide, nI_add]) (by decide) rfl (fun ls hl => ?_)
          refine lv_iinc (v := nI (i + 1)) (lv' := [(2, .int (nI (i + 1))), (1, .int (nI (f + 1))), (0, .ref g0)]) hx hb dX0_keysNow_27 hl (k := 2) rfl (by rw [show Int32.ofInt 1 = nI 1 by decide, nI_add]) (by decide) rfl (fun ls hl => ?_)
          refine lv_goto (tgt := 4) hx hb dX0_keysNow_30 (by decide) ?_
          exact ih_4 (f + 1) (i + 1) (by omega) (by omega) (by first | rw [cnt_1 hw_18, hf] | rw [cnt_0 hw_18, hf]) ls (lv_sub hl [2, 1, 0] rfl)
        · skip
          refine lv_if_eq (tgt := 27) hx hb dX0_keysNow_21 (by decide) (fun _ => ?_) (fun c => absurd (by decide) c)
          refine lv_iinc (v := nI (i + 1)) (lv' := [(2, .int (nI (i + 1))), (0, .ref g0), (1, .int (nI f))]) hx hb dX0_keysNow_27 hl (k := 2) rfl (by rw [show Int32.ofInt 1 = nI 1 by decide, nI_add]) (by decide) rfl (fun ls hl => ?_)
          refine lv_goto (tgt := 4) hx hb dX0_keysNow_30 (by decide) ?_
          exact ih_4 f (i + 1) (by omega) (by omega) (by first | rw [cnt_1 hw_18, hf] | rw [cnt_0 hw_18, hf]) ls (lv_sub hl [1, 2, 0] rfl)
  -- on to the loop
  exact hloop_4 ((n - 0) + 1) 0 0 (Nat.lt_succ_self _) (by omega) (rfl) ls (lv_sub hl [2, 1, 0] rfl)
set_option maxHeartbeats 4000000 in
set_option maxRecDepth 100000 in
theorem c_X0_firstEventFrom (l : Launch) (D : va_G) (cI cJ cZ : ClassId) (g0 gk gr gs gv gw gc gp gb r n : Nat) (kf rf sf : Nat → Int32) (vf : Nat → Int64) (wf cf pf bf : Nat → Int32) (hn : n ≤ 300) (fr : Int32) : Met l yX0_firstEventFrom (Cond.code yX0_firstEventFrom cX0_firstEventFrom 3 (some .int) :: wB) ({ frames := 0, cells := 0, slots := 0, locals := 0 } : Room) (ro_Pc D cI cJ cZ [.ref g0, .int fr] [(g0, .inr (0, [.int (nI r), .int (nI n), .ref gk, .ref gr, .ref gs, .ref gv, .ref gw, .ref gc, .ref gp, .ref gb])), (gk, .inl (cI, 300, .inl kf)), (gr, .inl (cI, 300, .inl rf)), (gs, .inl (cZ, 300, .inl sf)), (gv, .inl (cJ, 300, .inr (.inl vf))), (gw, .inl (cI, 300, .inl wf)), (gc, .inl (cI, 300, .inl cf)), (gp, .inl (cI, 300, .inl pf)), (gb, .inl (cI, 300, .inl bf))]) (vp_Si (fun x => ∃ f, f ≤ n ∧ x = nI f ∧ (∀ q, q < f → rf q < fr) ∧ (f = n ∨ ¬ rf f < fr))) 0 0 (fun _ => False) := by
  refine Met.ofW (cc := cX0_firstEventFrom) (maxL := 3) (ret := (some .int)) (by decide) rfl ?_
  intro p e s m args below meth c s₁ B hml hv
  obtain ⟨rfl, hP, hK⟩ := hv
  have hx := B.exec
  have hb := B.bytes
  have hr := B.returns
  have hts := atoms_spec (ws := (Cond.code yX0_firstEventFrom cX0_firstEventFrom 3 (some .int) :: wB)) B.pre
  have hown : s.vm.findClass RX0 = some m.cls := findClass_of_methodNamed B.named
  have hlocks := B.notSynchronized
  have hl := lv_entry ([.ref g0, .int fr]) (n := 3) (Nat.le_of_ble_eq_true rfl)
  rw [lg_entry_eq]
  generalize (lg_sl ([.ref g0, .int fr]) ++ List.replicate (3 - (lg_sl ([.ref g0, .int fr])).length) Slot.unset).toArray = ls at hl ⊢
  have hl : lv_has ls 3 [(0, .ref g0), (1, .int fr)] := hl
  refine lv_iconst (v := nI 0) hx hb dX0_firstEventFrom_0 (by decide) ?_
  refine lv_istore_n (lv' := [(2, .int (nI 0)), (0, .ref g0), (1, .int fr)]) hx hb dX0_firstEventFrom_1 rfl hl (by decide) rfl (fun ls hl => ?_)
  have hloop_2 : ∀ (k : Nat) (i : Nat), n - i < k → i ≤ n → (∀ q, q < i → rf q < fr) → ∀ (ls : Array Slot), lv_has ls 3 [(0, .ref g0), (1, .int fr), (2, .int (nI i))] → W p l e ({ frames := 0, cells := 0, slots := 0, locals := 0 } : Room) s m ([.ref g0, .int fr] : List Value).toArray below meth c s.heap [] 0 0 (MQ below (vp_Si (fun x => ∃ f, f ≤ n ∧ x = nI f ∧ (∀ q, q < f → rf q < fr) ∧ (f = n ∨ ¬ rf f < fr))) ([.ref g0, .int fr] : List Value).toArray s 0 0 (fun _ => False)) (F0 m 2 ls []) := by
    intro k
    induction k with
    | zero => intro i hm; exact absurd hm (Nat.not_lt_zero _)
    | succ k ih_2 =>
      intro i hm_2 hi hq ls hl
      refine lv_iload_n hx hb dX0_firstEventFrom_2 rfl (lv_at hl 2 rfl) ?_
      refine lv_aload_n hx hb dX0_firstEventFrom_3 rfl (lv_at hl 0 rfl) ?_
      refine va_get (D := D) (ci := 0) (v := .int (nI n)) (C := RX0) (T := TX0) (N := 10) hx hb hts mu_X0 hown hK hP 0 rfl rfl 1 (by decide) (hts _ (List.mem_cons_of_mem _ mw_30)) (fun _ h9 => h9) rfl dX0_firstEventFrom_4 ?_
      refine lv_icmp_ge (tgt := 26) hx hb dX0_firstEventFrom_7 (by decide) (fun c_7 => ?_) (fun c_7 => ?_)
      · have c_7 := (nI_leI (by omega) (by omega)).mp c_7
        refine lv_iload_n hx hb dX0_firstEventFrom_26 rfl (lv_at hl 2 rfl) ?_
        exact W.iret (v := (nI i)) hx hb hr (fun t ht hW => ⟨_, rfl, ⟨i, hi, rfl, hq, by first | exact Or.inr (i_len c_17) | exact Or.inl (by omega)⟩, ht⟩) (fun q h => nomatch h) dX0_firstEventFrom_27
      · have c_7 := mt (nI_leI (by omega) (by omega)).mpr c_7
        refine lv_aload_n hx hb dX0_firstEventFrom_10 rfl (lv_at hl 0 rfl) ?_
        refine va_get (D := D) (ci := 0) (v := .ref gr) (C := RX0) (T := TX0) (N := 10) hx hb hts mu_X0 hown hK hP 0 rfl rfl 3 (by decide) (hts _ (List.mem_cons_of_mem _ mw_34)) (fun _ h9 => h9) rfl dX0_firstEventFrom_11 ?_
        refine lv_iload_n hx hb dX0_firstEventFrom_14 rfl (lv_at hl 2 rfl) ?_
        refine rk_iald hx hb hK hP 2 0 rfl rfl (i := i) (by omega) (by decide) dX0_firstEventFrom_15 ?_
        refine lv_iload_n hx hb dX0_firstEventFrom_16 rfl (lv_at hl 1 rfl) ?_
        refine lv_icmp_ge (tgt := 26) hx hb dX0_firstEventFrom_17 (by decide) (fun c_17 => ?_) (fun c_17 => ?_)
        · skip
          refine lv_iload_n hx hb dX0_firstEventFrom_26 rfl (lv_at hl 2 rfl) ?_
          exact W.iret (v := (nI i)) hx hb hr (fun t ht hW => ⟨_, rfl, ⟨i, hi, rfl, hq, by first | exact Or.inr (i_len c_17) | exact Or.inl (by omega)⟩, ht⟩) (fun q h => nomatch h) dX0_firstEventFrom_27
        · skip
          refine lv_iinc (v := nI (i + 1)) (lv' := [(2, .int (nI (i + 1))), (0, .ref g0), (1, .int fr)]) hx hb dX0_firstEventFrom_20 hl (k := 2) rfl (by rw [show Int32.ofInt 1 = nI 1 by decide, nI_add]) (by decide) rfl (fun ls hl => ?_)
          refine lv_goto (tgt := 2) hx hb dX0_firstEventFrom_23 (by decide) ?_
          exact ih_2 (i + 1) (by omega) (by omega) (by intro q hq1; rcases ls_or hq1 with h | h; exact hq q h; subst h; exact i_nle c_17) ls (lv_sub hl [1, 2, 0] rfl)
  -- on to the loop
  exact hloop_2 ((n - 0) + 1) 0 (Nat.lt_succ_self _) (by omega) (fun q h => absurd h (Nat.not_lt_zero q)) ls (lv_sub hl [1, 2, 0] rfl)
set_option maxHeartbeats 4000000 in
set_option maxRecDepth 100000 in
theorem c_X0_describe (l : Launch) (D : va_G) (cI cJ cZ : ClassId) (g0 gk gr gs gv gw gc gp gb r n : Nat) (kf rf sf : Nat → Int32) (vf : Nat → Int64) (wf cf pf bf : Nat → Int32) (ev : Nat) (he : ev < 300) (w : Int32) : Met l yX0_describe (Cond.code yX0_describe cX0_describe 3 (some .int) :: wB) ({ frames := 0, cells := 0, slots := 0, locals := 0 } : Room) (ro_Pc D cI cJ cZ [.ref g0, .int (nI ev), .int w] [(g0, .inr (0, [.int (nI r), .int (nI n), .ref gk, .ref gr, .ref gs, .ref gv, .ref gw, .ref gc, .ref gp, .ref gb])), (gk, .inl (cI, 300, .inl kf)), (gr, .inl (cI, 300, .inl rf)), (gs, .inl (cZ, 300, .inl sf)), (gv, .inl (cJ, 300, .inr (.inl vf))), (gw, .inl (cI, 300, .inl wf)), (gc, .inl (cI, 300, .inl cf)), (gp, .inl (cI, 300, .inl pf)), (gb, .inl (cI, 300, .inl bf))]) (vp_Si (fun x => (w = nI 0 ∧ x = kf ev) ∨ (w ≠ nI 0 ∧ w = nI 1 ∧ x = rf ev) ∨ (w ≠ nI 0 ∧ w ≠ nI 1 ∧ ((sf ev ≠ 0 ∧ x = nI 1) ∨ (sf ev = 0 ∧ x = nI 0))))) 0 0 (fun _ => False) := by
  refine Met.ofW (cc := cX0_describe) (maxL := 3) (ret := (some .int)) (by decide) rfl ?_
  intro p e s m args below meth c s₁ B hml hv
  obtain ⟨rfl, hP, hK⟩ := hv
  have hx := B.exec
  have hb := B.bytes
  have hr := B.returns
  have hts := atoms_spec (ws := (Cond.code yX0_describe cX0_describe 3 (some .int) :: wB)) B.pre
  have hown : s.vm.findClass RX0 = some m.cls := findClass_of_methodNamed B.named
  have hlocks := B.notSynchronized
  have hl := lv_entry ([.ref g0, .int (nI ev), .int w]) (n := 3) (Nat.le_of_ble_eq_true rfl)
  rw [lg_entry_eq]
  generalize (lg_sl ([.ref g0, .int (nI ev), .int w]) ++ List.replicate (3 - (lg_sl ([.ref g0, .int (nI ev), .int w])).length) Slot.unset).toArray = ls at hl ⊢
  have hl : lv_has ls 3 [(0, .ref g0), (1, .int (nI ev)), (2, .int w)] := hl
  refine lv_iload_n hx hb dX0_describe_0 rfl (lv_at hl 2 rfl) ?_
  by_cases s1_0 : w = nI 0
  · refine lv_lookup (tgt := 28) (off := 27) hx hb dX0_describe_1 (by decide) (by rw [s1_0]; first | done | rfl) (by decide) ?_
    refine lv_aload_n hx hb dX0_describe_28 rfl (lv_at hl 0 rfl) ?_
    refine va_get (D := D) (ci := 0) (v := .ref gk) (C := RX0) (T := TX0) (N := 10) hx hb hts mu_X0 hown hK hP 0 rfl rfl 2 (by decide) (hts _ (List.mem_cons_of_mem _ mw_32)) (fun _ h9 => h9) rfl dX0_describe_29 ?_
    refine lv_iload_n hx hb dX0_describe_32 rfl (lv_at hl 1 rfl) ?_
    refine rk_iald hx hb hK hP 1 0 rfl rfl (i := ev) (by omega) (by decide) dX0_describe_33 ?_
    exact W.iret (v := (kf ev)) hx hb hr (fun t ht hW => ⟨_, rfl, (Or.inl ⟨s1_0, rfl⟩), ht⟩) (fun q h => nomatch h) dX0_describe_34
  · by_cases s1_1 : w = nI 1
    · refine lv_lookup (tgt := 35) (off := 34) hx hb dX0_describe_1 (by decide) (by rw [s1_1]; first | done | rfl) (by decide) ?_
      refine lv_aload_n hx hb dX0_describe_35 rfl (lv_at hl 0 rfl) ?_
      refine va_get (D := D) (ci := 0) (v := .ref gr) (C := RX0) (T := TX0) (N := 10) hx hb hts mu_X0 hown hK hP 0 rfl rfl 3 (by decide) (hts _ (List.mem_cons_of_mem _ mw_34)) (fun _ h9 => h9) rfl dX0_describe_36 ?_
      refine lv_iload_n hx hb dX0_describe_39 rfl (lv_at hl 1 rfl) ?_
      refine rk_iald hx hb hK hP 2 0 rfl rfl (i := ev) (by omega) (by decide) dX0_describe_40 ?_
      exact W.iret (v := (rf ev)) hx hb hr (fun t ht hW => ⟨_, rfl, (Or.inr (Or.inl ⟨s1_0, s1_1, rfl⟩)), ht⟩) (fun q h => nomatch h) dX0_describe_41
    · have zs1_0 : ¬ (0 : Int) = (w).toInt := fun q => lv_neT s1_0 (a := 0) (by decide) q.symm
      have zs1_1 : ¬ (1 : Int) = (w).toInt := fun q => lv_neT s1_1 (a := 1) (by decide) q.symm
      refine lv_lookup (tgt := 42) (off := 41) hx hb dX0_describe_1 (by decide) (by simp [Op.lookupswitch.offset, zs1_0, zs1_1]) (by decide) ?_
      refine lv_aload_n hx hb dX0_describe_42 rfl (lv_at hl 0 rfl) ?_
      refine va_get (D := D) (ci := 0) (v := .ref gs) (C := RX0) (T := TX0) (N := 10) hx hb hts mu_X0 hown hK hP 0 rfl rfl 4 (by decide) (hts _ (List.mem_cons_of_mem _ mw_35)) (fun _ h9 => h9) rfl dX0_describe_43 ?_
      refine lv_iload_n hx hb dX0_describe_46 rfl (lv_at hl 1 rfl) ?_
      refine rk_zald hx hb hK hP 3 2 rfl rfl (i := ev) (by omega) (by decide) dX0_describe_47 ?_
      refine lv_if_eq (tgt := 55) hx hb dX0_describe_48 (by decide) (fun c_48 => ?_) (fun c_48 => ?_)
      · skip
        refine lv_iconst (v := nI 0) hx hb dX0_describe_55 (by decide) ?_
        exact W.iret (v := (nI 0)) hx hb hr (fun t ht hW => ⟨_, rfl, (Or.inr (Or.inr ⟨s1_0, s1_1, by first | exact Or.inl ⟨c_48, rfl⟩ | exact Or.inr ⟨c_48, rfl⟩⟩)), ht⟩) (fun q h => nomatch h) dX0_describe_56
      · skip
        refine lv_iconst (v := nI 1) hx hb dX0_describe_51 (by decide) ?_
        refine lv_goto (tgt := 56) hx hb dX0_describe_52 (by decide) ?_
        exact W.iret (v := (nI 1)) hx hb hr (fun t ht hW => ⟨_, rfl, (Or.inr (Or.inr ⟨s1_0, s1_1, by first | exact Or.inl ⟨c_48, rfl⟩ | exact Or.inr ⟨c_48, rfl⟩⟩)), ht⟩) (fun q h => nomatch h) dX0_describe_56
