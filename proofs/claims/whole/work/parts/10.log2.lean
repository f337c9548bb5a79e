set_option maxHeartbeats 4000000 in
set_option maxRecDepth 100000 in
theorem c_X0_openRevision (l : Launch) (D : va_G) (cI cJ cZ : ClassId) (sz : Nat) (g0 gk gr gs gv gw gc gp gb r n : Nat) (kf rf sf : Nat → Int32) (vf : Nat → Int64) (wf cf pf bf : Nat → Int32) : Met l yX0_openRevision (Cond.code yX0_openRevision cX0_openRevision 1 none :: wB) ({ frames := 0, cells := 0, slots := 0, locals := 0 } : Room) (rw_Pc D cI cJ cZ sz [.ref g0] [(g0, .inr (0, [.int (nI r), .int (nI n), .ref gk, .ref gr, .ref gs, .ref gv, .ref gw, .ref gc, .ref gp, .ref gb])), (gk, .inl (cI, 300, .inl kf)), (gr, .inl (cI, 300, .inl rf)), (gs, .inl (cZ, 300, .inl sf)), (gv, .inl (cJ, 300, .inr (.inl vf))), (gw, .inl (cI, 300, .inl wf)), (gc, .inl (cI, 300, .inl cf)), (gp, .inl (cI, 300, .inl pf)), (gb, .inl (cI, 300, .inl bf))]) (rw_Qv (S := Unit) D cI cJ cZ sz [(g0, .inr (0, [.int (nI r), .int (nI n), .ref gk, .ref gr, .ref gs, .ref gv, .ref gw, .ref gc, .ref gp, .ref gb])), (gk, .inl (cI, 300, .inl kf)), (gr, .inl (cI, 300, .inl rf)), (gs, .inl (cZ, 300, .inl sf)), (gv, .inl (cJ, 300, .inr (.inl vf))), (gw, .inl (cI, 300, .inl wf)), (gc, .inl (cI, 300, .inl cf)), (gp, .inl (cI, 300, .inl pf)), (gb, .inl (cI, 300, .inl bf))] (fun u => [(g0, .inr (0, [.int (nI (r + 1)), .int (nI n), .ref gk, .ref gr, .ref gs, .ref gv, .ref gw, .ref gc, .ref gp, .ref gb])), (gk, .inl (cI, 300, .inl kf)), (gr, .inl (cI, 300, .inl rf)), (gs, .inl (cZ, 300, .inl sf)), (gv, .inl (cJ, 300, .inr (.inl vf))), (gw, .inl (cI, 300, .inl wf)), (gc, .inl (cI, 300, .inl cf)), (gp, .inl (cI, 300, .inl pf)), (gb, .inl (cI, 300, .inl bf))]) (fun _ => True)) 0 0 (va_A [(g0, .inr (0, [.int (nI r), .int (nI n), .ref gk, .ref gr, .ref gs, .ref gv, .ref gw, .ref gc, .ref gp, .ref gb])), (gk, .inl (cI, 300, .inl kf)), (gr, .inl (cI, 300, .inl rf)), (gs, .inl (cZ, 300, .inl sf)), (gv, .inl (cJ, 300, .inr (.inl vf))), (gw, .inl (cI, 300, .inl wf)), (gc, .inl (cI, 300, .inl cf)), (gp, .inl (cI, 300, .inl pf)), (gb, .inl (cI, 300, .inl bf))] sz) := by
  refine Met.ofW (cc := cX0_openRevision) (maxL := 1) (ret := none) (by decide) rfl ?_
  intro p e s m args below meth c s₁ B hml hv
  obtain ⟨rfl, hsz, hP, hK, hD0⟩ := hv
  have hx := B.exec
  have hb := B.bytes
  have hr := B.returns
  have hts := atoms_spec (ws := (Cond.code yX0_openRevision cX0_openRevision 1 none :: wB)) B.pre
  have hown : s.vm.findClass RX0 = some m.cls := findClass_of_methodNamed B.named
  have hlocks := B.notSynchronized
  subst hsz
  have hD := hD0.self (sz := s.heap.size)
  obtain ⟨A, hAe⟩ : ∃ A, A = va_A [(g0, .inr (0, [.int (nI r), .int (nI n), .ref gk, .ref gr, .ref gs, .ref gv, .ref gw, .ref gc, .ref gp, .ref gb])), (gk, .inl (cI, 300, .inl kf)), (gr, .inl (cI, 300, .inl rf)), (gs, .inl (cZ, 300, .inl sf)), (gv, .inl (cJ, 300, .inr (.inl vf))), (gw, .inl (cI, 300, .inl wf)), (gc, .inl (cI, 300, .inl cf)), (gp, .inl (cI, 300, .inl pf)), (gb, .inl (cI, 300, .inl bf))] s.heap.size := ⟨_, rfl⟩
  rw [← hAe] at hD
  have hA : ∀ q : Nat, s.heap.size ≤ q → A q := fun q h => by rw [hAe]; exact Or.inr h
  have hS : va_S A s.heap s.heap [] := va_S.rf
  have hl := lv_entry ([.ref g0]) (n := 1) (Nat.le_of_ble_eq_true rfl)
  rw [lg_entry_eq]
  generalize (lg_sl ([.ref g0]) ++ List.replicate (1 - (lg_sl ([.ref g0])).length) Slot.unset).toArray = ls at hl ⊢
  have hl : lv_has ls 1 [(0, .ref g0)] := hl
  refine lv_aload_n hx hb dX0_openRevision_0 rfl (lv_at hl 0 rfl) ?_
  refine lv_dup hx hb dX0_openRevision_1 rfl ?_
  refine va_get (D := D) (ci := 0) (v := .int (nI r)) (C := RX0) (T := TX0) (N := 10) hx hb hts mu_X0 hown hK hP 0 rfl rfl 0 (by decide) (hts _ (List.mem_cons_of_mem _ mw_27)) (fun _ h9 => h9) rfl dX0_openRevision_2 ?_
  refine lv_iconst (v := nI 1) hx hb dX0_openRevision_5 (by decide) ?_
  refine rk_iadd hx hb dX0_openRevision_6 ?_
  refine va_put (D := D) (ci := 0) (v := .int (nI (r + 1))) (ty := .int) (C := RX0) (T := TX0) (N := 10) hx hb hts mu_X0 tyX0 tyX0_ok nmX0 hown hK hP hD hS 0 rfl rfl 0 (by decide) (hts _ (List.mem_cons_of_mem _ mw_27)) (fun _ h9 => h9) rfl (by decide +kernel) rfl rfl (Nat.le_of_ble_eq_true rfl) dX0_openRevision_7 (fun H locs hP hD hS => ?_)
  have hP : va_P D vwCl [(g0, .inr (0, [.int (nI (r + 1)), .int (nI n), .ref gk, .ref gr, .ref gs, .ref gv, .ref gw, .ref gc, .ref gp, .ref gb])), (gk, .inl (cI, 300, .inl kf)), (gr, .inl (cI, 300, .inl rf)), (gs, .inl (cZ, 300, .inl sf)), (gv, .inl (cJ, 300, .inr (.inl vf))), (gw, .inl (cI, 300, .inl wf)), (gc, .inl (cI, 300, .inl cf)), (gp, .inl (cI, 300, .inl pf)), (gb, .inl (cI, 300, .inl bf))] H := hP
  have hD : va_D A [(g0, .inr (0, [.int (nI (r + 1)), .int (nI n), .ref gk, .ref gr, .ref gs, .ref gv, .ref gw, .ref gc, .ref gp, .ref gb])), (gk, .inl (cI, 300, .inl kf)), (gr, .inl (cI, 300, .inl rf)), (gs, .inl (cZ, 300, .inl sf)), (gv, .inl (cJ, 300, .inr (.inl vf))), (gw, .inl (cI, 300, .inl wf)), (gc, .inl (cI, 300, .inl cf)), (gp, .inl (cI, 300, .inl pf)), (gb, .inl (cI, 300, .inl bf))] := hD
  exact rw_retv (u := ()) hAe (hP) (hD) hS hK (trivial) (Nat.le_of_ble_eq_true rfl) (Nat.le_of_ble_eq_true rfl) hx hb hr hlocks dX0_openRevision_10
set_option maxHeartbeats 4000000 in
set_option maxRecDepth 100000 in
theorem c_X0_sortIn (l : Launch) (D : va_G) (cI cJ cZ : ClassId) (sz : Nat) (g0 gk gr gs gv gw gc gp gb r n : Nat) (kf rf sf : Nat → Int32) (vf : Nat → Int64) (wf cf pf bf : Nat → Int32) (bn : Nat → Nat) (ev : Nat) (hev : ev < 300) (hbn : ∀ q, q < ev → bf q = nI (bn q) ∧ bn q < 300) : Met l yX0_sortIn (Cond.code yX0_sortIn cX0_sortIn 3 none :: wB) ({ frames := 0, cells := 0, slots := 0, locals := 0 } : Room) (rw_Pc D cI cJ cZ sz [.ref g0, .int (nI ev)] [(g0, .inr (0, [.int (nI r), .int (nI n), .ref gk, .ref gr, .ref gs, .ref gv, .ref gw, .ref gc, .ref gp, .ref gb])), (gk, .inl (cI, 300, .inl kf)), (gr, .inl (cI, 300, .inl rf)), (gs, .inl (cZ, 300, .inl sf)), (gv, .inl (cJ, 300, .inr (.inl vf))), (gw, .inl (cI, 300, .inl wf)), (gc, .inl (cI, 300, .inl cf)), (gp, .inl (cI, 300, .inl pf)), (gb, .inl (cI, 300, .inl bf))]) (rw_Qv (S := Nat → Int32) D cI cJ cZ sz [(g0, .inr (0, [.int (nI r), .int (nI n), .ref gk, .ref gr, .ref gs, .ref gv, .ref gw, .ref gc, .ref gp, .ref gb])), (gk, .inl (cI, 300, .inl kf)), (gr, .inl (cI, 300, .inl rf)), (gs, .inl (cZ, 300, .inl sf)), (gv, .inl (cJ, 300, .inr (.inl vf))), (gw, .inl (cI, 300, .inl wf)), (gc, .inl (cI, 300, .inl cf)), (gp, .inl (cI, 300, .inl pf)), (gb, .inl (cI, 300, .inl bf))] (fun b1 => [(g0, .inr (0, [.int (nI r), .int (nI n), .ref gk, .ref gr, .ref gs, .ref gv, .ref gw, .ref gc, .ref gp, .ref gb])), (gk, .inl (cI, 300, .inl kf)), (gr, .inl (cI, 300, .inl rf)), (gs, .inl (cZ, 300, .inl sf)), (gv, .inl (cJ, 300, .inr (.inl vf))), (gw, .inl (cI, 300, .inl wf)), (gc, .inl (cI, 300, .inl cf)), (gp, .inl (cI, 300, .inl pf)), (gb, .inl (cI, 300, .inl b1))]) (fun b1 => srt kf bn b1 ev)) 0 0 (va_A [(g0, .inr (0, [.int (nI r), .int (nI n), .ref gk, .ref gr, .ref gs, .ref gv, .ref gw, .ref gc, .ref gp, .ref gb])), (gk, .inl (cI, 300, .inl kf)), (gr, .inl (cI, 300, .inl rf)), (gs, .inl (cZ, 300, .inl sf)), (gv, .inl (cJ, 300, .inr (.inl vf))), (gw, .inl (cI, 300, .inl wf)), (gc, .inl (cI, 300, .inl cf)), (gp, .inl (cI, 300, .inl pf)), (gb, .inl (cI, 300, .inl bf))] sz) := by
  refine Met.ofW (cc := cX0_sortIn) (maxL := 3) (ret := none) (by decide) rfl ?_
  intro p e s m args below meth c s₁ B hml hv
  obtain ⟨rfl, hsz, hP, hK, hD0⟩ := hv
  have hx := B.exec
  have hb := B.bytes
  have hr := B.returns
  have hts := atoms_spec (ws := (Cond.code yX0_sortIn cX0_sortIn 3 none :: wB)) B.pre
  have hown : s.vm.findClass RX0 = some m.cls := findClass_of_methodNamed B.named
  have hlocks := B.notSynchronized
  subst hsz
  have hD := hD0.self (sz := s.heap.size)
  obtain ⟨A, hAe⟩ : ∃ A, A = va_A [(g0, .inr (0, [.int (nI r), .int (nI n), .ref gk, .ref gr, .ref gs, .ref gv, .ref gw, .ref gc, .ref gp, .ref gb])), (gk, .inl (cI, 300, .inl kf)), (gr, .inl (cI, 300, .inl rf)), (gs, .inl (cZ, 300, .inl sf)), (gv, .inl (cJ, 300, .inr (.inl vf))), (gw, .inl (cI, 300, .inl wf)), (gc, .inl (cI, 300, .inl cf)), (gp, .inl (cI, 300, .inl pf)), (gb, .inl (cI, 300, .inl bf))] s.heap.size := ⟨_, rfl⟩
  rw [← hAe] at hD
  have hA : ∀ q : Nat, s.heap.size ≤ q → A q := fun q h => by rw [hAe]; exact Or.inr h
  have hS : va_S A s.heap s.heap [] := va_S.rf
  have hl := lv_entry ([.ref g0, .int (nI ev)]) (n := 3) (Nat.le_of_ble_eq_true rfl)
  rw [lg_entry_eq]
  generalize (lg_sl ([.ref g0, .int (nI ev)]) ++ List.replicate (3 - (lg_sl ([.ref g0, .int (nI ev)])).length) Slot.unset).toArray = ls at hl ⊢
  have hl : lv_has ls 3 [(0, .ref g0), (1, .int (nI ev))] := hl
  refine lv_iload_n hx hb dX0_sortIn_0 rfl (lv_at hl 1 rfl) ?_
  refine lv_istore_n (lv' := [(2, .int (nI ev)), (0, .ref g0), (1, .int (nI ev))]) hx hb dX0_sortIn_1 rfl hl (by decide) rfl (fun ls hl => ?_)
  have hloop_2 : ∀ (k : Nat) (pl : Nat) (bx : Nat → Int32), pl < k → pl ≤ ev → (∀ q, q < pl → bx q = nI (bn q)) → (∀ q, pl < q → q ≤ ev → bx q = nI (bn (q - 1))) → (∀ q, pl ≤ q → q < ev → kf ev < kf (bn q)) → ∀ (H : Heap) (locs : List Loc), va_P D vwCl [(g0, .inr (0, [.int (nI r), .int (nI n), .ref gk, .ref gr, .ref gs, .ref gv, .ref gw, .ref gc, .ref gp, .ref gb])), (gk, .inl (cI, 300, .inl kf)), (gr, .inl (cI, 300, .inl rf)), (gs, .inl (cZ, 300, .inl sf)), (gv, .inl (cJ, 300, .inr (.inl vf))), (gw, .inl (cI, 300, .inl wf)), (gc, .inl (cI, 300, .inl cf)), (gp, .inl (cI, 300, .inl pf)), (gb, .inl (cI, 300, .inl bx))] H → va_D A [(g0, .inr (0, [.int (nI r), .int (nI n), .ref gk, .ref gr, .ref gs, .ref gv, .ref gw, .ref gc, .ref gp, .ref gb])), (gk, .inl (cI, 300, .inl kf)), (gr, .inl (cI, 300, .inl rf)), (gs, .inl (cZ, 300, .inl sf)), (gv, .inl (cJ, 300, .inr (.inl vf))), (gw, .inl (cI, 300, .inl wf)), (gc, .inl (cI, 300, .inl cf)), (gp, .inl (cI, 300, .inl pf)), (gb, .inl (cI, 300, .inl bx))] → va_S A s.heap H locs → ∀ (ls : Array Slot), lv_has ls 3 [(0, .ref g0), (1, .int (nI ev)), (2, .int (nI pl))] → W p l e ({ frames := 0, cells := 0, slots := 0, locals := 0 } : Room) s m ([.ref g0, .int (nI ev)] : List Value).toArray below meth c H locs 0 0 (MQ below (rw_Qv (S := Nat → Int32) D cI cJ cZ s.heap.size [(g0, .inr (0, [.int (nI r), .int (nI n), .ref gk, .ref gr, .ref gs, .ref gv, .ref gw, .ref gc, .ref gp, .ref gb])), (gk, .inl (cI, 300, .inl kf)), (gr, .inl (cI, 300, .inl rf)), (gs, .inl (cZ, 300, .inl sf)), (gv, .inl (cJ, 300, .inr (.inl vf))), (gw, .inl (cI, 300, .inl wf)), (gc, .inl (cI, 300, .inl cf)), (gp, .inl (cI, 300, .inl pf)), (gb, .inl (cI, 300, .inl bf))] (fun b1 => [(g0, .inr (0, [.int (nI r), .int (nI n), .ref gk, .ref gr, .ref gs, .ref gv, .ref gw, .ref gc, .ref gp, .ref gb])), (gk, .inl (cI, 300, .inl kf)), (gr, .inl (cI, 300, .inl rf)), (gs, .inl (cZ, 300, .inl sf)), (gv, .inl (cJ, 300, .inr (.inl vf))), (gw, .inl (cI, 300, .inl wf)), (gc, .inl (cI, 300, .inl cf)), (gp, .inl (cI, 300, .inl pf)), (gb, .inl (cI, 300, .inl b1))]) (fun b1 => srt kf bn b1 ev)) ([.ref g0, .int (nI ev)] : List Value).toArray s 0 0 (va_A [(g0, .inr (0, [.int (nI r), .int (nI n), .ref gk, .ref gr, .ref gs, .ref gv, .ref gw, .ref gc, .ref gp, .ref gb])), (gk, .inl (cI, 300, .inl kf)), (gr, .inl (cI, 300, .inl rf)), (gs, .inl (cZ, 300, .inl sf)), (gv, .inl (cJ, 300, .inr (.inl vf))), (gw, .inl (cI, 300, .inl wf)), (gc, .inl (cI, 300, .inl cf)), (gp, .inl (cI, 300, .inl pf)), (gb, .inl (cI, 300, .inl bf))] s.heap.size)) (F0 m 2 ls []) := by
    intro k
    induction k with
    | zero => intro pl bx hm; exact absurd hm (Nat.not_lt_zero _)
    | succ k ih_2 =>
      intro pl bx hm_2 hp h1 h2 h3 H locs hP hD hS ls hl
      refine lv_iload_n hx hb dX0_sortIn_2 rfl (lv_at hl 2 rfl) ?_
      refine lv_if_le (tgt := 48) hx hb dX0_sortIn_3 (by decide) (fun c_3 => ?_) (fun c_3 => ?_)
      · have c_3 := (zn_le0 (by omega)).mp c_3
        refine lv_aload_n hx hb dX0_sortIn_48 rfl (lv_at hl 0 rfl) ?_
        refine va_get (D := D) (ci := 0) (v := .ref gb) (C := RX0) (T := TX0) (N := 10) hx hb hts mu_X0 hown hK hP 0 rfl rfl 9 (by decide) (hts _ (List.mem_cons_of_mem _ mw_41)) (fun _ h9 => h9) rfl dX0_sortIn_49 ?_
        refine lv_iload_n hx hb dX0_sortIn_52 rfl (lv_at hl 2 rfl) ?_
        refine lv_iload_n hx hb dX0_sortIn_53 rfl (lv_at hl 1 rfl) ?_
        refine rk_iast hx hb hK hP hD hS 8 0 rfl rfl (i := pl) (by omega) (by decide) dX0_sortIn_54 (fun H locs hP hD hS => ?_)
        have hP : va_P D vwCl [(g0, .inr (0, [.int (nI r), .int (nI n), .ref gk, .ref gr, .ref gs, .ref gv, .ref gw, .ref gc, .ref gp, .ref gb])), (gk, .inl (cI, 300, .inl kf)), (gr, .inl (cI, 300, .inl rf)), (gs, .inl (cZ, 300, .inl sf)), (gv, .inl (cJ, 300, .inr (.inl vf))), (gw, .inl (cI, 300, .inl wf)), (gc, .inl (cI, 300, .inl cf)), (gp, .inl (cI, 300, .inl pf)), (gb, .inl (cI, 300, .inl (upd bx pl (nI ev))))] H := hP
        have hD : va_D A [(g0, .inr (0, [.int (nI r), .int (nI n), .ref gk, .ref gr, .ref gs, .ref gv, .ref gw, .ref gc, .ref gp, .ref gb])), (gk, .inl (cI, 300, .inl kf)), (gr, .inl (cI, 300, .inl rf)), (gs, .inl (cZ, 300, .inl sf)), (gv, .inl (cJ, 300, .inr (.inl vf))), (gw, .inl (cI, 300, .inl wf)), (gc, .inl (cI, 300, .inl cf)), (gp, .inl (cI, 300, .inl pf)), (gb, .inl (cI, 300, .inl (upd bx pl (nI ev))))] := hD
        exact rw_retv (u := (upd bx pl (nI ev))) hAe (hP) (hD) hS hK (⟨pl, hp, pk_us, fun q hq => by rw [pk_un (by omega)]; exact h1 q hq, fun q hq1 hq2 => by rw [pk_un (by omega)]; exact h2 q hq1 hq2, by first | exact Or.inr c_25 | exact Or.inl (by omega), h3⟩) (Nat.le_of_ble_eq_true rfl) (Nat.le_of_ble_eq_true rfl) hx hb hr hlocks dX0_sortIn_55
      · have c_3 := mt (zn_le0 (by omega)).mpr c_3
        refine lv_aload_n hx hb dX0_sortIn_6 rfl (lv_at hl 0 rfl) ?_
        refine va_get (D := D) (ci := 0) (v := .ref gk) (C := RX0) (T := TX0) (N := 10) hx hb hts mu_X0 hown hK hP 0 rfl rfl 2 (by decide) (hts _ (List.mem_cons_of_mem _ mw_32)) (fun _ h9 => h9) rfl dX0_sortIn_7 ?_
        refine lv_aload_n hx hb dX0_sortIn_10 rfl (lv_at hl 0 rfl) ?_
        refine va_get (D := D) (ci := 0) (v := .ref gb) (C := RX0) (T := TX0) (N := 10) hx hb hts mu_X0 hown hK hP 0 rfl rfl 9 (by decide) (hts _ (List.mem_cons_of_mem _ mw_41)) (fun _ h9 => h9) rfl dX0_sortIn_11 ?_
        refine lv_iload_n hx hb dX0_sortIn_14 rfl (lv_at hl 2 rfl) ?_
        refine lv_iconst (v := nI 1) hx hb dX0_sortIn_15 (by decide) ?_
        refine rk_isub hx hb (by omega) dX0_sortIn_16 ?_
        refine rk_iald hx hb hK hP 8 0 rfl rfl (i := pl - 1) (by omega) (by decide) dX0_sortIn_17 ?_
        rw [h1 (pl - 1) (by omega)]
        refine rk_iald hx hb hK hP 1 0 rfl rfl (i := bn (pl - 1)) ((hbn (pl - 1) (by omega)).2) (by decide) dX0_sortIn_18 ?_
        refine lv_aload_n hx hb dX0_sortIn_19 rfl (lv_at hl 0 rfl) ?_
        refine va_get (D := D) (ci := 0) (v := .ref gk) (C := RX0) (T := TX0) (N := 10) hx hb hts mu_X0 hown hK hP 0 rfl rfl 2 (by decide) (hts _ (List.mem_cons_of_mem _ mw_32)) (fun _ h9 => h9) rfl dX0_sortIn_20 ?_
        refine lv_iload_n hx hb dX0_sortIn_23 rfl (lv_at hl 1 rfl) ?_
        refine rk_iald hx hb hK hP 1 0 rfl rfl (i := ev) (by omega) (by decide) dX0_sortIn_24 ?_
        refine lv_icmp_le (tgt := 48) hx hb dX0_sortIn_25 (by decide) (fun c_25 => ?_) (fun c_25 => ?_)
        · skip
          refine lv_aload_n hx hb dX0_sortIn_48 rfl (lv_at hl 0 rfl) ?_
          refine va_get (D := D) (ci := 0) (v := .ref gb) (C := RX0) (T := TX0) (N := 10) hx hb hts mu_X0 hown hK hP 0 rfl rfl 9 (by decide) (hts _ (List.mem_cons_of_mem _ mw_41)) (fun _ h9 => h9) rfl dX0_sortIn_49 ?_
          refine lv_iload_n hx hb dX0_sortIn_52 rfl (lv_at hl 2 rfl) ?_
          refine lv_iload_n hx hb dX0_sortIn_53 rfl (lv_at hl 1 rfl) ?_
          refine rk_iast hx hb hK hP hD hS 8 0 rfl rfl (i := pl) (by omega) (by decide) dX0_sortIn_54 (fun H locs hP hD hS => ?_)
          have hP : va_P D vwCl [(g0, .inr (0, [.int (nI r), .int (nI n), .ref gk, .ref gr, .ref gs, .ref gv, .ref gw, .ref gc, .ref gp, .ref gb])), (gk, .inl (cI, 300, .inl kf)), (gr, .inl (cI, 300, .inl rf)), (gs, .inl (cZ, 300, .inl sf)), (gv, .inl (cJ, 300, .inr (.inl vf))), (gw, .inl (cI, 300, .inl wf)), (gc, .inl (cI, 300, .inl cf)), (gp, .inl (cI, 300, .inl pf)), (gb, .inl (cI, 300, .inl (upd bx pl (nI ev))))] H := hP
          have hD : va_D A [(g0, .inr (0, [.int (nI r), .int (nI n), .ref gk, .ref gr, .ref gs, .ref gv, .ref gw, .ref gc, .ref gp, .ref gb])), (gk, .inl (cI, 300, .inl kf)), (gr, .inl (cI, 300, .inl rf)), (gs, .inl (cZ, 300, .inl sf)), (gv, .inl (cJ, 300, .inr (.inl vf))), (gw, .inl (cI, 300, .inl wf)), (gc, .inl (cI, 300, .inl cf)), (gp, .inl (cI, 300, .inl pf)), (gb, .inl (cI, 300, .inl (upd bx pl (nI ev))))] := hD
          exact rw_retv (u := (upd bx pl (nI ev))) hAe (hP) (hD) hS hK (⟨pl, hp, pk_us, fun q hq => by rw [pk_un (by omega)]; exact h1 q hq, fun q hq1 hq2 => by rw [pk_un (by omega)]; exact h2 q hq1 hq2, by first | exact Or.inr c_25 | exact Or.inl (by omega), h3⟩) (Nat.le_of_ble_eq_true rfl) (Nat.le_of_ble_eq_true rfl) hx hb hr hlocks dX0_sortIn_55
        · skip
          refine lv_aload_n hx hb dX0_sortIn_28 rfl (lv_at hl 0 rfl) ?_
          refine va_get (D := D) (ci := 0) (v := .ref gb) (C := RX0) (T := TX0) (N := 10) hx hb hts mu_X0 hown hK hP 0 rfl rfl 9 (by decide) (hts _ (List.mem_cons_of_mem _ mw_41)) (fun _ h9 => h9) rfl dX0_sortIn_29 ?_
          refine lv_iload_n hx hb dX0_sortIn_32 rfl (lv_at hl 2 rfl) ?_
          refine lv_aload_n hx hb dX0_sortIn_33 rfl (lv_at hl 0 rfl) ?_
          refine va_get (D := D) (ci := 0) (v := .ref gb) (C := RX0) (T := TX0) (N := 10) hx hb hts mu_X0 hown hK hP 0 rfl rfl 9 (by decide) (hts _ (List.mem_cons_of_mem _ mw_41)) (fun _ h9 => h9) rfl dX0_sortIn_34 ?_
          refine lv_iload_n hx hb dX0_sortIn_37 rfl (lv_at hl 2 rfl) ?_
          refine lv_iconst (v := nI 1) hx hb dX0_sortIn_38 (by decide) ?_
          refine rk_isub hx hb (by omega) dX0_sortIn_39 ?_
          refine rk_iald hx hb hK hP 8 0 rfl rfl (i := pl - 1) (by omega) (by decide) dX0_sortIn_40 ?_
          rw [h1 (pl - 1) (by omega)]
          refine rk_iast hx hb hK hP hD hS 8 0 rfl rfl (i := pl) (by omega) (by decide) dX0_sortIn_41 (fun H locs hP hD hS => ?_)
          have hP : va_P D vwCl [(g0, .inr (0, [.int (nI r), .int (nI n), .ref gk, .ref gr, .ref gs, .ref gv, .ref gw, .ref gc, .ref gp, .ref gb])), (gk, .inl (cI, 300, .inl kf)), (gr, .inl (cI, 300, .inl rf)), (gs, .inl (cZ, 300, .inl sf)), (gv, .inl (cJ, 300, .inr (.inl vf))), (gw, .inl (cI, 300, .inl wf)), (gc, .inl (cI, 300, .inl cf)), (gp, .inl (cI, 300, .inl pf)), (gb, .inl (cI, 300, .inl (upd bx pl (nI (bn (pl - 1))))))] H := hP
          have hD : va_D A [(g0, .inr (0, [.int (nI r), .int (nI n), .ref gk, .ref gr, .ref gs, .ref gv, .ref gw, .ref gc, .ref gp, .ref gb])), (gk, .inl (cI, 300, .inl kf)), (gr, .inl (cI, 300, .inl rf)), (gs, .inl (cZ, 300, .inl sf)), (gv, .inl (cJ, 300, .inr (.inl vf))), (gw, .inl (cI, 300, .inl wf)), (gc, .inl (cI, 300, .inl cf)), (gp, .inl (cI, 300, .inl pf)), (gb, .inl (cI, 300, .inl (upd bx pl (nI (bn (pl - 1))))))] := hD
          refine lv_iinc (v := nI (pl - 1)) (lv' := [(2, .int (nI (pl - 1))), (0, .ref g0), (1, .int (nI ev))]) hx hb dX0_sortIn_42 hl (k := 2) rfl (by rw [show Int32.ofInt (-1) = -1 by decide]; exact sb_m1 (by omega)) (by decide) rfl (fun ls hl => ?_)
          refine lv_goto (tgt := 2) hx hb dX0_sortIn_45 (by decide) ?_
          exact ih_2 (pl - 1) (upd bx pl (nI (bn (pl - 1)))) (by omega) (by omega) (fun q hq => by rw [pk_un (by omega)]; exact h1 q (by omega)) (by intro q hq1 hq2; by_cases hq : q = pl; (subst hq; exact pk_us); (rw [pk_un hq]; exact h2 q (by omega) hq2)) (by intro q hq1 hq2; by_cases hq : q = pl - 1; (rw [hq]; exact i_nle c_25); exact h3 q (by omega) hq2) H locs hP hD hS ls (lv_sub hl [1, 2, 0] rfl)
  -- on to the loop
  exact hloop_2 (ev + 1) ev bf (Nat.lt_succ_self _) (by omega) (fun q h => (hbn q h).1) (fun q h1 h2 => absurd h1 (by omega)) (fun q h1 h2 => absurd h1 (by omega)) _ _ hP hD hS ls (lv_sub hl [1, 2, 0] rfl)
set_option maxHeartbeats 4000000 in
set_option maxRecDepth 100000 in
theorem c_X0_append0 (l : Launch) (D : va_G) (cI cJ cZ : ClassId) (sz : Nat) (g0 gk gr gs gv gw gc gp gb r n : Nat) (kf rf sf : Nat → Int32) (vf : Nat → Int64) (wf cf pf bf : Nat → Int32) (bn : Nat → Nat) (hn : n < 300) (hr3 : r ≤ 300) (hbn : ∀ q, q < n → bf q = nI (bn q) ∧ bn q < n) (key : Int32) : Met l yX0_append (Cond.code yX0_append cX0_append 4 (some .int) :: wB) ({ frames := 1, cells := 0, slots := 0, locals := 22 } : Room) (rw_Pc D cI cJ cZ sz [.ref g0, .int key, .int (-1)] [(g0, .inr (0, [.int (nI r), .int (nI n), .ref gk, .ref gr, .ref gs, .ref gv, .ref gw, .ref gc, .ref gp, .ref gb])), (gk, .inl (cI, 300, .inl kf)), (gr, .inl (cI, 300, .inl rf)), (gs, .inl (cZ, 300, .inl sf)), (gv, .inl (cJ, 300, .inr (.inl vf))), (gw, .inl (cI, 300, .inl wf)), (gc, .inl (cI, 300, .inl cf)), (gp, .inl (cI, 300, .inl pf)), (gb, .inl (cI, 300, .inl bf))]) (rw_Qi (S := Nat → Int32) D cI cJ cZ sz [(g0, .inr (0, [.int (nI r), .int (nI n), .ref gk, .ref gr, .ref gs, .ref gv, .ref gw, .ref gc, .ref gp, .ref gb])), (gk, .inl (cI, 300, .inl kf)), (gr, .inl (cI, 300, .inl rf)), (gs, .inl (cZ, 300, .inl sf)), (gv, .inl (cJ, 300, .inr (.inl vf))), (gw, .inl (cI, 300, .inl wf)), (gc, .inl (cI, 300, .inl cf)), (gp, .inl (cI, 300, .inl pf)), (gb, .inl (cI, 300, .inl bf))] (fun b1 => [(g0, .inr (0, [.int (nI r), .int (nI (n + 1)), .ref gk, .ref gr, .ref gs, .ref gv, .ref gw, .ref gc, .ref gp, .ref gb])), (gk, .inl (cI, 300, .inl (upd kf n key))), (gr, .inl (cI, 300, .inl (upd rf n (nI r)))), (gs, .inl (cZ, 300, .inl sf)), (gv, .inl (cJ, 300, .inr (.inl vf))), (gw, .inl (cI, 300, .inl wf)), (gc, .inl (cI, 300, .inl cf)), (gp, .inl (cI, 300, .inl (upd pf n (nI 301)))), (gb, .inl (cI, 300, .inl b1))]) (fun x b1 => x = nI n ∧ srt (upd kf n key) bn b1 n)) 0 0 (va_A [(g0, .inr (0, [.int (nI r), .int (nI n), .ref gk, .ref gr, .ref gs, .ref gv, .ref gw, .ref gc, .ref gp, .ref gb])), (gk, .inl (cI, 300, .inl kf)), (gr, .inl (cI, 300, .inl rf)), (gs, .inl (cZ, 300, .inl sf)), (gv, .inl (cJ, 300, .inr (.inl vf))), (gw, .inl (cI, 300, .inl wf)), (gc, .inl (cI, 300, .inl cf)), (gp, .inl (cI, 300, .inl pf)), (gb, .inl (cI, 300, .inl bf))] sz) := by
  refine Met.ofW (cc := cX0_append) (maxL := 4) (ret := (some .int)) (by decide) rfl ?_
  intro p e s m args below meth c s₁ B hml hv
  obtain ⟨rfl, hsz, hP, hK, hD0⟩ := hv
  have hx := B.exec
  have hb := B.bytes
  have hr := B.returns
  have hts := atoms_spec (ws := (Cond.code yX0_append cX0_append 4 (some .int) :: wB)) B.pre
  have hown : s.vm.findClass RX0 = some m.cls := findClass_of_methodNamed B.named
  have hlocks := B.notSynchronized
  subst hsz
  have hD := hD0.self (sz := s.heap.size)
  obtain ⟨A, hAe⟩ : ∃ A, A = va_A [(g0, .inr (0, [.int (nI r), .int (nI n), .ref gk, .ref gr, .ref gs, .ref gv, .ref gw, .ref gc, .ref gp, .ref gb])), (gk, .inl (cI, 300, .inl kf)), (gr, .inl (cI, 300, .inl rf)), (gs, .inl (cZ, 300, .inl sf)), (gv, .inl (cJ, 300, .inr (.inl vf))), (gw, .inl (cI, 300, .inl wf)), (gc, .inl (cI, 300, .inl cf)), (gp, .inl (cI, 300, .inl pf)), (gb, .inl (cI, 300, .inl bf))] s.heap.size := ⟨_, rfl⟩
  rw [← hAe] at hD
  have hA : ∀ q : Nat, s.heap.size ≤ q → A q := fun q h => by rw [hAe]; exact Or.inr h
  have hS : va_S A s.heap s.heap [] := va_S.rf
  have hl := lv_entry ([.ref g0, .int key, .int (-1)]) (n := 4) (Nat.le_of_ble_eq_true rfl)
  rw [lg_entry_eq]
  generalize (lg_sl ([.ref g0, .int key, .int (-1)]) ++ List.replicate (4 - (lg_sl ([.ref g0, .int key, .int (-1)])).length) Slot.unset).toArray = ls at hl ⊢
  have hl : lv_has ls 4 [(0, .ref g0), (1, .int key), (2, .int (-1))] := hl
  refine lv_iload_n hx hb dX0_append_0 rfl (lv_at hl 2 rfl) ?_
  refine lv_iconst (v := -1) hx hb dX0_append_1 (by decide) ?_
  refine lv_icmp_eq (tgt := 15) hx hb dX0_append_2 (by decide) (fun _ => ?_) (fun c => absurd (by decide) c)
  refine lv_aload_n hx hb dX0_append_15 rfl (lv_at hl 0 rfl) ?_
  refine va_get (D := D) (ci := 0) (v := .int (nI n)) (C := RX0) (T := TX0) (N := 10) hx hb hts mu_X0 hown hK hP 0 rfl rfl 1 (by decide) (hts _ (List.mem_cons_of_mem _ mw_30)) (fun _ h9 => h9) rfl dX0_append_16 ?_
  refine lv_istore_n (lv' := [(3, .int (nI n)), (0, .ref g0), (1, .int key), (2, .int (-1))]) hx hb dX0_append_19 rfl hl (by decide) rfl (fun ls hl => ?_)
  refine lv_aload_n hx hb dX0_append_20 rfl (lv_at hl 1 rfl) ?_
  refine lv_dup hx hb dX0_append_21 rfl ?_
  refine va_get (D := D) (ci := 0) (v := .int (nI n)) (C := RX0) (T := TX0) (N := 10) hx hb hts mu_X0 hown hK hP 0 rfl rfl 1 (by decide) (hts _ (List.mem_cons_of_mem _ mw_30)) (fun _ h9 => h9) rfl dX0_append_22 ?_
  refine lv_iconst (v := nI 1) hx hb dX0_append_25 (by decide) ?_
  refine rk_iadd hx hb dX0_append_26 ?_
  refine va_put (D := D) (ci := 0) (v := .int (nI (n + 1))) (ty := .int) (C := RX0) (T := TX0) (N := 10) hx hb hts mu_X0 tyX0 tyX0_ok nmX0 hown hK hP hD hS 0 rfl rfl 1 (by decide) (hts _ (List.mem_cons_of_mem _ mw_30)) (fun _ h9 => h9) rfl (by decide +kernel) rfl rfl (Nat.le_of_ble_eq_true rfl) dX0_append_27 (fun H locs hP hD hS => ?_)
  have hP : va_P D vwCl [(g0, .inr (0, [.int (nI r), .int (nI (n + 1)), .ref gk, .ref gr, .ref gs, .ref gv, .ref gw, .ref gc, .ref gp, .ref gb])), (gk, .inl (cI, 300, .inl kf)), (gr, .inl (cI, 300, .inl rf)), (gs, .inl (cZ, 300, .inl sf)), (gv, .inl (cJ, 300, .inr (.inl vf))), (gw, .inl (cI, 300, .inl wf)), (gc, .inl (cI, 300, .inl cf)), (gp, .inl (cI, 300, .inl pf)), (gb, .inl (cI, 300, .inl bf))] H := hP
  have hD : va_D A [(g0, .inr (0, [.int (nI r), .int (nI (n + 1)), .ref gk, .ref gr, .ref gs, .ref gv, .ref gw, .ref gc, .ref gp, .ref gb])), (gk, .inl (cI, 300, .inl kf)), (gr, .inl (cI, 300, .inl rf)), (gs, .inl (cZ, 300, .inl sf)), (gv, .inl (cJ, 300, .inr (.inl vf))), (gw, .inl (cI, 300, .inl wf)), (gc, .inl (cI, 300, .inl cf)), (gp, .inl (cI, 300, .inl pf)), (gb, .inl (cI, 300, .inl bf))] := hD
  refine lv_aload_n hx hb dX0_append_30 rfl (lv_at hl 1 rfl) ?_
  refine va_get (D := D) (ci := 0) (v := .ref gk) (C := RX0) (T := TX0) (N := 10) hx hb hts mu_X0 hown hK hP 0 rfl rfl 2 (by decide) (hts _ (List.mem_cons_of_mem _ mw_32)) (fun _ h9 => h9) rfl dX0_append_31 ?_
  refine lv_iload_n hx hb dX0_append_34 rfl (lv_at hl 0 rfl) ?_
  refine lv_iload_n hx hb dX0_append_35 rfl (lv_at hl 2 rfl) ?_
  refine rk_iast hx hb hK hP hD hS 1 0 rfl rfl (i := n) (by omega) (by decide) dX0_append_36 (fun H locs hP hD hS => ?_)
  have hP : va_P D vwCl [(g0, .inr (0, [.int (nI r), .int (nI (n + 1)), .ref gk, .ref gr, .ref gs, .ref gv, .ref gw, .ref gc, .ref gp, .ref gb])), (gk, .inl (cI, 300, .inl (upd kf n key))), (gr, .inl (cI, 300, .inl rf)), (gs, .inl (cZ, 300, .inl sf)), (gv, .inl (cJ, 300, .inr (.inl vf))), (gw, .inl (cI, 300, .inl wf)), (gc, .inl (cI, 300, .inl cf)), (gp, .inl (cI, 300, .inl pf)), (gb, .inl (cI, 300, .inl bf))] H := hP
  have hD : va_D A [(g0, .inr (0, [.int (nI r), .int (nI (n + 1)), .ref gk, .ref gr, .ref gs, .ref gv, .ref gw, .ref gc, .ref gp, .ref gb])), (gk, .inl (cI, 300, .inl (upd kf n key))), (gr, .inl (cI, 300, .inl rf)), (gs, .inl (cZ, 300, .inl sf)), (gv, .inl (cJ, 300, .inr (.inl vf))), (gw, .inl (cI, 300, .inl wf)), (gc, .inl (cI, 300, .inl cf)), (gp, .inl (cI, 300, .inl pf)), (gb, .inl (cI, 300, .inl bf))] := hD
  refine lv_aload_n hx hb dX0_append_37 rfl (lv_at hl 1 rfl) ?_
  refine va_get (D := D) (ci := 0) (v := .ref gr) (C := RX0) (T := TX0) (N := 10) hx hb hts mu_X0 hown hK hP 0 rfl rfl 3 (by decide) (hts _ (List.mem_cons_of_mem _ mw_34)) (fun _ h9 => h9) rfl dX0_append_38 ?_
  refine lv_iload_n hx hb dX0_append_41 rfl (lv_at hl 0 rfl) ?_
  refine lv_aload_n hx hb dX0_append_42 rfl (lv_at hl 1 rfl) ?_
  refine va_get (D := D) (ci := 0) (v := .int (nI r)) (C := RX0) (T := TX0) (N := 10) hx hb hts mu_X0 hown hK hP 0 rfl rfl 0 (by decide) (hts _ (List.mem_cons_of_mem _ mw_27)) (fun _ h9 => h9) rfl dX0_append_43 ?_
  refine rk_iast hx hb hK hP hD hS 2 0 rfl rfl (i := n) (by omega) (by decide) dX0_append_46 (fun H locs hP hD hS => ?_)
  have hP : va_P D vwCl [(g0, .inr (0, [.int (nI r), .int (nI (n + 1)), .ref gk, .ref gr, .ref gs, .ref gv, .ref gw, .ref gc, .ref gp, .ref gb])), (gk, .inl (cI, 300, .inl (upd kf n key))), (gr, .inl (cI, 300, .inl (upd rf n (nI r)))), (gs, .inl (cZ, 300, .inl sf)), (gv, .inl (cJ, 300, .inr (.inl vf))), (gw, .inl (cI, 300, .inl wf)), (gc, .inl (cI, 300, .inl cf)), (gp, .inl (cI, 300, .inl pf)), (gb, .inl (cI, 300, .inl bf))] H := hP
  have hD : va_D A [(g0, .inr (0, [.int (nI r), .int (nI (n + 1)), .ref gk, .ref gr, .ref gs, .ref gv, .ref gw, .ref gc, .ref gp, .ref gb])), (gk, .inl (cI, 300, .inl (upd kf n key))), (gr, .inl (cI, 300, .inl (upd rf n (nI r)))), (gs, .inl (cZ, 300, .inl sf)), (gv, .inl (cJ, 300, .inr (.inl vf))), (gw, .inl (cI, 300, .inl wf)), (gc, .inl (cI, 300, .inl cf)), (gp, .inl (cI, 300, .inl pf)), (gb, .inl (cI, 300, .inl bf))] := hD
  refine lv_aload_n hx hb dX0_append_47 rfl (lv_at hl 1 rfl) ?_
  refine va_get (D := D) (ci := 0) (v := .ref gp) (C := RX0) (T := TX0) (N := 10) hx hb hts mu_X0 hown hK hP 0 rfl rfl 8 (by decide) (hts _ (List.mem_cons_of_mem _ mw_40)) (fun _ h9 => h9) rfl dX0_append_48 ?_
  refine lv_iload_n hx hb dX0_append_51 rfl (lv_at hl 0 rfl) ?_
  refine lv_sipush (v := nI 301) hx hb dX0_append_52 (by decide) ?_
  refine rk_iast hx hb hK hP hD hS 7 0 rfl rfl (i := n) (by omega) (by decide) dX0_append_55 (fun H locs hP hD hS => ?_)
  have hP : va_P D vwCl [(g0, .inr (0, [.int (nI r), .int (nI (n + 1)), .ref gk, .ref gr, .ref gs, .ref gv, .ref gw, .ref gc, .ref gp, .ref gb])), (gk, .inl (cI, 300, .inl (upd kf n key))), (gr, .inl (cI, 300, .inl (upd rf n (nI r)))), (gs, .inl (cZ, 300, .inl sf)), (gv, .inl (cJ, 300, .inr (.inl vf))), (gw, .inl (cI, 300, .inl wf)), (gc, .inl (cI, 300, .inl cf)), (gp, .inl (cI, 300, .inl (upd pf n (nI 301)))), (gb, .inl (cI, 300, .inl bf))] H := hP
  have hD : va_D A [(g0, .inr (0, [.int (nI r), .int (nI (n + 1)), .ref gk, .ref gr, .ref gs, .ref gv, .ref gw, .ref gc, .ref gp, .ref gb])), (gk, .inl (cI, 300, .inl (upd kf n key))), (gr, .inl (cI, 300, .inl (upd rf n (nI r)))), (gs, .inl (cZ, 300, .inl sf)), (gv, .inl (cJ, 300, .inr (.inl vf))), (gw, .inl (cI, 300, .inl wf)), (gc, .inl (cI, 300, .inl cf)), (gp, .inl (cI, 300, .inl (upd pf n (nI 301)))), (gb, .inl (cI, 300, .inl bf))] := hD
  refine lv_aload_n hx hb dX0_append_56 rfl (lv_at hl 1 rfl) ?_
  refine lv_iload_n hx hb dX0_append_57 rfl (lv_at hl 0 rfl) ?_
  refine rw_callVv (wr := []) (As := [.int (nI n)]) (rest := []) ⟨hx, hb, hml, hown, hts⟩ (c_X0_sortIn l D cI cJ cZ H.size g0 gk gr gs gv gw gc gp gb r (n + 1) (upd kf n key) (upd rf n (nI r)) sf vf wf cf (upd pf n (nI 301)) bf bn n (by omega) (fun q hq => ⟨(hbn q hq).1, by have := (hbn q hq).2; omega⟩)) (cwV 1 hts (wB_V mw_229 mw_231 ms_4 mw_2 mw_232) rfl rfl rfl (by decide +kernel) ⟨Nat.le_of_ble_eq_true rfl, Nat.le_of_ble_eq_true rfl⟩) (va_recv hK hP (ci := 0) (q0 := 0) rfl rfl) hK hP hD hS hA [0, 1, 2, 3, 4, 5, 6, 7, 8] [] rfl rfl rfl (by decide) (by decide) (by decide) rfl hl.1 (Nat.le_of_ble_eq_true rfl) ⟨Nat.le_of_ble_eq_true rfl, Nat.le_of_ble_eq_true rfl⟩ rfl dX0_append_58 (fun u_58 H locs hw_58 hP hD hS => ?_)
  try dsimp only at hw_58
  have hP : va_P D vwCl [(g0, .inr (0, [.int (nI r), .int (nI (n + 1)), .ref gk, .ref gr, .ref gs, .ref gv, .ref gw, .ref gc, .ref gp, .ref gb])), (gk, .inl (cI, 300, .inl (upd kf n key))), (gr, .inl (cI, 300, .inl (upd rf n (nI r)))), (gs, .inl (cZ, 300, .inl sf)), (gv, .inl (cJ, 300, .inr (.inl vf))), (gw, .inl (cI, 300, .inl wf)), (gc, .inl (cI, 300, .inl cf)), (gp, .inl (cI, 300, .inl (upd pf n (nI 301)))), (gb, .inl (cI, 300, .inl u_58))] H := hP.sub [0, 1, 2, 3, 4, 5, 6, 7, 8] rfl
  have hD : va_D A [(g0, .inr (0, [.int (nI r), .int (nI (n + 1)), .ref gk, .ref gr, .ref gs, .ref gv, .ref gw, .ref gc, .ref gp, .ref gb])), (gk, .inl (cI, 300, .inl (upd kf n key))), (gr, .inl (cI, 300, .inl (upd rf n (nI r)))), (gs, .inl (cZ, 300, .inl sf)), (gv, .inl (cJ, 300, .inr (.inl vf))), (gw, .inl (cI, 300, .inl wf)), (gc, .inl (cI, 300, .inl cf)), (gp, .inl (cI, 300, .inl (upd pf n (nI 301)))), (gb, .inl (cI, 300, .inl u_58))] := hD.sub [0, 1, 2, 3, 4, 5, 6, 7, 8] (by decide) rfl
  refine lv_iload_n hx hb dX0_append_61 rfl (lv_at hl 0 rfl) ?_
  exact rw_reti (u := u_58) (v := (nI n)) hAe (hP) (hD) hS hK (⟨rfl, hw_58⟩) (Nat.le_of_ble_eq_true rfl) (Nat.le_of_ble_eq_true rfl) hx hb hr hlocks dX0_append_62
set_option maxHeartbeats 4000000 in
set_option maxRecDepth 100000 in
theorem c_X0_append1 (l : Launch) (D : va_G) (cI cJ cZ : ClassId) (sz : Nat) (g0 gk gr gs gv gw gc gp gb r n : Nat) (kf rf sf : Nat → Int32) (vf : Nat → Int64) (wf cf pf bf : Nat → Int32) (bn : Nat → Nat) (hn : n < 300) (hr3 : r ≤ 300) (hbn : ∀ q, q < n → bf q = nI (bn q) ∧ bn q < n) (key : Int32) (b : Nat) (hb3 : b < n) : Met l yX0_append (Cond.code yX0_append cX0_append 4 (some .int) :: wB) ({ frames := 1, cells := 0, slots := 0, locals := 22 } : Room) (rw_Pc D cI cJ cZ sz [.ref g0, .int key, .int (nI b)] [(g0, .inr (0, [.int (nI r), .int (nI n), .ref gk, .ref gr, .ref gs, .ref gv, .ref gw, .ref gc, .ref gp, .ref gb])), (gk, .inl (cI, 300, .inl kf)), (gr, .inl (cI, 300, .inl rf)), (gs, .inl (cZ, 300, .inl sf)), (gv, .inl (cJ, 300, .inr (.inl vf))), (gw, .inl (cI, 300, .inl wf)), (gc, .inl (cI, 300, .inl cf)), (gp, .inl (cI, 300, .inl pf)), (gb, .inl (cI, 300, .inl bf))]) (rw_Qi (S := Nat → Int32) D cI cJ cZ sz [(g0, .inr (0, [.int (nI r), .int (nI n), .ref gk, .ref gr, .ref gs, .ref gv, .ref gw, .ref gc, .ref gp, .ref gb])), (gk, .inl (cI, 300, .inl kf)), (gr, .inl (cI, 300, .inl rf)), (gs, .inl (cZ, 300, .inl sf)), (gv, .inl (cJ, 300, .inr (.inl vf))), (gw, .inl (cI, 300, .inl wf)), (gc, .inl (cI, 300, .inl cf)), (gp, .inl (cI, 300, .inl pf)), (gb, .inl (cI, 300, .inl bf))] (fun b1 => [(g0, .inr (0, [.int (nI r), .int (nI (n + 1)), .ref gk, .ref gr, .ref gs, .ref gv, .ref gw, .ref gc, .ref gp, .ref gb])), (gk, .inl (cI, 300, .inl (upd kf n key))), (gr, .inl (cI, 300, .inl (upd rf n (nI r)))), (gs, .inl (cZ, 300, .inl sf)), (gv, .inl (cJ, 300, .inr (.inl vf))), (gw, .inl (cI, 300, .inl wf)), (gc, .inl (cI, 300, .inl cf)), (gp, .inl (cI, 300, .inl (upd (upd pf b (nI r)) n (nI 301)))), (gb, .inl (cI, 300, .inl b1))]) (fun x b1 => x = nI n ∧ srt (upd kf n key) bn b1 n)) 0 0 (va_A [(g0, .inr (0, [.int (nI r), .int (nI n), .ref gk, .ref gr, .ref gs, .ref gv, .ref gw, .ref gc, .ref gp, .ref gb])), (gk, .inl (cI, 300, .inl kf)), (gr, .inl (cI, 300, .inl rf)), (gs, .inl (cZ, 300, .inl sf)), (gv, .inl (cJ, 300, .inr (.inl vf))), (gw, .inl (cI, 300, .inl wf)), (gc, .inl (cI, 300, .inl cf)), (gp, .inl (cI, 300, .inl pf)), (gb, .inl (cI, 300, .inl bf))] sz) := by
  refine Met.ofW (cc := cX0_append) (maxL := 4) (ret := (some .int)) (by decide) rfl ?_
  intro p e s m args below meth c s₁ B hml hv
  obtain ⟨rfl, hsz, hP, hK, hD0⟩ := hv
  have hx := B.exec
  have hb := B.bytes
  have hr := B.returns
  have hts := atoms_spec (ws := (Cond.code yX0_append cX0_append 4 (some .int) :: wB)) B.pre
  have hown : s.vm.findClass RX0 = some m.cls := findClass_of_methodNamed B.named
  have hlocks := B.notSynchronized
  subst hsz
  have hD := hD0.self (sz := s.heap.size)
  obtain ⟨A, hAe⟩ : ∃ A, A = va_A [(g0, .inr (0, [.int (nI r), .int (nI n), .ref gk, .ref gr, .ref gs, .ref gv, .ref gw, .ref gc, .ref gp, .ref gb])), (gk, .inl (cI, 300, .inl kf)), (gr, .inl (cI, 300, .inl rf)), (gs, .inl (cZ, 300, .inl sf)), (gv, .inl (cJ, 300, .inr (.inl vf))), (gw, .inl (cI, 300, .inl wf)), (gc, .inl (cI, 300, .inl cf)), (gp, .inl (cI, 300, .inl pf)), (gb, .inl (cI, 300, .inl bf))] s.heap.size := ⟨_, rfl⟩
  rw [← hAe] at hD
  have hA : ∀ q : Nat, s.heap.size ≤ q → A q := fun q h => by rw [hAe]; exact Or.inr h
  have hS : va_S A s.heap s.heap [] := va_S.rf
  have hl := lv_entry ([.ref g0, .int key, .int (nI b)]) (n := 4) (Nat.le_of_ble_eq_true rfl)
  rw [lg_entry_eq]
  generalize (lg_sl ([.ref g0, .int key, .int (nI b)]) ++ List.replicate (4 - (lg_sl ([.ref g0, .int key, .int (nI b)])).length) Slot.unset).toArray = ls at hl ⊢
  have hl : lv_has ls 4 [(0, .ref g0), (1, .int key), (2, .int (nI b))] := hl
  refine lv_iload_n hx hb dX0_append_0 rfl (lv_at hl 2 rfl) ?_
  refine lv_iconst (v := -1) hx hb dX0_append_1 (by decide) ?_
  refine lv_icmp_eq (tgt := 15) hx hb dX0_append_2 (by decide) (fun c => absurd c (zn_nm1 (n := b) (by omega))) (fun _ => ?_)
  refine lv_aload_n hx hb dX0_append_5 rfl (lv_at hl 0 rfl) ?_
  refine va_get (D := D) (ci := 0) (v := .ref gp) (C := RX0) (T := TX0) (N := 10) hx hb hts mu_X0 hown hK hP 0 rfl rfl 8 (by decide) (hts _ (List.mem_cons_of_mem _ mw_40)) (fun _ h9 => h9) rfl dX0_append_6 ?_
  refine lv_iload_n hx hb dX0_append_9 rfl (lv_at hl 2 rfl) ?_
  refine lv_aload_n hx hb dX0_append_10 rfl (lv_at hl 0 rfl) ?_
  refine va_get (D := D) (ci := 0) (v := .int (nI r)) (C := RX0) (T := TX0) (N := 10) hx hb hts mu_X0 hown hK hP 0 rfl rfl 0 (by decide) (hts _ (List.mem_cons_of_mem _ mw_27)) (fun _ h9 => h9) rfl dX0_append_11 ?_
  refine rk_iast hx hb hK hP hD hS 7 0 rfl rfl (i := b) (by omega) (by decide) dX0_append_14 (fun H locs hP hD hS => ?_)
  have hP : va_P D vwCl [(g0, .inr (0, [.int (nI r), .int (nI n), .ref gk, .ref gr, .ref gs, .ref gv, .ref gw, .ref gc, .ref gp, .ref gb])), (gk, .inl (cI, 300, .inl kf)), (gr, .inl (cI, 300, .inl rf)), (gs, .inl (cZ, 300, .inl sf)), (gv, .inl (cJ, 300, .inr (.inl vf))), (gw, .inl (cI, 300, .inl wf)), (gc, .inl (cI, 300, .inl cf)), (gp, .inl (cI, 300, .inl (upd pf b (nI r)))), (gb, .inl (cI, 300, .inl bf))] H := hP
  have hD : va_D A [(g0, .inr (0, [.int (nI r), .int (nI n), .ref gk, .ref gr, .ref gs, .ref gv, .ref gw, .ref gc, .ref gp, .ref gb])), (gk, .inl (cI, 300, .inl kf)), (gr, .inl (cI, 300, .inl rf)), (gs, .inl (cZ, 300, .inl sf)), (gv, .inl (cJ, 300, .inr (.inl vf))), (gw, .inl (cI, 300, .inl wf)), (gc, .inl (cI, 300, .inl cf)), (gp, .inl (cI, 300, .inl (upd pf b (nI r)))), (gb, .inl (cI, 300, .inl bf))] := hD
  refine lv_aload_n hx hb dX0_append_15 rfl (lv_at hl 0 rfl) ?_
  refine va_get (D := D) (ci := 0) (v := .int (nI n)) (C := RX0) (T := TX0) (N := 10) hx hb hts mu_X0 hown hK hP 0 rfl rfl 1 (by decide) (hts _ (List.mem_cons_of_mem _ mw_30)) (fun _ h9 => h9) rfl dX0_append_16 ?_
  refine lv_istore_n (lv' := [(3, .int (nI n)), (0, .ref g0), (1, .int key), (2, .int (nI b))]) hx hb dX0_append_19 rfl hl (by decide) rfl (fun ls hl => ?_)
  refine lv_aload_n hx hb dX0_append_20 rfl (lv_at hl 1 rfl) ?_
  refine lv_dup hx hb dX0_append_21 rfl ?_
  refine va_get (D := D) (ci := 0) (v := .int (nI n)) (C := RX0) (T := TX0) (N := 10) hx hb hts mu_X0 hown hK hP 0 rfl rfl 1 (by decide) (hts _ (List.mem_cons_of_mem _ mw_30)) (fun _ h9 => h9) rfl dX0_append_22 ?_
  refine lv_iconst (v := nI 1) hx hb dX0_append_25 (by decide) ?_
  refine rk_iadd hx hb dX0_append_26 ?_
  refine va_put (D := D) (ci := 0) (v := .int (nI (n + 1))) (ty := .int) (C := RX0) (T := TX0) (N := 10) hx hb hts mu_X0 tyX0 tyX0_ok nmX0 hown hK hP hD hS 0 rfl rfl 1 (by decide) (hts _ (List.mem_cons_of_mem _ mw_30)) (fun _ h9 => h9) rfl (by decide +kernel) rfl rfl (Nat.le_of_ble_eq_true rfl) dX0_append_27 (fun H locs hP hD hS => ?_)
  have hP : va_P D vwCl [(g0, .inr (0, [.int (nI r), .int (nI (n + 1)), .ref gk, .ref gr, .ref gs, .ref gv, .ref gw, .ref gc, .ref gp, .ref gb])), (gk, .inl (cI, 300, .inl kf)), (gr, .inl (cI, 300, .inl rf)), (gs, .inl (cZ, 300, .inl sf)), (gv, .inl (cJ, 300, .inr (.inl vf))), (gw, .inl (cI, 300, .inl wf)), (gc, .inl (cI, 300, .inl cf)), (gp, .inl (cI, 300, .inl (upd pf b (nI r)))), (gb, .inl (cI, 300, .inl bf))] H := hP
  have hD : va_D A [(g0, .inr (0, [.int (nI r), .int (nI (n + 1)), .ref gk, .ref gr, .ref gs, .ref gv, .ref gw, .ref gc, .ref gp, .ref gb])), (gk, .inl (cI, 300, .inl kf)), (gr, .inl (cI, 300, .inl rf)), (gs, .inl (cZ, 300, .inl sf)), (gv, .inl (cJ, 300, .inr (.inl vf))), (gw, .inl (cI, 300, .inl wf)), (gc, .inl (cI, 300, .inl cf)), (gp, .inl (cI, 300, .inl (upd pf b (nI r)))), (gb, .inl (cI, 300, .inl bf))] := hD
  refine lv_aload_n hx hb dX0_append_30 rfl (lv_at hl 1 rfl) ?_
  refine va_get (D := D) (ci := 0) (v := .ref gk) (C := RX0) (T := TX0) (N := 10) hx hb hts mu_X0 hown hK hP 0 rfl rfl 2 (by decide) (hts _ (List.mem_cons_of_mem _ mw_32)) (fun _ h9 => h9) rfl dX0_append_31 ?_
  refine lv_iload_n hx hb dX0_append_34 rfl (lv_at hl 0 rfl) ?_
  refine lv_iload_n hx hb dX0_append_35 rfl (lv_at hl 2 rfl) ?_
  refine rk_iast hx hb hK hP hD hS 1 0 rfl rfl (i := n) (by omega) (by decide) dX0_append_36 (fun H locs hP hD hS => ?_)
  have hP : va_P D vwCl [(g0, .inr (0, [.int (nI r), .int (nI (n + 1)), .ref gk, .ref gr, .ref gs, .ref gv, .ref gw, .ref gc, .ref gp, .ref gb])), (gk, .inl (cI, 300, .inl (upd kf n key))), (gr, .inl (cI, 300, .inl rf)), (gs, .inl (cZ, 300, .inl sf)), (gv, .inl (cJ, 300, .inr (.inl vf))), (gw, .inl (cI, 300, .inl wf)), (gc, .inl (cI, 300, .inl cf)), (gp, .inl (cI, 300, .inl (upd pf b (nI r)))), (gb, .inl (cI, 300, .inl bf))] H := hP
  have hD : va_D A [(g0, .inr (0, [.int (nI r), .int (nI (n + 1)), .ref gk, .ref gr, .ref gs, .ref gv, .ref gw, .ref gc, .ref gp, .ref gb])), (gk, .inl (cI, 300, .inl (upd kf n key))), (gr, .inl (cI, 300, .inl rf)), (gs, .inl (cZ, 300, .inl sf)), (gv, .inl (cJ, 300, .inr (.inl vf))), (gw, .inl (cI, 300, .inl wf)), (gc, .inl (cI, 300, .inl cf)), (gp, .inl (cI, 300, .inl (upd pf b (nI r)))), (gb, .inl (cI, 300, .inl bf))] := hD
  refine lv_aload_n hx hb dX0_append_37 rfl (lv_at hl 1 rfl) ?_
  refine va_get (D := D) (ci := 0) (v := .ref gr) (C := RX0) (T := TX0) (N := 10) hx hb hts mu_X0 hown hK hP 0 rfl rfl 3 (by decide) (hts _ (List.mem_cons_of_mem _ mw_34)) (fun _ h9 => h9) rfl dX0_append_38 ?_
  refine lv_iload_n hx hb dX0_append_41 rfl (lv_at hl 0 rfl) ?_
  refine lv_aload_n hx hb dX0_append_42 rfl (lv_at hl 1 rfl) ?_
  refine va_get (D := D) (ci := 0) (v := .int (nI r)) (C := RX0) (T := TX0) (N := 10) hx hb hts mu_X0 hown hK hP 0 rfl rfl 0 (by decide) (hts _ (List.mem_cons_of_mem _ mw_27)) (fun _ h9 => h9) rfl dX0_append_43 ?_
  refine rk_iast hx hb hK hP hD hS 2 0 rfl rfl (i := n) (by omega) (by decide) dX0_append_46 (fun H locs hP hD hS => ?_)
  have hP : va_P D vwCl [(g0, .inr (0, [.int (nI r), .int (nI (n + 1)), .ref gk, .ref gr, .ref gs, .ref gv, .ref gw, .ref gc, .ref gp, .ref gb])), (gk, .inl (cI, 300, .inl (upd kf n key))), (gr, .inl (cI, 300, .inl (upd rf n (nI r)))), (gs, .inl (cZ, 300, .inl sf)), (gv, .inl (cJ, 300, .inr (.inl vf))), (gw, .inl (cI, 300, .inl wf)), (gc, .inl (cI, 300, .inl cf)), (gp, .inl (cI, 300, .inl (upd pf b (nI r)))), (gb, .inl (cI, 300, .inl bf))] H := hP
  have hD : va_D A [(g0, .inr (0, [.int (nI r), .int (nI (n + 1)), .ref gk, .ref gr, .ref gs, .ref gv, .ref gw, .ref gc, .ref gp, .ref gb])), (gk, .inl (cI, 300, .inl (upd kf n key))), (gr, .inl (cI, 300, .inl (upd rf n (nI r)))), (gs, .inl (cZ, 300, .inl sf)), (gv, .inl (cJ, 300, .inr (.inl vf))), (gw, .inl (cI, 300, .inl wf)), (gc, .inl (cI, 300, .inl cf)), (gp, .inl (cI, 300, .inl (upd pf b (nI r)))), (gb, .inl (cI, 300, .inl bf))] := hD
  refine lv_aload_n hx hb dX0_append_47 rfl (lv_at hl 1 rfl) ?_
  refine va_get (D := D) (ci := 0) (v := .ref gp) (C := RX0) (T := TX0) (N := 10) hx hb hts mu_X0 hown hK hP 0 rfl rfl 8 (by decide) (hts _ (List.mem_cons_of_mem _ mw_40)) (fun _ h9 => h9) rfl dX0_append_48 ?_
  refine lv_iload_n hx hb dX0_append_51 rfl (lv_at hl 0 rfl) ?_
  refine lv_sipush (v := nI 301) hx hb dX0_append_52 (by decide) ?_
  refine rk_iast hx hb hK hP hD hS 7 0 rfl rfl (i := n) (by omega) (by decide) dX0_append_55 (fun H locs hP hD hS => ?_)
  have hP : va_P D vwCl [(g0, .inr (0, [.int (nI r), .int (nI (n + 1)), .ref gk, .ref gr, .ref gs, .ref gv, .ref gw, .ref gc, .ref gp, .ref gb])), (gk, .inl (cI, 300, .inl (upd kf n key))), (gr, .inl (cI, 300, .inl (upd rf n (nI r)))), (gs, .inl (cZ, 300, .inl sf)), (gv, .inl (cJ, 300, .inr (.inl vf))), (gw, .inl (cI, 300, .inl wf)), (gc, .inl (cI, 300, .inl cf)), (gp, .inl (cI, 300, .inl (upd (upd pf b (nI r)) n (nI 301)))), (gb, .inl (cI, 300, .inl bf))] H := hP
  have hD : va_D A [(g0, .inr (0, [.int (nI r), .int (nI (n + 1)), .ref gk, .ref gr, .ref gs, .ref gv, .ref gw, .ref gc, .ref gp, .ref gb])), (gk, .inl (cI, 300, .inl (upd kf n key))), (gr, .inl (cI, 300, .inl (upd rf n (nI r)))), (gs, .inl (cZ, 300, .inl sf)), (gv, .inl (cJ, 300, .inr (.inl vf))), (gw, .inl (cI, 300, .inl wf)), (gc, .inl (cI, 300, .inl cf)), (gp, .inl (cI, 300, .inl (upd (upd pf b (nI r)) n (nI 301)))), (gb, .inl (cI, 300, .inl bf))] := hD
  refine lv_aload_n hx hb dX0_append_56 rfl (lv_at hl 1 rfl) ?_
  refine lv_iload_n hx hb dX0_append_57 rfl (lv_at hl 0 rfl) ?_
  refine rw_callVv (wr := []) (As := [.int (nI n)]) (rest := []) ⟨hx, hb, hml, hown, hts⟩ (c_X0_sortIn l D cI cJ cZ H.size g0 gk gr gs gv gw gc gp gb r (n + 1) (upd kf n key) (upd rf n (nI r)) sf vf wf cf (upd (upd pf b (nI r)) n (nI 301)) bf bn n (by omega) (fun q hq => ⟨(hbn q hq).1, by have := (hbn q hq).2; omega⟩)) (cwV 1 hts (wB_V mw_229 mw_231 ms_4 mw_2 mw_232) rfl rfl rfl (by decide +kernel) ⟨Nat.le_of_ble_eq_true rfl, Nat.le_of_ble_eq_true rfl⟩) (va_recv hK hP (ci := 0) (q0 := 0) rfl rfl) hK hP hD hS hA [0, 1, 2, 3, 4, 5, 6, 7, 8] [] rfl rfl rfl (by decide) (by decide) (by decide) rfl hl.1 (Nat.le_of_ble_eq_true rfl) ⟨Nat.le_of_ble_eq_true rfl, Nat.le_of_ble_eq_true rfl⟩ rfl dX0_append_58 (fun u_58 H locs hw_58 hP hD hS => ?_)
  try dsimp only at hw_58
  have hP : va_P D vwCl [(g0, .inr (0, [.int (nI r), .int (nI (n + 1)), .ref gk, .ref gr, .ref gs, .ref gv, .ref gw, .ref gc, .ref gp, .ref gb])), (gk, .inl (cI, 300, .inl (upd kf n key))), (gr, .inl (cI, 300, .inl (upd rf n (nI r)))), (gs, .inl (cZ, 300, .inl sf)), (gv, .inl (cJ, 300, .inr (.inl vf))), (gw, .inl (cI, 300, .inl wf)), (gc, .inl (cI, 300, .inl cf)), (gp, .inl (cI, 300, .inl (upd (upd pf b (nI r)) n (nI 301)))), (gb, .inl (cI, 300, .inl u_58))] H := hP.sub [0, 1, 2, 3, 4, 5, 6, 7, 8] rfl
  have hD : va_D A [(g0, .inr (0, [.int (nI r), .int (nI (n + 1)), .ref gk, .ref gr, .ref gs, .ref gv, .ref gw, .ref gc, .ref gp, .ref gb])), (gk, .inl (cI, 300, .inl (upd kf n key))), (gr, .inl (cI, 300, .inl (upd rf n (nI r)))), (gs, .inl (cZ, 300, .inl sf)), (gv, .inl (cJ, 300, .inr (.inl vf))), (gw, .inl (cI, 300, .inl wf)), (gc, .inl (cI, 300, .inl cf)), (gp, .inl (cI, 300, .inl (upd (upd pf b (nI r)) n (nI 301)))), (gb, .inl (cI, 300, .inl u_58))] := hD.sub [0, 1, 2, 3, 4, 5, 6, 7, 8] (by decide) rfl
  refine lv_iload_n hx hb dX0_append_61 rfl (lv_at hl 0 rfl) ?_
  exact rw_reti (u := u_58) (v := (nI n)) hAe (hP) (hD) hS hK (⟨rfl, hw_58⟩) (Nat.le_of_ble_eq_true rfl) (Nat.le_of_ble_eq_true rfl) hx hb hr hlocks dX0_append_62
set_option maxHeartbeats 4000000 in
set_option maxRecDepth 100000 in
theorem c_X0_appendSet (l : Launch) (D : va_G) (cI cJ cZ : ClassId) (sz : Nat) (g0 gk gr gs gv gw gc gp gb r n : Nat) (kf rf sf : Nat → Int32) (vf : Nat → Int64) (wf cf pf bf : Nat → Int32) (bn : Nat → Nat) (hn : n < 300) (hr3 : r ≤ 300) (hbn : ∀ q, q < n → bf q = nI (bn q) ∧ bn q < n) (key : Int32) (v : Int64) : Met l yX0_appendSet (Cond.code yX0_appendSet cX0_appendSet 6 none :: wB) ({ frames := 2, cells := 0, slots := 0, locals := 45 } : Room) (rw_Pc D cI cJ cZ sz [.ref g0, .int key, .long v] [(g0, .inr (0, [.int (nI r), .int (nI n), .ref gk, .ref gr, .ref gs, .ref gv, .ref gw, .ref gc, .ref gp, .ref gb])), (gk, .inl (cI, 300, .inl kf)), (gr, .inl (cI, 300, .inl rf)), (gs, .inl (cZ, 300, .inl sf)), (gv, .inl (cJ, 300, .inr (.inl vf))), (gw, .inl (cI, 300, .inl wf)), (gc, .inl (cI, 300, .inl cf)), (gp, .inl (cI, 300, .inl pf)), (gb, .inl (cI, 300, .inl bf))]) (rw_Qv (S := (Nat → Int32) × (Nat → Int32) × (Nat → Int32) × (Nat → Int32)) D cI cJ cZ sz [(g0, .inr (0, [.int (nI r), .int (nI n), .ref gk, .ref gr, .ref gs, .ref gv, .ref gw, .ref gc, .ref gp, .ref gb])), (gk, .inl (cI, 300, .inl kf)), (gr, .inl (cI, 300, .inl rf)), (gs, .inl (cZ, 300, .inl sf)), (gv, .inl (cJ, 300, .inr (.inl vf))), (gw, .inl (cI, 300, .inl wf)), (gc, .inl (cI, 300, .inl cf)), (gp, .inl (cI, 300, .inl pf)), (gb, .inl (cI, 300, .inl bf))] (fun u => [(g0, .inr (0, [.int (nI r), .int (nI (n + 1)), .ref gk, .ref gr, .ref gs, .ref gv, .ref gw, .ref gc, .ref gp, .ref gb])), (gk, .inl (cI, 300, .inl (upd kf n key))), (gr, .inl (cI, 300, .inl (upd rf n (nI r)))), (gs, .inl (cZ, 300, .inl (upd sf n (nI 1)))), (gv, .inl (cJ, 300, .inr (.inl (vp_updL vf n v)))), (gw, .inl (cI, 300, .inl u.2.2.1)), (gc, .inl (cI, 300, .inl u.2.2.2)), (gp, .inl (cI, 300, .inl u.1)), (gb, .inl (cI, 300, .inl u.2.1))]) (fun u => srt (upd kf n key) bn u.2.1 n ∧ (((∀ j, j < n → ¬ (kf j = key ∧ hld sf rf pf j (nI r))) ∧ u.1 = upd pf n (nI 301) ∧ u.2.2.1 = upd wf n (nI 1) ∧ u.2.2.2 = upd cf n (nI r)) ∨ (∃ j, j < n ∧ (kf j = key ∧ hld sf rf pf j (nI r)) ∧ u.1 = upd (upd pf j (nI r)) n (nI 301) ∧ u.2.2.1 = upd wf n (wf j + nI 1) ∧ u.2.2.2 = upd cf n (cf j))))) 0 0 (va_A [(g0, .inr (0, [.int (nI r), .int (nI n), .ref gk, .ref gr, .ref gs, .ref gv, .ref gw, .ref gc, .ref gp, .ref gb])), (gk, .inl (cI, 300, .inl kf)), (gr, .inl (cI, 300, .inl rf)), (gs, .inl (cZ, 300, .inl sf)), (gv, .inl (cJ, 300, .inr (.inl vf))), (gw, .inl (cI, 300, .inl wf)), (gc, .inl (cI, 300, .inl cf)), (gp, .inl (cI, 300, .inl pf)), (gb, .inl (cI, 300, .inl bf))] sz) := by
  refine Met.ofW (cc := cX0_appendSet) (maxL := 6) (ret := none) (by decide) rfl ?_
  intro p e s m args below meth c s₁ B hml hv
  obtain ⟨rfl, hsz, hP, hK, hD0⟩ := hv
  have hx := B.exec
  have hb := B.bytes
  have hr := B.returns
  have hts := atoms_spec (ws := (Cond.code yX0_appendSet cX0_appendSet 6 none :: wB)) B.pre
  have hown : s.vm.findClass RX0 = some m.cls := findClass_of_methodNamed B.named
  have hlocks := B.notSynchronized
  subst hsz
  have hD := hD0.self (sz := s.heap.size)
  obtain ⟨A, hAe⟩ : ∃ A, A = va_A [(g0, .inr (0, [.int (nI r), .int (nI n), .ref gk, .ref gr, .ref gs, .ref gv, .ref gw, .ref gc, .ref gp, .ref gb])), (gk, .inl (cI, 300, .inl kf)), (gr, .inl (cI, 300, .inl rf)), (gs, .inl (cZ, 300, .inl sf)), (gv, .inl (cJ, 300, .inr (.inl vf))), (gw, .inl (cI, 300, .inl wf)), (gc, .inl (cI, 300, .inl cf)), (gp, .inl (cI, 300, .inl pf)), (gb, .inl (cI, 300, .inl bf))] s.heap.size := ⟨_, rfl⟩
  rw [← hAe] at hD
  have hA : ∀ q : Nat, s.heap.size ≤ q → A q := fun q h => by rw [hAe]; exact Or.inr h
  have hS : va_S A s.heap s.heap [] := va_S.rf
  have hl := lv_entry ([.ref g0, .int key, .long v]) (n := 6) (Nat.le_of_ble_eq_true rfl)
  rw [lg_entry_eq]
  generalize (lg_sl ([.ref g0, .int key, .long v]) ++ List.replicate (6 - (lg_sl ([.ref g0, .int key, .long v])).length) Slot.unset).toArray = ls at hl ⊢
  have hl : lv_has ls 6 [(0, .ref g0), (1, .int key), (2, .long v)] := hl
  refine lv_aload_n hx hb dX0_appendSet_0 rfl (lv_at hl 0 rfl) ?_
  refine lv_iload_n hx hb dX0_appendSet_1 rfl (lv_at hl 1 rfl) ?_
  refine lv_aload_n hx hb dX0_appendSet_2 rfl (lv_at hl 0 rfl) ?_
  refine va_get (D := D) (ci := 0) (v := .int (nI r)) (C := RX0) (T := TX0) (N := 10) hx hb hts mu_X0 hown hK hP 0 rfl rfl 0 (by decide) (hts _ (List.mem_cons_of_mem _ mw_27)) (fun _ h9 => h9) rfl dX0_appendSet_3 ?_
  refine ro_callVi (As := [.int key, .int (nI r)]) (rest := []) ⟨hx, hb, hml, hown, hts⟩ (c_X0_find l D cI cJ cZ g0 gk gr gs gv gw gc gp gb r n kf rf sf vf wf cf pf bf (by omega) key (nI r)) (cwV 2 hts (wB_V mw_221 mw_222 mw_223 mw_2 mw_224) rfl rfl rfl (by decide +kernel) ⟨Nat.le_of_ble_eq_true rfl, Nat.le_of_ble_eq_true rfl⟩) (va_recv hK hP (ci := 0) (q0 := 0) rfl rfl) (hP.sub (ws' := [(g0, .inr (0, [.int (nI r), .int (nI n), .ref gk, .ref gr, .ref gs, .ref gv, .ref gw, .ref gc, .ref gp, .ref gb])), (gk, .inl (cI, 300, .inl kf)), (gr, .inl (cI, 300, .inl rf)), (gs, .inl (cZ, 300, .inl sf)), (gv, .inl (cJ, 300, .inr (.inl vf))), (gw, .inl (cI, 300, .inl wf)), (gc, .inl (cI, 300, .inl cf)), (gp, .inl (cI, 300, .inl pf)), (gb, .inl (cI, 300, .inl bf))]) [0, 1, 2, 3, 4, 5, 6, 7, 8] rfl) hK rfl hl.1 (Nat.le_of_ble_eq_true rfl) ⟨Nat.le_of_ble_eq_true rfl, Nat.le_of_ble_eq_true rfl⟩ rfl dX0_appendSet_6 (fun r_6 hw_6 => ?_)
  try dsimp only at hw_6
  rcases hw_6 with ⟨rfl, hw_6⟩ | ⟨j, hj, rfl, hw_6, hq⟩
  · skip
    refine lv_istore (lv' := [(4, .int (-1)), (0, .ref g0), (1, .int key), (2, .long v)]) hx hb dX0_appendSet_9 hl (by decide) rfl (fun ls hl => ?_)
    refine lv_aload_n hx hb dX0_appendSet_11 rfl (lv_at hl 1 rfl) ?_
    refine lv_iload_n hx hb dX0_appendSet_12 rfl (lv_at hl 2 rfl) ?_
    refine lv_iload hx hb dX0_appendSet_13 (lv_at hl 0 rfl) ?_
    refine rw_callVi (wr := []) (As := [.int key, .int (-1)]) (rest := []) ⟨hx, hb, hml, hown, hts⟩ (c_X0_append0 l D cI cJ cZ s.heap.size g0 gk gr gs gv gw gc gp gb r n kf rf sf vf wf cf pf bf bn (by omega) (by omega) (hbn) key) (cwV 2 hts (wB_V mw_225 mw_227 ms_3 mw_2 mw_228) rfl rfl rfl (by decide +kernel) ⟨Nat.le_of_ble_eq_true rfl, Nat.le_of_ble_eq_true rfl⟩) (va_recv hK hP (ci := 0) (q0 := 0) rfl rfl) hK hP hD hS hA [0, 1, 2, 3, 4, 5, 6, 7, 8] [] rfl rfl rfl (by decide) (by decide) (by decide) rfl hl.1 (Nat.le_of_ble_eq_true rfl) ⟨Nat.le_of_ble_eq_true rfl, Nat.le_of_ble_eq_true rfl⟩ rfl dX0_appendSet_15 (fun r_15 u_15 H locs hw_15 hP hD hS => ?_)
    try dsimp only at hw_15
    have hP : va_P D vwCl [(g0, .inr (0, [.int (nI r), .int (nI (n + 1)), .ref gk, .ref gr, .ref gs, .ref gv, .ref gw, .ref gc, .ref gp, .ref gb])), (gk, .inl (cI, 300, .inl (upd kf n key))), (gr, .inl (cI, 300, .inl (upd rf n (nI r)))), (gs, .inl (cZ, 300, .inl sf)), (gv, .inl (cJ, 300, .inr (.inl vf))), (gw, .inl (cI, 300, .inl wf)), (gc, .inl (cI, 300, .inl cf)), (gp, .inl (cI, 300, .inl (upd pf n (nI 301)))), (gb, .inl (cI, 300, .inl u_15))] H := hP.sub [0, 1, 2, 3, 4, 5, 6, 7, 8] rfl
    have hD : va_D A [(g0, .inr (0, [.int (nI r), .int (nI (n + 1)), .ref gk, .ref gr, .ref gs, .ref gv, .ref gw, .ref gc, .ref gp, .ref gb])), (gk, .inl (cI, 300, .inl (upd kf n key))), (gr, .inl (cI, 300, .inl (upd rf n (nI r)))), (gs, .inl (cZ, 300, .inl sf)), (gv, .inl (cJ, 300, .inr (.inl vf))), (gw, .inl (cI, 300, .inl wf)), (gc, .inl (cI, 300, .inl cf)), (gp, .inl (cI, 300, .inl (upd pf n (nI 301)))), (gb, .inl (cI, 300, .inl u_15))] := hD.sub [0, 1, 2, 3, 4, 5, 6, 7, 8] (by decide) rfl
    obtain ⟨rfl, hw_15⟩ := hw_15
    refine lv_istore (lv' := [(5, .int (nI n)), (4, .int (-1)), (0, .ref g0), (1, .int key), (2, .long v)]) hx hb dX0_appendSet_18 hl (by decide) rfl (fun ls hl => ?_)
    refine lv_aload_n hx hb dX0_appendSet_20 rfl (lv_at hl 2 rfl) ?_
    refine va_get (D := D) (ci := 0) (v := .ref gs) (C := RX0) (T := TX0) (N := 10) hx hb hts mu_X0 hown hK hP 0 rfl rfl 4 (by decide) (hts _ (List.mem_cons_of_mem _ mw_35)) (fun _ h9 => h9) rfl dX0_appendSet_21 ?_
    refine lv_iload hx hb dX0_appendSet_24 (lv_at hl 0 rfl) ?_
    refine lv_iconst (v := nI 1) hx hb dX0_appendSet_26 (by decide) ?_
    refine rk_zast hx hb hK hP hD hS 3 2 rfl rfl (i := n) (by decide) (by omega) (by decide) dX0_appendSet_27 (fun H locs hP hD hS => ?_)
    have hP : va_P D vwCl [(g0, .inr (0, [.int (nI r), .int (nI (n + 1)), .ref gk, .ref gr, .ref gs, .ref gv, .ref gw, .ref gc, .ref gp, .ref gb])), (gk, .inl (cI, 300, .inl (upd kf n key))), (gr, .inl (cI, 300, .inl (upd rf n (nI r)))), (gs, .inl (cZ, 300, .inl (upd sf n (nI 1)))), (gv, .inl (cJ, 300, .inr (.inl vf))), (gw, .inl (cI, 300, .inl wf)), (gc, .inl (cI, 300, .inl cf)), (gp, .inl (cI, 300, .inl (upd pf n (nI 301)))), (gb, .inl (cI, 300, .inl u_15))] H := hP
    have hD : va_D A [(g0, .inr (0, [.int (nI r), .int (nI (n + 1)), .ref gk, .ref gr, .ref gs, .ref gv, .ref gw, .ref gc, .ref gp, .ref gb])), (gk, .inl (cI, 300, .inl (upd kf n key))), (gr, .inl (cI, 300, .inl (upd rf n (nI r)))), (gs, .inl (cZ, 300, .inl (upd sf n (nI 1)))), (gv, .inl (cJ, 300, .inr (.inl vf))), (gw, .inl (cI, 300, .inl wf)), (gc, .inl (cI, 300, .inl cf)), (gp, .inl (cI, 300, .inl (upd pf n (nI 301)))), (gb, .inl (cI, 300, .inl u_15))] := hD
    refine lv_aload_n hx hb dX0_appendSet_28 rfl (lv_at hl 2 rfl) ?_
    refine va_get (D := D) (ci := 0) (v := .ref gv) (C := RX0) (T := TX0) (N := 10) hx hb hts mu_X0 hown hK hP 0 rfl rfl 5 (by decide) (hts _ (List.mem_cons_of_mem _ mw_36)) (fun _ h9 => h9) rfl dX0_appendSet_29 ?_
    refine lv_iload hx hb dX0_appendSet_32 (lv_at hl 0 rfl) ?_
    refine lv_lload_n hx hb dX0_appendSet_34 rfl (lv_at hl 4 rfl) ?_
    refine rk_last hx hb hK hP hD hS 4 1 rfl rfl (i := n) (by omega) (by decide) dX0_appendSet_35 (fun H locs hP hD hS => ?_)
    have hP : va_P D vwCl [(g0, .inr (0, [.int (nI r), .int (nI (n + 1)), .ref gk, .ref gr, .ref gs, .ref gv, .ref gw, .ref gc, .ref gp, .ref gb])), (gk, .inl (cI, 300, .inl (upd kf n key))), (gr, .inl (cI, 300, .inl (upd rf n (nI r)))), (gs, .inl (cZ, 300, .inl (upd sf n (nI 1)))), (gv, .inl (cJ, 300, .inr (.inl (vp_updL vf n v)))), (gw, .inl (cI, 300, .inl wf)), (gc, .inl (cI, 300, .inl cf)), (gp, .inl (cI, 300, .inl (upd pf n (nI 301)))), (gb, .inl (cI, 300, .inl u_15))] H := hP
    have hD : va_D A [(g0, .inr (0, [.int (nI r), .int (nI (n + 1)), .ref gk, .ref gr, .ref gs, .ref gv, .ref gw, .ref gc, .ref gp, .ref gb])), (gk, .inl (cI, 300, .inl (upd kf n key))), (gr, .inl (cI, 300, .inl (upd rf n (nI r)))), (gs, .inl (cZ, 300, .inl (upd sf n (nI 1)))), (gv, .inl (cJ, 300, .inr (.inl (vp_updL vf n v)))), (gw, .inl (cI, 300, .inl wf)), (gc, .inl (cI, 300, .inl cf)), (gp, .inl (cI, 300, .inl (upd pf n (nI 301)))), (gb, .inl (cI, 300, .inl u_15))] := hD
    refine lv_aload_n hx hb dX0_appendSet_36 rfl (lv_at hl 2 rfl) ?_
    refine va_get (D := D) (ci := 0) (v := .ref gw) (C := RX0) (T := TX0) (N := 10) hx hb hts mu_X0 hown hK hP 0 rfl rfl 6 (by decide) (hts _ (List.mem_cons_of_mem _ mw_38)) (fun _ h9 => h9) rfl dX0_appendSet_37 ?_
    refine lv_iload hx hb dX0_appendSet_40 (lv_at hl 0 rfl) ?_
    refine lv_iload hx hb dX0_appendSet_42 (lv_at hl 1 rfl) ?_
    refine lv_iconst (v := -1) hx hb dX0_appendSet_44 (by decide) ?_
    refine lv_icmp_ne (tgt := 52) hx hb dX0_appendSet_45 (by decide) (fun c => absurd (by decide) c) (fun _ => ?_)
    refine lv_iconst (v := nI 1) hx hb dX0_appendSet_48 (by decide) ?_
    refine lv_goto (tgt := 61) hx hb dX0_appendSet_49 (by decide) ?_
    refine rk_iast hx hb hK hP hD hS 5 0 rfl rfl (i := n) (by omega) (by decide) dX0_appendSet_61 (fun H locs hP hD hS => ?_)
    have hP : va_P D vwCl [(g0, .inr (0, [.int (nI r), .int (nI (n + 1)), .ref gk, .ref gr, .ref gs, .ref gv, .ref gw, .ref gc, .ref gp, .ref gb])), (gk, .inl (cI, 300, .inl (upd kf n key))), (gr, .inl (cI, 300, .inl (upd rf n (nI r)))), (gs, .inl (cZ, 300, .inl (upd sf n (nI 1)))), (gv, .inl (cJ, 300, .inr (.inl (vp_updL vf n v)))), (gw, .inl (cI, 300, .inl (upd wf n (nI 1)))), (gc, .inl (cI, 300, .inl cf)), (gp, .inl (cI, 300, .inl (upd pf n (nI 301)))), (gb, .inl (cI, 300, .inl u_15))] H := hP
    have hD : va_D A [(g0, .inr (0, [.int (nI r), .int (nI (n + 1)), .ref gk, .ref gr, .ref gs, .ref gv, .ref gw, .ref gc, .ref gp, .ref gb])), (gk, .inl (cI, 300, .inl (upd kf n key))), (gr, .inl (cI, 300, .inl (upd rf n (nI r)))), (gs, .inl (cZ, 300, .inl (upd sf n (nI 1)))), (gv, .inl (cJ, 300, .inr (.inl (vp_updL vf n v)))), (gw, .inl (cI, 300, .inl (upd wf n (nI 1)))), (gc, .inl (cI, 300, .inl cf)), (gp, .inl (cI, 300, .inl (upd pf n (nI 301)))), (gb, .inl (cI, 300, .inl u_15))] := hD
    refine lv_aload_n hx hb dX0_appendSet_62 rfl (lv_at hl 2 rfl) ?_
    refine va_get (D := D) (ci := 0) (v := .ref gc) (C := RX0) (T := TX0) (N := 10) hx hb hts mu_X0 hown hK hP 0 rfl rfl 7 (by decide) (hts _ (List.mem_cons_of_mem _ mw_39)) (fun _ h9 => h9) rfl dX0_appendSet_63 ?_
    refine lv_iload hx hb dX0_appendSet_66 (lv_at hl 0 rfl) ?_
    refine lv_iload hx hb dX0_appendSet_68 (lv_at hl 1 rfl) ?_
    refine lv_iconst (v := -1) hx hb dX0_appendSet_70 (by decide) ?_
    refine lv_icmp_ne (tgt := 81) hx hb dX0_appendSet_71 (by decide) (fun c => absurd (by decide) c) (fun _ => ?_)
    refine lv_aload_n hx hb dX0_appendSet_74 rfl (lv_at hl 2 rfl) ?_
    refine va_get (D := D) (ci := 0) (v := .int (nI r)) (C := RX0) (T := TX0) (N := 10) hx hb hts mu_X0 hown hK hP 0 rfl rfl 0 (by decide) (hts _ (List.mem_cons_of_mem _ mw_27)) (fun _ h9 => h9) rfl dX0_appendSet_75 ?_
    refine lv_goto (tgt := 88) hx hb dX0_appendSet_78 (by decide) ?_
    refine rk_iast hx hb hK hP hD hS 6 0 rfl rfl (i := n) (by omega) (by decide) dX0_appendSet_88 (fun H locs hP hD hS => ?_)
    have hP : va_P D vwCl [(g0, .inr (0, [.int (nI r), .int (nI (n + 1)), .ref gk, .ref gr, .ref gs, .ref gv, .ref gw, .ref gc, .ref gp, .ref gb])), (gk, .inl (cI, 300, .inl (upd kf n key))), (gr, .inl (cI, 300, .inl (upd rf n (nI r)))), (gs, .inl (cZ, 300, .inl (upd sf n (nI 1)))), (gv, .inl (cJ, 300, .inr (.inl (vp_updL vf n v)))), (gw, .inl (cI, 300, .inl (upd wf n (nI 1)))), (gc, .inl (cI, 300, .inl (upd cf n (nI r)))), (gp, .inl (cI, 300, .inl (upd pf n (nI 301)))), (gb, .inl (cI, 300, .inl u_15))] H := hP
    have hD : va_D A [(g0, .inr (0, [.int (nI r), .int (nI (n + 1)), .ref gk, .ref gr, .ref gs, .ref gv, .ref gw, .ref gc, .ref gp, .ref gb])), (gk, .inl (cI, 300, .inl (upd kf n key))), (gr, .inl (cI, 300, .inl (upd rf n (nI r)))), (gs, .inl (cZ, 300, .inl (upd sf n (nI 1)))), (gv, .inl (cJ, 300, .inr (.inl (vp_updL vf n v)))), (gw, .inl (cI, 300, .inl (upd wf n (nI 1)))), (gc, .inl (cI, 300, .inl (upd cf n (nI r)))), (gp, .inl (cI, 300, .inl (upd pf n (nI 301)))), (gb, .inl (cI, 300, .inl u_15))] := hD
    exact rw_retv (u := ((upd pf n (nI 301)), u_15, (upd wf n (nI 1)), (upd cf n (nI r)))) hAe (hP) (hD) hS hK (⟨hw_15, by first | exact Or.inl ⟨hw_6, rfl, rfl, rfl⟩ | exact Or.inr ⟨j, hj, hw_6, rfl, rfl, rfl⟩⟩) (Nat.le_of_ble_eq_true rfl) (Nat.le_of_ble_eq_true rfl) hx hb hr hlocks dX0_appendSet_89
  · skip
    refine lv_istore (lv' := [(4, .int (nI j)), (0, .ref g0), (1, .int key), (2, .long v)]) hx hb dX0_appendSet_9 hl (by decide) rfl (fun ls hl => ?_)
    refine lv_aload_n hx hb dX0_appendSet_11 rfl (lv_at hl 1 rfl) ?_
    refine lv_iload_n hx hb dX0_appendSet_12 rfl (lv_at hl 2 rfl) ?_
    refine lv_iload hx hb dX0_appendSet_13 (lv_at hl 0 rfl) ?_
    refine rw_callVi (wr := []) (As := [.int key, .int (nI j)]) (rest := []) ⟨hx, hb, hml, hown, hts⟩ (c_X0_append1 l D cI cJ cZ s.heap.size g0 gk gr gs gv gw gc gp gb r n kf rf sf vf wf cf pf bf bn (by omega) (by omega) (hbn) key j (by omega)) (cwV 2 hts (wB_V mw_225 mw_227 ms_3 mw_2 mw_228) rfl rfl rfl (by decide +kernel) ⟨Nat.le_of_ble_eq_true rfl, Nat.le_of_ble_eq_true rfl⟩) (va_recv hK hP (ci := 0) (q0 := 0) rfl rfl) hK hP hD hS hA [0, 1, 2, 3, 4, 5, 6, 7, 8] [] rfl rfl rfl (by decide) (by decide) (by decide) rfl hl.1 (Nat.le_of_ble_eq_true rfl) ⟨Nat.le_of_ble_eq_true rfl, Nat.le_of_ble_eq_true rfl⟩ rfl dX0_appendSet_15 (fun r_15 u_15 H locs hw_15 hP hD hS => ?_)
    try dsimp only at hw_15
    have hP : va_P D vwCl [(g0, .inr (0, [.int (nI r), .int (nI (n + 1)), .ref gk, .ref gr, .ref gs, .ref gv, .ref gw, .ref gc, .ref gp, .ref gb])), (gk, .inl (cI, 300, .inl (upd kf n key))), (gr, .inl (cI, 300, .inl (upd rf n (nI r)))), (gs, .inl (cZ, 300, .inl sf)), (gv, .inl (cJ, 300, .inr (.inl vf))), (gw, .inl (cI, 300, .inl wf)), (gc, .inl (cI, 300, .inl cf)), (gp, .inl (cI, 300, .inl (upd (upd pf j (nI r)) n (nI 301)))), (gb, .inl (cI, 300, .inl u_15))] H := hP.sub [0, 1, 2, 3, 4, 5, 6, 7, 8] rfl
    have hD : va_D A [(g0, .inr (0, [.int (nI r), .int (nI (n + 1)), .ref gk, .ref gr, .ref gs, .ref gv, .ref gw, .ref gc, .ref gp, .ref gb])), (gk, .inl (cI, 300, .inl (upd kf n key))), (gr, .inl (cI, 300, .inl (upd rf n (nI r)))), (gs, .inl (cZ, 300, .inl sf)), (gv, .inl (cJ, 300, .inr (.inl vf))), (gw, .inl (cI, 300, .inl wf)), (gc, .inl (cI, 300, .inl cf)), (gp, .inl (cI, 300, .inl (upd (upd pf j (nI r)) n (nI 301)))), (gb, .inl (cI, 300, .inl u_15))] := hD.sub [0, 1, 2, 3, 4, 5, 6, 7, 8] (by decide) rfl
    obtain ⟨rfl, hw_15⟩ := hw_15
    refine lv_istore (lv' := [(5, .int (nI n)), (4, .int (nI j)), (0, .ref g0), (1, .int key), (2, .long v)]) hx hb dX0_appendSet_18 hl (by decide) rfl (fun ls hl => ?_)
    refine lv_aload_n hx hb dX0_appendSet_20 rfl (lv_at hl 2 rfl) ?_
    refine va_get (D := D) (ci := 0) (v := .ref gs) (C := RX0) (T := TX0) (N := 10) hx hb hts mu_X0 hown hK hP 0 rfl rfl 4 (by decide) (hts _ (List.mem_cons_of_mem _ mw_35)) (fun _ h9 => h9) rfl dX0_appendSet_21 ?_
    refine lv_iload hx hb dX0_appendSet_24 (lv_at hl 0 rfl) ?_
    refine lv_iconst (v := nI 1) hx hb dX0_appendSet_26 (by decide) ?_
    refine rk_zast hx hb hK hP hD hS 3 2 rfl rfl (i := n) (by decide) (by omega) (by decide) dX0_appendSet_27 (fun H locs hP hD hS => ?_)
    have hP : va_P D vwCl [(g0, .inr (0, [.int (nI r), .int (nI (n + 1)), .ref gk, .ref gr, .ref gs, .ref gv, .ref gw, .ref gc, .ref gp, .ref gb])), (gk, .inl (cI, 300, .inl (upd kf n key))), (gr, .inl (cI, 300, .inl (upd rf n (nI r)))), (gs, .inl (cZ, 300, .inl (upd sf n (nI 1)))), (gv, .inl (cJ, 300, .inr (.inl vf))), (gw, .inl (cI, 300, .inl wf)), (gc, .inl (cI, 300, .inl cf)), (gp, .inl (cI, 300, .inl (upd (upd pf j (nI r)) n (nI 301)))), (gb, .inl (cI, 300, .inl u_15))] H := hP
    have hD : va_D A [(g0, .inr (0, [.int (nI r), .int (nI (n + 1)), .ref gk, .ref gr, .ref gs, .ref gv, .ref gw, .ref gc, .ref gp, .ref gb])), (gk, .inl (cI, 300, .inl (upd kf n key))), (gr, .inl (cI, 300, .inl (upd rf n (nI r)))), (gs, .inl (cZ, 300, .inl (upd sf n (nI 1)))), (gv, .inl (cJ, 300, .inr (.inl vf))), (gw, .inl (cI, 300, .inl wf)), (gc, .inl (cI, 300, .inl cf)), (gp, .inl (cI, 300, .inl (upd (upd pf j (nI r)) n (nI 301)))), (gb, .inl (cI, 300, .inl u_15))] := hD
    refine lv_aload_n hx hb dX0_appendSet_28 rfl (lv_at hl 2 rfl) ?_
    refine va_get (D := D) (ci := 0) (v := .ref gv) (C := RX0) (T := TX0) (N := 10) hx hb hts mu_X0 hown hK hP 0 rfl rfl 5 (by decide) (hts _ (List.mem_cons_of_mem _ mw_36)) (fun _ h9 => h9) rfl dX0_appendSet_29 ?_
    refine lv_iload hx hb dX0_appendSet_32 (lv_at hl 0 rfl) ?_
    refine lv_lload_n hx hb dX0_appendSet_34 rfl (lv_at hl 4 rfl) ?_
    refine rk_last hx hb hK hP hD hS 4 1 rfl rfl (i := n) (by omega) (by decide) dX0_appendSet_35 (fun H locs hP hD hS => ?_)
    have hP : va_P D vwCl [(g0, .inr (0, [.int (nI r), .int (nI (n + 1)), .ref gk, .ref gr, .ref gs, .ref gv, .ref gw, .ref gc, .ref gp, .ref gb])), (gk, .inl (cI, 300, .inl (upd kf n key))), (gr, .inl (cI, 300, .inl (upd rf n (nI r)))), (gs, .inl (cZ, 300, .inl (upd sf n (nI 1)))), (gv, .inl (cJ, 300, .inr (.inl (vp_updL vf n v)))), (gw, .inl (cI, 300, .inl wf)), (gc, .inl (cI, 300, .inl cf)), (gp, .inl (cI, 300, .inl (upd (upd pf j (nI r)) n (nI 301)))), (gb, .inl (cI, 300, .inl u_15))] H := hP
    have hD : va_D A [(g0, .inr (0, [.int (nI r), .int (nI (n + 1)), .ref gk, .ref gr, .ref gs, .ref gv, .ref gw, .ref gc, .ref gp, .ref gb])), (gk, .inl (cI, 300, .inl (upd kf n key))), (gr, .inl (cI, 300, .inl (upd rf n (nI r)))), (gs, .inl (cZ, 300, .inl (upd sf n (nI 1)))), (gv, .inl (cJ, 300, .inr (.inl (vp_updL vf n v)))), (gw, .inl (cI, 300, .inl wf)), (gc, .inl (cI, 300, .inl cf)), (gp, .inl (cI, 300, .inl (upd (upd pf j (nI r)) n (nI 301)))), (gb, .inl (cI, 300, .inl u_15))] := hD
    refine lv_aload_n hx hb dX0_appendSet_36 rfl (lv_at hl 2 rfl) ?_
    refine va_get (D := D) (ci := 0) (v := .ref gw) (C := RX0) (T := TX0) (N := 10) hx hb hts mu_X0 hown hK hP 0 rfl rfl 6 (by decide) (hts _ (List.mem_cons_of_mem _ mw_38)) (fun _ h9 => h9) rfl dX0_appendSet_37 ?_
    refine lv_iload hx hb dX0_appendSet_40 (lv_at hl 0 rfl) ?_
    refine lv_iload hx hb dX0_appendSet_42 (lv_at hl 1 rfl) ?_
    refine lv_iconst (v := -1) hx hb dX0_appendSet_44 (by decide) ?_
    refine lv_icmp_ne (tgt := 52) hx hb dX0_appendSet_45 (by decide) (fun _ => ?_) (fun c => absurd c (zn_nm1 (n := j) (by omega)))
    refine lv_aload_n hx hb dX0_appendSet_52 rfl (lv_at hl 2 rfl) ?_
    refine va_get (D := D) (ci := 0) (v := .ref gw) (C := RX0) (T := TX0) (N := 10) hx hb hts mu_X0 hown hK hP 0 rfl rfl 6 (by decide) (hts _ (List.mem_cons_of_mem _ mw_38)) (fun _ h9 => h9) rfl dX0_appendSet_53 ?_
    refine lv_iload hx hb dX0_appendSet_56 (lv_at hl 1 rfl) ?_
    refine rk_iald hx hb hK hP 5 0 rfl rfl (i := j) (by omega) (by decide) dX0_appendSet_58 ?_
    refine lv_iconst (v := nI 1) hx hb dX0_appendSet_59 (by decide) ?_
    refine lv_iadd hx hb dX0_appendSet_60 ?_
    refine rk_iast hx hb hK hP hD hS 5 0 rfl rfl (i := n) (by omega) (by decide) dX0_appendSet_61 (fun H locs hP hD hS => ?_)
    have hP : va_P D vwCl [(g0, .inr (0, [.int (nI r), .int (nI (n + 1)), .ref gk, .ref gr, .ref gs, .ref gv, .ref gw, .ref gc, .ref gp, .ref gb])), (gk, .inl (cI, 300, .inl (upd kf n key))), (gr, .inl (cI, 300, .inl (upd rf n (nI r)))), (gs, .inl (cZ, 300, .inl (upd sf n (nI 1)))), (gv, .inl (cJ, 300, .inr (.inl (vp_updL vf n v)))), (gw, .inl (cI, 300, .inl (upd wf n (wf j + nI 1)))), (gc, .inl (cI, 300, .inl cf)), (gp, .inl (cI, 300, .inl (upd (upd pf j (nI r)) n (nI 301)))), (gb, .inl (cI, 300, .inl u_15))] H := hP
    have hD : va_D A [(g0, .inr (0, [.int (nI r), .int (nI (n + 1)), .ref gk, .ref gr, .ref gs, .ref gv, .ref gw, .ref gc, .ref gp, .ref gb])), (gk, .inl (cI, 300, .inl (upd kf n key))), (gr, .inl (cI, 300, .inl (upd rf n (nI r)))), (gs, .inl (cZ, 300, .inl (upd sf n (nI 1)))), (gv, .inl (cJ, 300, .inr (.inl (vp_updL vf n v)))), (gw, .inl (cI, 300, .inl (upd wf n (wf j + nI 1)))), (gc, .inl (cI, 300, .inl cf)), (gp, .inl (cI, 300, .inl (upd (upd pf j (nI r)) n (nI 301)))), (gb, .inl (cI, 300, .inl u_15))] := hD
    refine lv_aload_n hx hb dX0_appendSet_62 rfl (lv_at hl 2 rfl) ?_
    refine va_get (D := D) (ci := 0) (v := .ref gc) (C := RX0) (T := TX0) (N := 10) hx hb hts mu_X0 hown hK hP 0 rfl rfl 7 (by decide) (hts _ (List.mem_cons_of_mem _ mw_39)) (fun _ h9 => h9) rfl dX0_appendSet_63 ?_
    refine lv_iload hx hb dX0_appendSet_66 (lv_at hl 0 rfl) ?_
    refine lv_iload hx hb dX0_appendSet_68 (lv_at hl 1 rfl) ?_
    refine lv_iconst (v := -1) hx hb dX0_appendSet_70 (by decide) ?_
    refine lv_icmp_ne (tgt := 81) hx hb dX0_appendSet_71 (by decide) (fun _ => ?_) (fun c => absurd c (zn_nm1 (n := j) (by omega)))
    refine lv_aload_n hx hb dX0_appendSet_81 rfl (lv_at hl 2 rfl) ?_
    refine va_get (D := D) (ci := 0) (v := .ref gc) (C := RX0) (T := TX0) (N := 10) hx hb hts mu_X0 hown hK hP 0 rfl rfl 7 (by decide) (hts _ (List.mem_cons_of_mem _ mw_39)) (fun _ h9 => h9) rfl dX0_appendSet_82 ?_
    refine lv_iload hx hb dX0_appendSet_85 (lv_at hl 1 rfl) ?_
    refine rk_iald hx hb hK hP 6 0 rfl rfl (i := j) (by omega) (by decide) dX0_appendSet_87 ?_
    refine rk_iast hx hb hK hP hD hS 6 0 rfl rfl (i := n) (by omega) (by decide) dX0_appendSet_88 (fun H locs hP hD hS => ?_)
    have hP : va_P D vwCl [(g0, .inr (0, [.int (nI r), .int (nI (n + 1)), .ref gk, .ref gr, .ref gs, .ref gv, .ref gw, .ref gc, .ref gp, .ref gb])), (gk, .inl (cI, 300, .inl (upd kf n key))), (gr, .inl (cI, 300, .inl (upd rf n (nI r)))), (gs, .inl (cZ, 300, .inl (upd sf n (nI 1)))), (gv, .inl (cJ, 300, .inr (.inl (vp_updL vf n v)))), (gw, .inl (cI, 300, .inl (upd wf n (wf j + nI 1)))), (gc, .inl (cI, 300, .inl (upd cf n (cf j)))), (gp, .inl (cI, 300, .inl (upd (upd pf j (nI r)) n (nI 301)))), (gb, .inl (cI, 300, .inl u_15))] H := hP
    have hD : va_D A [(g0, .inr (0, [.int (nI r), .int (nI (n + 1)), .ref gk, .ref gr, .ref gs, .ref gv, .ref gw, .ref gc, .ref gp, .ref gb])), (gk, .inl (cI, 300, .inl (upd kf n key))), (gr, .inl (cI, 300, .inl (upd rf n (nI r)))), (gs, .inl (cZ, 300, .inl (upd sf n (nI 1)))), (gv, .inl (cJ, 300, .inr (.inl (vp_updL vf n v)))), (gw, .inl (cI, 300, .inl (upd wf n (wf j + nI 1)))), (gc, .inl (cI, 300, .inl (upd cf n (cf j)))), (gp, .inl (cI, 300, .inl (upd (upd pf j (nI r)) n (nI 301)))), (gb, .inl (cI, 300, .inl u_15))] := hD
    exact rw_retv (u := ((upd (upd pf j (nI r)) n (nI 301)), u_15, (upd wf n (wf j + nI 1)), (upd cf n (cf j)))) hAe (hP) (hD) hS hK (⟨hw_15, by first | exact Or.inl ⟨hw_6, rfl, rfl, rfl⟩ | exact Or.inr ⟨j, hj, hw_6, rfl, rfl, rfl⟩⟩) (Nat.le_of_ble_eq_true rfl) (Nat.le_of_ble_eq_true rfl) hx hb hr hlocks dX0_appendSet_89
set_option maxHeartbeats 4000000 in
set_option maxRecDepth 100000 in
theorem c_X0_appendRemoval (l : Launch) (D : va_G) (cI cJ cZ : ClassId) (sz : Nat) (g0 gk gr gs gv gw gc gp gb r n : Nat) (kf rf sf : Nat → Int32) (vf : Nat → Int64) (wf cf pf bf : Nat → Int32) (bn : Nat → Nat) (hn : n ≤ 300) (hr3 : r ≤ 300) (hbn : ∀ q, q < n → bf q = nI (bn q) ∧ bn q < n) (key : Int32) (hroom : (∃ j, j < n ∧ (kf j = key ∧ hld sf rf pf j (nI r))) → n < 300) : Met l yX0_appendRemoval (Cond.code yX0_appendRemoval cX0_appendRemoval 3 none :: wB) ({ frames := 2, cells := 0, slots := 0, locals := 45 } : Room) (rw_Pc D cI cJ cZ sz [.ref g0, .int key] [(g0, .inr (0, [.int (nI r), .int (nI n), .ref gk, .ref gr, .ref gs, .ref gv, .ref gw, .ref gc, .ref gp, .ref gb])), (gk, .inl (cI, 300, .inl kf)), (gr, .inl (cI, 300, .inl rf)), (gs, .inl (cZ, 300, .inl sf)), (gv, .inl (cJ, 300, .inr (.inl vf))), (gw, .inl (cI, 300, .inl wf)), (gc, .inl (cI, 300, .inl cf)), (gp, .inl (cI, 300, .inl pf)), (gb, .inl (cI, 300, .inl bf))]) (rw_Qv (S := Nat × (Nat → Int32) × (Nat → Int32) × (Nat → Int32) × (Nat → Int32)) D cI cJ cZ sz [(g0, .inr (0, [.int (nI r), .int (nI n), .ref gk, .ref gr, .ref gs, .ref gv, .ref gw, .ref gc, .ref gp, .ref gb])), (gk, .inl (cI, 300, .inl kf)), (gr, .inl (cI, 300, .inl rf)), (gs, .inl (cZ, 300, .inl sf)), (gv, .inl (cJ, 300, .inr (.inl vf))), (gw, .inl (cI, 300, .inl wf)), (gc, .inl (cI, 300, .inl cf)), (gp, .inl (cI, 300, .inl pf)), (gb, .inl (cI, 300, .inl bf))] (fun u => [(g0, .inr (0, [.int (nI r), .int (nI u.1), .ref gk, .ref gr, .ref gs, .ref gv, .ref gw, .ref gc, .ref gp, .ref gb])), (gk, .inl (cI, 300, .inl u.2.1)), (gr, .inl (cI, 300, .inl u.2.2.1)), (gs, .inl (cZ, 300, .inl sf)), (gv, .inl (cJ, 300, .inr (.inl vf))), (gw, .inl (cI, 300, .inl wf)), (gc, .inl (cI, 300, .inl cf)), (gp, .inl (cI, 300, .inl u.2.2.2.1)), (gb, .inl (cI, 300, .inl u.2.2.2.2))]) (fun u => (u = (n, kf, rf, pf, bf) ∧ ∀ j, j < n → ¬ (kf j = key ∧ hld sf rf pf j (nI r))) ∨ (u.1 = n + 1 ∧ u.2.1 = upd kf n key ∧ u.2.2.1 = upd rf n (nI r) ∧ srt (upd kf n key) bn u.2.2.2.2 n ∧ ∃ j, j < n ∧ (kf j = key ∧ hld sf rf pf j (nI r)) ∧ u.2.2.2.1 = upd (upd pf j (nI r)) n (nI 301)))) 0 0 (va_A [(g0, .inr (0, [.int (nI r), .int (nI n), .ref gk, .ref gr, .ref gs, .ref gv, .ref gw, .ref gc, .ref gp, .ref gb])), (gk, .inl (cI, 300, .inl kf)), (gr, .inl (cI, 300, .inl rf)), (gs, .inl (cZ, 300, .inl sf)), (gv, .inl (cJ, 300, .inr (.inl vf))), (gw, .inl (cI, 300, .inl wf)), (gc, .inl (cI, 300, .inl cf)), (gp, .inl (cI, 300, .inl pf)), (gb, .inl (cI, 300, .inl bf))] sz) := by
  refine Met.ofW (cc := cX0_appendRemoval) (maxL := 3) (ret := none) (by decide) rfl ?_
  intro p e s m args below meth c s₁ B hml hv
  obtain ⟨rfl, hsz, hP, hK, hD0⟩ := hv
  have hx := B.exec
  have hb := B.bytes
  have hr := B.returns
  have hts := atoms_spec (ws := (Cond.code yX0_appendRemoval cX0_appendRemoval 3 none :: wB)) B.pre
  have hown : s.vm.findClass RX0 = some m.cls := findClass_of_methodNamed B.named
  have hlocks := B.notSynchronized
  subst hsz
  have hD := hD0.self (sz := s.heap.size)
  obtain ⟨A, hAe⟩ : ∃ A, A = va_A [(g0, .inr (0, [.int (nI r), .int (nI n), .ref gk, .ref gr, .ref gs, .ref gv, .ref gw, .ref gc, .ref gp, .ref gb])), (gk, .inl (cI, 300, .inl kf)), (gr, .inl (cI, 300, .inl rf)), (gs, .inl (cZ, 300, .inl sf)), (gv, .inl (cJ, 300, .inr (.inl vf))), (gw, .inl (cI, 300, .inl wf)), (gc, .inl (cI, 300, .inl cf)), (gp, .inl (cI, 300, .inl pf)), (gb, .inl (cI, 300, .inl bf))] s.heap.size := ⟨_, rfl⟩
  rw [← hAe] at hD
  have hA : ∀ q : Nat, s.heap.size ≤ q → A q := fun q h => by rw [hAe]; exact Or.inr h
  have hS : va_S A s.heap s.heap [] := va_S.rf
  have hl := lv_entry ([.ref g0, .int key]) (n := 3) (Nat.le_of_ble_eq_true rfl)
  rw [lg_entry_eq]
  generalize (lg_sl ([.ref g0, .int key]) ++ List.replicate (3 - (lg_sl ([.ref g0, .int key])).length) Slot.unset).toArray = ls at hl ⊢
  have hl : lv_has ls 3 [(0, .ref g0), (1, .int key)] := hl
  refine lv_aload_n hx hb dX0_appendRemoval_0 rfl (lv_at hl 0 rfl) ?_
  refine lv_iload_n hx hb dX0_appendRemoval_1 rfl (lv_at hl 1 rfl) ?_
  refine lv_aload_n hx hb dX0_appendRemoval_2 rfl (lv_at hl 0 rfl) ?_
  refine va_get (D := D) (ci := 0) (v := .int (nI r)) (C := RX0) (T := TX0) (N := 10) hx hb hts mu_X0 hown hK hP 0 rfl rfl 0 (by decide) (hts _ (List.mem_cons_of_mem _ mw_27)) (fun _ h9 => h9) rfl dX0_appendRemoval_3 ?_
  refine ro_callVi (As := [.int key, .int (nI r)]) (rest := []) ⟨hx, hb, hml, hown, hts⟩ (c_X0_find l D cI cJ cZ g0 gk gr gs gv gw gc gp gb r n kf rf sf vf wf cf pf bf (by omega) key (nI r)) (cwV 2 hts (wB_V mw_221 mw_222 mw_223 mw_2 mw_224) rfl rfl rfl (by decide +kernel) ⟨Nat.le_of_ble_eq_true rfl, Nat.le_of_ble_eq_true rfl⟩) (va_recv hK hP (ci := 0) (q0 := 0) rfl rfl) (hP.sub (ws' := [(g0, .inr (0, [.int (nI r), .int (nI n), .ref gk, .ref gr, .ref gs, .ref gv, .ref gw, .ref gc, .ref gp, .ref gb])), (gk, .inl (cI, 300, .inl kf)), (gr, .inl (cI, 300, .inl rf)), (gs, .inl (cZ, 300, .inl sf)), (gv, .inl (cJ, 300, .inr (.inl vf))), (gw, .inl (cI, 300, .inl wf)), (gc, .inl (cI, 300, .inl cf)), (gp, .inl (cI, 300, .inl pf)), (gb, .inl (cI, 300, .inl bf))]) [0, 1, 2, 3, 4, 5, 6, 7, 8] rfl) hK rfl hl.1 (Nat.le_of_ble_eq_true rfl) ⟨Nat.le_of_ble_eq_true rfl, Nat.le_of_ble_eq_true rfl⟩ rfl dX0_appendRemoval_6 (fun r_6 hw_6 => ?_)
  try dsimp only at hw_6
  rcases hw_6 with ⟨rfl, hw_6⟩ | ⟨j, hj, rfl, hw_6, hq⟩
  · skip
    refine lv_istore_n (lv' := [(2, .int (-1)), (0, .ref g0), (1, .int key)]) hx hb dX0_appendRemoval_9 rfl hl (by decide) rfl (fun ls hl => ?_)
    refine lv_iload_n hx hb dX0_appendRemoval_10 rfl (lv_at hl 0 rfl) ?_
    refine lv_iconst (v := -1) hx hb dX0_appendRemoval_11 (by decide) ?_
    refine lv_icmp_eq (tgt := 22) hx hb dX0_appendRemoval_12 (by decide) (fun _ => ?_) (fun c => absurd (by decide) c)
    exact rw_retv (u := (n, kf, rf, pf, bf)) hAe (hP) (hD) hS hK (by first | exact Or.inl ⟨rfl, hw_6⟩ | exact Or.inr ⟨rfl, rfl, rfl, hw_18, j, hj, hw_6, rfl⟩) (Nat.le_of_ble_eq_true rfl) (Nat.le_of_ble_eq_true rfl) hx hb hr hlocks dX0_appendRemoval_22
  · have hn3 := hroom ⟨j, hj, hw_6⟩
    refine lv_istore_n (lv' := [(2, .int (nI j)), (0, .ref g0), (1, .int key)]) hx hb dX0_appendRemoval_9 rfl hl (by decide) rfl (fun ls hl => ?_)
    refine lv_iload_n hx hb dX0_appendRemoval_10 rfl (lv_at hl 0 rfl) ?_
    refine lv_iconst (v := -1) hx hb dX0_appendRemoval_11 (by decide) ?_
    refine lv_icmp_eq (tgt := 22) hx hb dX0_appendRemoval_12 (by decide) (fun c => absurd c (zn_nm1 (n := j) (by omega))) (fun _ => ?_)
    refine lv_aload_n hx hb dX0_appendRemoval_15 rfl (lv_at hl 1 rfl) ?_
    refine lv_iload_n hx hb dX0_appendRemoval_16 rfl (lv_at hl 2 rfl) ?_
    refine lv_iload_n hx hb dX0_appendRemoval_17 rfl (lv_at hl 0 rfl) ?_
    refine rw_callVi (wr := []) (As := [.int key, .int (nI j)]) (rest := []) ⟨hx, hb, hml, hown, hts⟩ (c_X0_append1 l D cI cJ cZ s.heap.size g0 gk gr gs gv gw gc gp gb r n kf rf sf vf wf cf pf bf bn (by omega) (by omega) (hbn) key j (by omega)) (cwV 2 hts (wB_V mw_225 mw_227 ms_3 mw_2 mw_228) rfl rfl rfl (by decide +kernel) ⟨Nat.le_of_ble_eq_true rfl, Nat.le_of_ble_eq_true rfl⟩) (va_recv hK hP (ci := 0) (q0 := 0) rfl rfl) hK hP hD hS hA [0, 1, 2, 3, 4, 5, 6, 7, 8] [] rfl rfl rfl (by decide) (by decide) (by decide) rfl hl.1 (Nat.le_of_ble_eq_true rfl) ⟨Nat.le_of_ble_eq_true rfl, Nat.le_of_ble_eq_true rfl⟩ rfl dX0_appendRemoval_18 (fun r_18 u_18 H locs hw_18 hP hD hS => ?_)
    try dsimp only at hw_18
    have hP : va_P D vwCl [(g0, .inr (0, [.int (nI r), .int (nI (n + 1)), .ref gk, .ref gr, .ref gs, .ref gv, .ref gw, .ref gc, .ref gp, .ref gb])), (gk, .inl (cI, 300, .inl (upd kf n key))), (gr, .inl (cI, 300, .inl (upd rf n (nI r)))), (gs, .inl (cZ, 300, .inl sf)), (gv, .inl (cJ, 300, .inr (.inl vf))), (gw, .inl (cI, 300, .inl wf)), (gc, .inl (cI, 300, .inl cf)), (gp, .inl (cI, 300, .inl (upd (upd pf j (nI r)) n (nI 301)))), (gb, .inl (cI, 300, .inl u_18))] H := hP.sub [0, 1, 2, 3, 4, 5, 6, 7, 8] rfl
    have hD : va_D A [(g0, .inr (0, [.int (nI r), .int (nI (n + 1)), .ref gk, .ref gr, .ref gs, .ref gv, .ref gw, .ref gc, .ref gp, .ref gb])), (gk, .inl (cI, 300, .inl (upd kf n key))), (gr, .inl (cI, 300, .inl (upd rf n (nI r)))), (gs, .inl (cZ, 300, .inl sf)), (gv, .inl (cJ, 300, .inr (.inl vf))), (gw, .inl (cI, 300, .inl wf)), (gc, .inl (cI, 300, .inl cf)), (gp, .inl (cI, 300, .inl (upd (upd pf j (nI r)) n (nI 301)))), (gb, .inl (cI, 300, .inl u_18))] := hD.sub [0, 1, 2, 3, 4, 5, 6, 7, 8] (by decide) rfl
    obtain ⟨rfl, hw_18⟩ := hw_18
    refine lv_pop hx hb dX0_appendRemoval_21 rfl ?_
    exact rw_retv (u := ((n + 1), (upd kf n key), (upd rf n (nI r)), (upd (upd pf j (nI r)) n (nI 301)), u_18)) hAe (hP) (hD) hS hK (by first | exact Or.inl ⟨rfl, hw_6⟩ | exact Or.inr ⟨rfl, rfl, rfl, hw_18, j, hj, hw_6, rfl⟩) (Nat.le_of_ble_eq_true rfl) (Nat.le_of_ble_eq_true rfl) hx hb hr hlocks dX0_appendRemoval_22
set_option maxHeartbeats 4000000 in
set_option maxRecDepth 100000 in
theorem c_X0_init (l : Launch) (D : va_G) (cI cJ cZ : ClassId) (sz : Nat) (g0 : Nat) : Met l yX0_init (Cond.code yX0_init cX0_init 1 none :: wB) ({ frames := 1, cells := 8, slots := 2400, locals := 12 } : Room) (rw_Pc D cI cJ cZ sz [.ref g0] [(g0, .inr (0, [.int 0, .int 0, .null, .null, .null, .null, .null, .null, .null, .null]))]) (rw_Qv (S := Nat × Nat × Nat × Nat × Nat × Nat × Nat × Nat) D cI cJ cZ sz [(g0, .inr (0, [.int 0, .int 0, .null, .null, .null, .null, .null, .null, .null, .null]))] (fun u => [(g0, .inr (0, [.int (nI 0), .int (nI 0), .ref u.1, .ref u.2.1, .ref u.2.2.1, .ref u.2.2.2.1, .ref u.2.2.2.2.1, .ref u.2.2.2.2.2.1, .ref u.2.2.2.2.2.2.1, .ref u.2.2.2.2.2.2.2])), (u.1, .inl (cI, 300, .inl (fun _ => 0))), (u.2.1, .inl (cI, 300, .inl (fun _ => 0))), (u.2.2.1, .inl (cZ, 300, .inl (fun _ => 0))), (u.2.2.2.1, .inl (cJ, 300, .inr (.inl (fun _ => 0)))), (u.2.2.2.2.1, .inl (cI, 300, .inl (fun _ => 0))), (u.2.2.2.2.2.1, .inl (cI, 300, .inl (fun _ => 0))), (u.2.2.2.2.2.2.1, .inl (cI, 300, .inl (fun _ => 0))), (u.2.2.2.2.2.2.2, .inl (cI, 300, .inl (fun _ => 0)))]) (fun _ => True)) 8 2400 (va_A [(g0, .inr (0, [.int 0, .int 0, .null, .null, .null, .null, .null, .null, .null, .null]))] sz) := by
  refine Met.ofW (cc := cX0_init) (maxL := 1) (ret := none) (by decide) rfl ?_
  intro p e s m args below meth c s₁ B hml hv
  obtain ⟨rfl, hsz, hP, hK, hD0⟩ := hv
  have hx := B.exec
  have hb := B.bytes
  have hr := B.returns
  have hts := atoms_spec (ws := (Cond.code yX0_init cX0_init 1 none :: wB)) B.pre
  have hown : s.vm.findClass RX0 = some m.cls := findClass_of_methodNamed B.named
  have hlocks := B.notSynchronized
  have hin : meth.name = "<init>" := (name_of_methodNamed B.named B.method).1
  subst hsz
  have hD := hD0.self (sz := s.heap.size)
  obtain ⟨A, hAe⟩ : ∃ A, A = va_A [(g0, .inr (0, [.int 0, .int 0, .null, .null, .null, .null, .null, .null, .null, .null]))] s.heap.size := ⟨_, rfl⟩
  rw [← hAe] at hD
  have hA : ∀ q : Nat, s.heap.size ≤ q → A q := fun q h => by rw [hAe]; exact Or.inr h
  have hS : va_S A s.heap s.heap [] := va_S.rf
  have hl := lv_entry ([.ref g0]) (n := 1) (Nat.le_of_ble_eq_true rfl)
  rw [lg_entry_eq]
  generalize (lg_sl ([.ref g0]) ++ List.replicate (1 - (lg_sl ([.ref g0])).length) Slot.unset).toArray = ls at hl ⊢
  have hl : lv_has ls 1 [(0, .ref g0)] := hl
  refine lv_aload_n hx hb dX0_init_0 rfl (lv_at hl 0 rfl) ?_
  refine W.objInit hx hb hown (hts _ (List.mem_cons_of_mem _ mw_26)) (hts _ (List.mem_cons_of_mem _ mw_19)) (hts _ (List.mem_cons_of_mem _ mw_20)) rfl (by rw [hml]; exact hl.1) rfl dX0_init_1 (Nat.le_of_ble_eq_true rfl) (Nat.le_of_ble_eq_true rfl) ?_
  refine W.eq (g2 := F0 m 4 ls []) rfl ?_
  refine lv_aload_n hx hb dX0_init_4 rfl (lv_at hl 0 rfl) ?_
  refine lv_iconst (v := nI 0) hx hb dX0_init_5 (by decide) ?_
  refine va_put (D := D) (ci := 0) (v := .int (nI 0)) (ty := .int) (C := RX0) (T := TX0) (N := 10) hx hb hts mu_X0 tyX0 tyX0_ok nmX0 hown hK hP hD hS 0 rfl rfl 0 (by decide) (hts _ (List.mem_cons_of_mem _ mw_27)) (fun _ h9 => h9) rfl (by decide +kernel) rfl rfl (Nat.le_of_ble_eq_true rfl) dX0_init_6 (fun H locs hP hD hS => ?_)
  have hP : va_P D vwCl [(g0, .inr (0, [.int (nI 0), .int 0, .null, .null, .null, .null, .null, .null, .null, .null]))] H := hP
  have hD : va_D A [(g0, .inr (0, [.int (nI 0), .int 0, .null, .null, .null, .null, .null, .null, .null, .null]))] := hD
  refine lv_aload_n hx hb dX0_init_9 rfl (lv_at hl 0 rfl) ?_
  refine lv_iconst (v := nI 0) hx hb dX0_init_10 (by decide) ?_
  refine va_put (D := D) (ci := 0) (v := .int (nI 0)) (ty := .int) (C := RX0) (T := TX0) (N := 10) hx hb hts mu_X0 tyX0 tyX0_ok nmX0 hown hK hP hD hS 0 rfl rfl 1 (by decide) (hts _ (List.mem_cons_of_mem _ mw_30)) (fun _ h9 => h9) rfl (by decide +kernel) rfl rfl (Nat.le_of_ble_eq_true rfl) dX0_init_11 (fun H locs hP hD hS => ?_)
  have hP : va_P D vwCl [(g0, .inr (0, [.int (nI 0), .int (nI 0), .null, .null, .null, .null, .null, .null, .null, .null]))] H := hP
  have hD : va_D A [(g0, .inr (0, [.int (nI 0), .int (nI 0), .null, .null, .null, .null, .null, .null, .null, .null]))] := hD
  refine lv_aload_n hx hb dX0_init_14 rfl (lv_at hl 0 rfl) ?_
  refine lv_sipush (v := nI 300) hx hb dX0_init_15 (by decide) ?_
  refine rk_newaI hx hb (hts _ (List.mem_cons_of_mem _ mw_63)) hK hP hD hS hA (N := 300) (by decide) (Nat.le_of_ble_eq_true rfl) (Nat.le_of_ble_eq_true rfl) dX0_init_18 (fun q18 H hP hD hS => ?_)
  have hP : va_P D vwCl [(g0, .inr (0, [.int (nI 0), .int (nI 0), .null, .null, .null, .null, .null, .null, .null, .null])), (q18, .inl (cI, 300, .inl (fun _ => 0)))] H := hP
  have hD : va_D A [(g0, .inr (0, [.int (nI 0), .int (nI 0), .null, .null, .null, .null, .null, .null, .null, .null])), (q18, .inl (cI, 300, .inl (fun _ => 0)))] := hD
  refine W.widen (k := 1) (n := 300) (Nat.le_of_ble_eq_true rfl) (Nat.le_of_ble_eq_true rfl) ?_
  refine va_putF (D := D) (ci := 0) (v := .ref q18) (ty := .array .int) (C := RX0) (T := TX0) (N := 10) hx hb hts mu_X0 tyX0 tyX0_ok nmX0 hown hK hP hD hS 0 rfl rfl 2 (by decide) (hts _ (List.mem_cons_of_mem _ mw_32)) (fun _ h9 => h9) rfl hin rfl (by decide +kernel) rfl rfl (Nat.le_of_ble_eq_true rfl) dX0_init_20 (fun H locs hP hD hS => ?_)
  have hP : va_P D vwCl [(g0, .inr (0, [.int (nI 0), .int (nI 0), .ref q18, .null, .null, .null, .null, .null, .null, .null])), (q18, .inl (cI, 300, .inl (fun _ => 0)))] H := hP
  have hD : va_D A [(g0, .inr (0, [.int (nI 0), .int (nI 0), .ref q18, .null, .null, .null, .null, .null, .null, .null])), (q18, .inl (cI, 300, .inl (fun _ => 0)))] := hD
  refine lv_aload_n hx hb dX0_init_23 rfl (lv_at hl 0 rfl) ?_
  refine lv_sipush (v := nI 300) hx hb dX0_init_24 (by decide) ?_
  refine rk_newaI hx hb (hts _ (List.mem_cons_of_mem _ mw_63)) hK hP hD hS hA (N := 300) (by decide) (Nat.le_of_ble_eq_true rfl) (Nat.le_of_ble_eq_true rfl) dX0_init_27 (fun q27 H hP hD hS => ?_)
  have hP : va_P D vwCl [(g0, .inr (0, [.int (nI 0), .int (nI 0), .ref q18, .null, .null, .null, .null, .null, .null, .null])), (q18, .inl (cI, 300, .inl (fun _ => 0))), (q27, .inl (cI, 300, .inl (fun _ => 0)))] H := hP
  have hD : va_D A [(g0, .inr (0, [.int (nI 0), .int (nI 0), .ref q18, .null, .null, .null, .null, .null, .null, .null])), (q18, .inl (cI, 300, .inl (fun _ => 0))), (q27, .inl (cI, 300, .inl (fun _ => 0)))] := hD
  refine W.widen (k := 2) (n := 600) (Nat.le_of_ble_eq_true rfl) (Nat.le_of_ble_eq_true rfl) ?_
  refine va_putF (D := D) (ci := 0) (v := .ref q27) (ty := .array .int) (C := RX0) (T := TX0) (N := 10) hx hb hts mu_X0 tyX0 tyX0_ok nmX0 hown hK hP hD hS 0 rfl rfl 3 (by decide) (hts _ (List.mem_cons_of_mem _ mw_34)) (fun _ h9 => h9) rfl hin rfl (by decide +kernel) rfl rfl (Nat.le_of_ble_eq_true rfl) dX0_init_29 (fun H locs hP hD hS => ?_)
  have hP : va_P D vwCl [(g0, .inr (0, [.int (nI 0), .int (nI 0), .ref q18, .ref q27, .null, .null, .null, .null, .null, .null])), (q18, .inl (cI, 300, .inl (fun _ => 0))), (q27, .inl (cI, 300, .inl (fun _ => 0)))] H := hP
  have hD : va_D A [(g0, .inr (0, [.int (nI 0), .int (nI 0), .ref q18, .ref q27, .null, .null, .null, .null, .null, .null])), (q18, .inl (cI, 300, .inl (fun _ => 0))), (q27, .inl (cI, 300, .inl (fun _ => 0)))] := hD
  refine lv_aload_n hx hb dX0_init_32 rfl (lv_at hl 0 rfl) ?_
  refine lv_sipush (v := nI 300) hx hb dX0_init_33 (by decide) ?_
  refine rk_newaZ hx hb (hts _ (List.mem_cons_of_mem _ mw_64)) hK hP hD hS hA (N := 300) (by decide) (Nat.le_of_ble_eq_true rfl) (Nat.le_of_ble_eq_true rfl) dX0_init_36 (fun q36 H hP hD hS => ?_)
  have hP : va_P D vwCl [(g0, .inr (0, [.int (nI 0), .int (nI 0), .ref q18, .ref q27, .null, .null, .null, .null, .null, .null])), (q18, .inl (cI, 300, .inl (fun _ => 0))), (q27, .inl (cI, 300, .inl (fun _ => 0))), (q36, .inl (cZ, 300, .inl (fun _ => 0)))] H := hP
  have hD : va_D A [(g0, .inr (0, [.int (nI 0), .int (nI 0), .ref q18, .ref q27, .null, .null, .null, .null, .null, .null])), (q18, .inl (cI, 300, .inl (fun _ => 0))), (q27, .inl (cI, 300, .inl (fun _ => 0))), (q36, .inl (cZ, 300, .inl (fun _ => 0)))] := hD
  refine W.widen (k := 3) (n := 900) (Nat.le_of_ble_eq_true rfl) (Nat.le_of_ble_eq_true rfl) ?_
  refine va_putF (D := D) (ci := 0) (v := .ref q36) (ty := .array .boolean) (C := RX0) (T := TX0) (N := 10) hx hb hts mu_X0 tyX0 tyX0_ok nmX0 hown hK hP hD hS 0 rfl rfl 4 (by decide) (hts _ (List.mem_cons_of_mem _ mw_35)) (fun _ h9 => h9) rfl hin rfl (by decide +kernel) rfl rfl (Nat.le_of_ble_eq_true rfl) dX0_init_38 (fun H locs hP hD hS => ?_)
  have hP : va_P D vwCl [(g0, .inr (0, [.int (nI 0), .int (nI 0), .ref q18, .ref q27, .ref q36, .null, .null, .null, .null, .null])), (q18, .inl (cI, 300, .inl (fun _ => 0))), (q27, .inl (cI, 300, .inl (fun _ => 0))), (q36, .inl (cZ, 300, .inl (fun _ => 0)))] H := hP
  have hD : va_D A [(g0, .inr (0, [.int (nI 0), .int (nI 0), .ref q18, .ref q27, .ref q36, .null, .null, .null, .null, .null])), (q18, .inl (cI, 300, .inl (fun _ => 0))), (q27, .inl (cI, 300, .inl (fun _ => 0))), (q36, .inl (cZ, 300, .inl (fun _ => 0)))] := hD
  refine lv_aload_n hx hb dX0_init_41 rfl (lv_at hl 0 rfl) ?_
  refine lv_sipush (v := nI 300) hx hb dX0_init_42 (by decide) ?_
  refine rk_newaJ hx hb (hts _ (List.mem_cons_of_mem _ mw_65)) hK hP hD hS hA (N := 300) (by decide) (Nat.le_of_ble_eq_true rfl) (Nat.le_of_ble_eq_true rfl) dX0_init_45 (fun q45 H hP hD hS => ?_)
  have hP : va_P D vwCl [(g0, .inr (0, [.int (nI 0), .int (nI 0), .ref q18, .ref q27, .ref q36, .null, .null, .null, .null, .null])), (q18, .inl (cI, 300, .inl (fun _ => 0))), (q27, .inl (cI, 300, .inl (fun _ => 0))), (q36, .inl (cZ, 300, .inl (fun _ => 0))), (q45, .inl (cJ, 300, .inr (.inl (fun _ => 0))))] H := hP
  have hD : va_D A [(g0, .inr (0, [.int (nI 0), .int (nI 0), .ref q18, .ref q27, .ref q36, .null, .null, .null, .null, .null])), (q18, .inl (cI, 300, .inl (fun _ => 0))), (q27, .inl (cI, 300, .inl (fun _ => 0))), (q36, .inl (cZ, 300, .inl (fun _ => 0))), (q45, .inl (cJ, 300, .inr (.inl (fun _ => 0))))] := hD
  refine W.widen (k := 4) (n := 1200) (Nat.le_of_ble_eq_true rfl) (Nat.le_of_ble_eq_true rfl) ?_
  refine va_putF (D := D) (ci := 0) (v := .ref q45) (ty := .array .long) (C := RX0) (T := TX0) (N := 10) hx hb hts mu_X0 tyX0 tyX0_ok nmX0 hown hK hP hD hS 0 rfl rfl 5 (by decide) (hts _ (List.mem_cons_of_mem _ mw_36)) (fun _ h9 => h9) rfl hin rfl (by decide +kernel) rfl rfl (Nat.le_of_ble_eq_true rfl) dX0_init_47 (fun H locs hP hD hS => ?_)
  have hP : va_P D vwCl [(g0, .inr (0, [.int (nI 0), .int (nI 0), .ref q18, .ref q27, .ref q36, .ref q45, .null, .null, .null, .null])), (q18, .inl (cI, 300, .inl (fun _ => 0))), (q27, .inl (cI, 300, .inl (fun _ => 0))), (q36, .inl (cZ, 300, .inl (fun _ => 0))), (q45, .inl (cJ, 300, .inr (.inl (fun _ => 0))))] H := hP
  have hD : va_D A [(g0, .inr (0, [.int (nI 0), .int (nI 0), .ref q18, .ref q27, .ref q36, .ref q45, .null, .null, .null, .null])), (q18, .inl (cI, 300, .inl (fun _ => 0))), (q27, .inl (cI, 300, .inl (fun _ => 0))), (q36, .inl (cZ, 300, .inl (fun _ => 0))), (q45, .inl (cJ, 300, .inr (.inl (fun _ => 0))))] := hD
  refine lv_aload_n hx hb dX0_init_50 rfl (lv_at hl 0 rfl) ?_
  refine lv_sipush (v := nI 300) hx hb dX0_init_51 (by decide) ?_
  refine rk_newaI hx hb (hts _ (List.mem_cons_of_mem _ mw_63)) hK hP hD hS hA (N := 300) (by decide) (Nat.le_of_ble_eq_true rfl) (Nat.le_of_ble_eq_true rfl) dX0_init_54 (fun q54 H hP hD hS => ?_)
  have hP : va_P D vwCl [(g0, .inr (0, [.int (nI 0), .int (nI 0), .ref q18, .ref q27, .ref q36, .ref q45, .null, .null, .null, .null])), (q18, .inl (cI, 300, .inl (fun _ => 0))), (q27, .inl (cI, 300, .inl (fun _ => 0))), (q36, .inl (cZ, 300, .inl (fun _ => 0))), (q45, .inl (cJ, 300, .inr (.inl (fun _ => 0)))), (q54, .inl (cI, 300, .inl (fun _ => 0)))] H := hP
  have hD : va_D A [(g0, .inr (0, [.int (nI 0), .int (nI 0), .ref q18, .ref q27, .ref q36, .ref q45, .null, .null, .null, .null])), (q18, .inl (cI, 300, .inl (fun _ => 0))), (q27, .inl (cI, 300, .inl (fun _ => 0))), (q36, .inl (cZ, 300, .inl (fun _ => 0))), (q45, .inl (cJ, 300, .inr (.inl (fun _ => 0)))), (q54, .inl (cI, 300, .inl (fun _ => 0)))] := hD
  refine W.widen (k := 5) (n := 1500) (Nat.le_of_ble_eq_true rfl) (Nat.le_of_ble_eq_true rfl) ?_
  refine va_putF (D := D) (ci := 0) (v := .ref q54) (ty := .array .int) (C := RX0) (T := TX0) (N := 10) hx hb hts mu_X0 tyX0 tyX0_ok nmX0 hown hK hP hD hS 0 rfl rfl 6 (by decide) (hts _ (List.mem_cons_of_mem _ mw_38)) (fun _ h9 => h9) rfl hin rfl (by decide +kernel) rfl rfl (Nat.le_of_ble_eq_true rfl) dX0_init_56 (fun H locs hP hD hS => ?_)
  have hP : va_P D vwCl [(g0, .inr (0, [.int (nI 0), .int (nI 0), .ref q18, .ref q27, .ref q36, .ref q45, .ref q54, .null, .null, .null])), (q18, .inl (cI, 300, .inl (fun _ => 0))), (q27, .inl (cI, 300, .inl (fun _ => 0))), (q36, .inl (cZ, 300, .inl (fun _ => 0))), (q45, .inl (cJ, 300, .inr (.inl (fun _ => 0)))), (q54, .inl (cI, 300, .inl (fun _ => 0)))] H := hP
  have hD : va_D A [(g0, .inr (0, [.int (nI 0), .int (nI 0), .ref q18, .ref q27, .ref q36, .ref q45, .ref q54, .null, .null, .null])), (q18, .inl (cI, 300, .inl (fun _ => 0))), (q27, .inl (cI, 300, .inl (fun _ => 0))), (q36, .inl (cZ, 300, .inl (fun _ => 0))), (q45, .inl (cJ, 300, .inr (.inl (fun _ => 0)))), (q54, .inl (cI, 300, .inl (fun _ => 0)))] := hD
  refine lv_aload_n hx hb dX0_init_59 rfl (lv_at hl 0 rfl) ?_
  refine lv_sipush (v := nI 300) hx hb dX0_init_60 (by decide) ?_
  refine rk_newaI hx hb (hts _ (List.mem_cons_of_mem _ mw_63)) hK hP hD hS hA (N := 300) (by decide) (Nat.le_of_ble_eq_true rfl) (Nat.le_of_ble_eq_true rfl) dX0_init_63 (fun q63 H hP hD hS => ?_)
  have hP : va_P D vwCl [(g0, .inr (0, [.int (nI 0), .int (nI 0), .ref q18, .ref q27, .ref q36, .ref q45, .ref q54, .null, .null, .null])), (q18, .inl (cI, 300, .inl (fun _ => 0))), (q27, .inl (cI, 300, .inl (fun _ => 0))), (q36, .inl (cZ, 300, .inl (fun _ => 0))), (q45, .inl (cJ, 300, .inr (.inl (fun _ => 0)))), (q54, .inl (cI, 300, .inl (fun _ => 0))), (q63, .inl (cI, 300, .inl (fun _ => 0)))] H := hP
  have hD : va_D A [(g0, .inr (0, [.int (nI 0), .int (nI 0), .ref q18, .ref q27, .ref q36, .ref q45, .ref q54, .null, .null, .null])), (q18, .inl (cI, 300, .inl (fun _ => 0))), (q27, .inl (cI, 300, .inl (fun _ => 0))), (q36, .inl (cZ, 300, .inl (fun _ => 0))), (q45, .inl (cJ, 300, .inr (.inl (fun _ => 0)))), (q54, .inl (cI, 300, .inl (fun _ => 0))), (q63, .inl (cI, 300, .inl (fun _ => 0)))] := hD
  refine W.widen (k := 6) (n := 1800) (Nat.le_of_ble_eq_true rfl) (Nat.le_of_ble_eq_true rfl) ?_
  refine va_putF (D := D) (ci := 0) (v := .ref q63) (ty := .array .int) (C := RX0) (T := TX0) (N := 10) hx hb hts mu_X0 tyX0 tyX0_ok nmX0 hown hK hP hD hS 0 rfl rfl 7 (by decide) (hts _ (List.mem_cons_of_mem _ mw_39)) (fun _ h9 => h9) rfl hin rfl (by decide +kernel) rfl rfl (Nat.le_of_ble_eq_true rfl) dX0_init_65 (fun H locs hP hD hS => ?_)
  have hP : va_P D vwCl [(g0, .inr (0, [.int (nI 0), .int (nI 0), .ref q18, .ref q27, .ref q36, .ref q45, .ref q54, .ref q63, .null, .null])), (q18, .inl (cI, 300, .inl (fun _ => 0))), (q27, .inl (cI, 300, .inl (fun _ => 0))), (q36, .inl (cZ, 300, .inl (fun _ => 0))), (q45, .inl (cJ, 300, .inr (.inl (fun _ => 0)))), (q54, .inl (cI, 300, .inl (fun _ => 0))), (q63, .inl (cI, 300, .inl (fun _ => 0)))] H := hP
  have hD : va_D A [(g0, .inr (0, [.int (nI 0), .int (nI 0), .ref q18, .ref q27, .ref q36, .ref q45, .ref q54, .ref q63, .null, .null])), (q18, .inl (cI, 300, .inl (fun _ => 0))), (q27, .inl (cI, 300, .inl (fun _ => 0))), (q36, .inl (cZ, 300, .inl (fun _ => 0))), (q45, .inl (cJ, 300, .inr (.inl (fun _ => 0)))), (q54, .inl (cI, 300, .inl (fun _ => 0))), (q63, .inl (cI, 300, .inl (fun _ => 0)))] := hD
  refine lv_aload_n hx hb dX0_init_68 rfl (lv_at hl 0 rfl) ?_
  refine lv_sipush (v := nI 300) hx hb dX0_init_69 (by decide) ?_
  refine rk_newaI hx hb (hts _ (List.mem_cons_of_mem _ mw_63)) hK hP hD hS hA (N := 300) (by decide) (Nat.le_of_ble_eq_true rfl) (Nat.le_of_ble_eq_true rfl) dX0_init_72 (fun q72 H hP hD hS => ?_)
  have hP : va_P D vwCl [(g0, .inr (0, [.int (nI 0), .int (nI 0), .ref q18, .ref q27, .ref q36, .ref q45, .ref q54, .ref q63, .null, .null])), (q18, .inl (cI, 300, .inl (fun _ => 0))), (q27, .inl (cI, 300, .inl (fun _ => 0))), (q36, .inl (cZ, 300, .inl (fun _ => 0))), (q45, .inl (cJ, 300, .inr (.inl (fun _ => 0)))), (q54, .inl (cI, 300, .inl (fun _ => 0))), (q63, .inl (cI, 300, .inl (fun _ => 0))), (q72, .inl (cI, 300, .inl (fun _ => 0)))] H := hP
  have hD : va_D A [(g0, .inr (0, [.int (nI 0), .int (nI 0), .ref q18, .ref q27, .ref q36, .ref q45, .ref q54, .ref q63, .null, .null])), (q18, .inl (cI, 300, .inl (fun _ => 0))), (q27, .inl (cI, 300, .inl (fun _ => 0))), (q36, .inl (cZ, 300, .inl (fun _ => 0))), (q45, .inl (cJ, 300, .inr (.inl (fun _ => 0)))), (q54, .inl (cI, 300, .inl (fun _ => 0))), (q63, .inl (cI, 300, .inl (fun _ => 0))), (q72, .inl (cI, 300, .inl (fun _ => 0)))] := hD
  refine W.widen (k := 7) (n := 2100) (Nat.le_of_ble_eq_true rfl) (Nat.le_of_ble_eq_true rfl) ?_
  refine va_putF (D := D) (ci := 0) (v := .ref q72) (ty := .array .int) (C := RX0) (T := TX0) (N := 10) hx hb hts mu_X0 tyX0 tyX0_ok nmX0 hown hK hP hD hS 0 rfl rfl 8 (by decide) (hts _ (List.mem_cons_of_mem _ mw_40)) (fun _ h9 => h9) rfl hin rfl (by decide +kernel) rfl rfl (Nat.le_of_ble_eq_true rfl) dX0_init_74 (fun H locs hP hD hS => ?_)
  have hP : va_P D vwCl [(g0, .inr (0, [.int (nI 0), .int (nI 0), .ref q18, .ref q27, .ref q36, .ref q45, .ref q54, .ref q63, .ref q72, .null])), (q18, .inl (cI, 300, .inl (fun _ => 0))), (q27, .inl (cI, 300, .inl (fun _ => 0))), (q36, .inl (cZ, 300, .inl (fun _ => 0))), (q45, .inl (cJ, 300, .inr (.inl (fun _ => 0)))), (q54, .inl (cI, 300, .inl (fun _ => 0))), (q63, .inl (cI, 300, .inl (fun _ => 0))), (q72, .inl (cI, 300, .inl (fun _ => 0)))] H := hP
  have hD : va_D A [(g0, .inr (0, [.int (nI 0), .int (nI 0), .ref q18, .ref q27, .ref q36, .ref q45, .ref q54, .ref q63, .ref q72, .null])), (q18, .inl (cI, 300, .inl (fun _ => 0))), (q27, .inl (cI, 300, .inl (fun _ => 0))), (q36, .inl (cZ, 300, .inl (fun _ => 0))), (q45, .inl (cJ, 300, .inr (.inl (fun _ => 0)))), (q54, .inl (cI, 300, .inl (fun _ => 0))), (q63, .inl (cI, 300, .inl (fun _ => 0))), (q72, .inl (cI, 300, .inl (fun _ => 0)))] := hD
  refine lv_aload_n hx hb dX0_init_77 rfl (lv_at hl 0 rfl) ?_
  refine lv_sipush (v := nI 300) hx hb dX0_init_78 (by decide) ?_
  refine rk_newaI hx hb (hts _ (List.mem_cons_of_mem _ mw_63)) hK hP hD hS hA (N := 300) (by decide) (Nat.le_of_ble_eq_true rfl) (Nat.le_of_ble_eq_true rfl) dX0_init_81 (fun q81 H hP hD hS => ?_)
  have hP : va_P D vwCl [(g0, .inr (0, [.int (nI 0), .int (nI 0), .ref q18, .ref q27, .ref q36, .ref q45, .ref q54, .ref q63, .ref q72, .null])), (q18, .inl (cI, 300, .inl (fun _ => 0))), (q27, .inl (cI, 300, .inl (fun _ => 0))), (q36, .inl (cZ, 300, .inl (fun _ => 0))), (q45, .inl (cJ, 300, .inr (.inl (fun _ => 0)))), (q54, .inl (cI, 300, .inl (fun _ => 0))), (q63, .inl (cI, 300, .inl (fun _ => 0))), (q72, .inl (cI, 300, .inl (fun _ => 0))), (q81, .inl (cI, 300, .inl (fun _ => 0)))] H := hP
  have hD : va_D A [(g0, .inr (0, [.int (nI 0), .int (nI 0), .ref q18, .ref q27, .ref q36, .ref q45, .ref q54, .ref q63, .ref q72, .null])), (q18, .inl (cI, 300, .inl (fun _ => 0))), (q27, .inl (cI, 300, .inl (fun _ => 0))), (q36, .inl (cZ, 300, .inl (fun _ => 0))), (q45, .inl (cJ, 300, .inr (.inl (fun _ => 0)))), (q54, .inl (cI, 300, .inl (fun _ => 0))), (q63, .inl (cI, 300, .inl (fun _ => 0))), (q72, .inl (cI, 300, .inl (fun _ => 0))), (q81, .inl (cI, 300, .inl (fun _ => 0)))] := hD
  refine W.widen (k := 8) (n := 2400) (Nat.le_of_ble_eq_true rfl) (Nat.le_of_ble_eq_true rfl) ?_
  refine va_putF (D := D) (ci := 0) (v := .ref q81) (ty := .array .int) (C := RX0) (T := TX0) (N := 10) hx hb hts mu_X0 tyX0 tyX0_ok nmX0 hown hK hP hD hS 0 rfl rfl 9 (by decide) (hts _ (List.mem_cons_of_mem _ mw_41)) (fun _ h9 => h9) rfl hin rfl (by decide +kernel) rfl rfl (Nat.le_of_ble_eq_true rfl) dX0_init_83 (fun H locs hP hD hS => ?_)
  have hP : va_P D vwCl [(g0, .inr (0, [.int (nI 0), .int (nI 0), .ref q18, .ref q27, .ref q36, .ref q45, .ref q54, .ref q63, .ref q72, .ref q81])), (q18, .inl (cI, 300, .inl (fun _ => 0))), (q27, .inl (cI, 300, .inl (fun _ => 0))), (q36, .inl (cZ, 300, .inl (fun _ => 0))), (q45, .inl (cJ, 300, .inr (.inl (fun _ => 0)))), (q54, .inl (cI, 300, .inl (fun _ => 0))), (q63, .inl (cI, 300, .inl (fun _ => 0))), (q72, .inl (cI, 300, .inl (fun _ => 0))), (q81, .inl (cI, 300, .inl (fun _ => 0)))] H := hP
  have hD : va_D A [(g0, .inr (0, [.int (nI 0), .int (nI 0), .ref q18, .ref q27, .ref q36, .ref q45, .ref q54, .ref q63, .ref q72, .ref q81])), (q18, .inl (cI, 300, .inl (fun _ => 0))), (q27, .inl (cI, 300, .inl (fun _ => 0))), (q36, .inl (cZ, 300, .inl (fun _ => 0))), (q45, .inl (cJ, 300, .inr (.inl (fun _ => 0)))), (q54, .inl (cI, 300, .inl (fun _ => 0))), (q63, .inl (cI, 300, .inl (fun _ => 0))), (q72, .inl (cI, 300, .inl (fun _ => 0))), (q81, .inl (cI, 300, .inl (fun _ => 0)))] := hD
  exact rw_retv (u := (q18, q27, q36, q45, q54, q63, q72, q81)) hAe (hP) (hD) hS hK (trivial) (Nat.le_of_ble_eq_true rfl) (Nat.le_of_ble_eq_true rfl) hx hb hr hlocks dX0_init_86
