set_option maxHeartbeats 4000000 in
set_option maxRecDepth 100000 in
theorem c_X11_dueOf (l : Launch) (G : hcG) (h0 : Nat) (a_w : Nat) (a_kept : Nat) (a_laid : Nat) (a_refusals : Nat) (a_row : Nat) (a_letters : Nat) (a_hit : Nat) (a_lead : Nat) (a_defeat : Nat) (a_defeater : Nat) (a_order : Nat) (a_is : Nat) (a_was : Nat) (a_depths : Nat) (a_ways : Nat) (sz : Nat) (s_hasImage : Int32) (s_rows : Int32) (s_lettered : Int32) (s_ins : Int32) (s_outs : Int32) (s_ordered : Int32) (s_reading : Int32) (s_isWell : Int32) (s_z : Int32) (g_w : Nat → Int32) (g_row : Nat → Int32) (g_defeater : Nat → Int32) (x1 : Int32) (post : Int32 → Prop) (h : wp_X11_dueOf post g_w g_row s_rows g_defeater x1) : Met l yX11_dueOf wsX11_dueOf ({ frames := 2, cells := 0, slots := 0, locals := 42 }) (hcPc G [.ref h0, .int x1] [ceX11 h0 a_w a_kept a_laid s_hasImage a_refusals a_row s_rows a_letters s_lettered a_hit a_lead a_defeat a_defeater s_ins s_outs a_order s_ordered a_is a_was s_reading s_isWell a_depths a_ways s_z, caI G a_w 43 g_w, caI G a_row 12 g_row, caI G a_defeater 8 g_defeater] sz) (va_Qi (fun (r : Int32) (u : Unit) => post r) (hcB G (va_A [ceX11 h0 a_w a_kept a_laid s_hasImage a_refusals a_row s_rows a_letters s_lettered a_hit a_lead a_defeat a_defeater s_ins s_outs a_order s_ordered a_is a_was s_reading s_isWell a_depths a_ways s_z, caI G a_w 43 g_w, caI G a_row 12 g_row, caI G a_defeater 8 g_defeater] sz) (fun u : Unit => [ceX11 h0 a_w a_kept a_laid s_hasImage a_refusals a_row s_rows a_letters s_lettered a_hit a_lead a_defeat a_defeater s_ins s_outs a_order s_ordered a_is a_was s_reading s_isWell a_depths a_ways s_z, caI G a_w 43 g_w, caI G a_row 12 g_row, caI G a_defeater 8 g_defeater])) (va_A [ceX11 h0 a_w a_kept a_laid s_hasImage a_refusals a_row s_rows a_letters s_lettered a_hit a_lead a_defeat a_defeater s_ins s_outs a_order s_ordered a_is a_was s_reading s_isWell a_depths a_ways s_z, caI G a_w 43 g_w, caI G a_row 12 g_row, caI G a_defeater 8 g_defeater] sz)) 0 0 (va_A [ceX11 h0 a_w a_kept a_laid s_hasImage a_refusals a_row s_rows a_letters s_lettered a_hit a_lead a_defeat a_defeater s_ins s_outs a_order s_ordered a_is a_was s_reading s_isWell a_depths a_ways s_z, caI G a_w 43 g_w, caI G a_row 12 g_row, caI G a_defeater 8 g_defeater] sz) := by
  refine Met.ofW (cc := cX11_dueOf) (maxL := 5) (ret := (some .int)) (by decide) rfl ?_
  intro p e s m args below meth c s₁ B hml hv
  obtain ⟨rfl, hsz, hP, hK, hD0⟩ := hv
  have hx := B.exec
  have hb := B.bytes
  have hr := B.returns
  have hts := atoms_spec (ws := wsX11_dueOf) B.pre
  have hown : s.vm.findClass RX11 = some m.cls := findClass_of_methodNamed B.named
  have hlocks := B.notSynchronized
  subst hsz
  have hD := hD0.self (sz := s.heap.size)
  generalize hAe : va_A [ceX11 h0 a_w a_kept a_laid s_hasImage a_refusals a_row s_rows a_letters s_lettered a_hit a_lead a_defeat a_defeater s_ins s_outs a_order s_ordered a_is a_was s_reading s_isWell a_depths a_ways s_z, caI G a_w 43 g_w, caI G a_row 12 g_row, caI G a_defeater 8 g_defeater] s.heap.size = A at hD ⊢
  have hA : ∀ q : Nat, s.heap.size ≤ q → A q := fun q h => by rw [← hAe]; exact Or.inr h
  have hS : va_S A s.heap s.heap [] := va_S.rf
  have hP : va_P G.1 vwCl [ceX11 h0 a_w a_kept a_laid s_hasImage a_refusals a_row s_rows a_letters s_lettered a_hit a_lead a_defeat a_defeater s_ins s_outs a_order s_ordered a_is a_was s_reading s_isWell a_depths a_ways s_z, caI G a_w 43 g_w, caI G a_row 12 g_row, caI G a_defeater 8 g_defeater] s.heap := hP
  have hl := lv_entry ([.ref h0, .int x1]) (n := 5) (Nat.le_of_ble_eq_true rfl)
  rw [lg_entry_eq]
  generalize (lg_sl ([.ref h0, .int x1]) ++ List.replicate (5 - (lg_sl ([.ref h0, .int x1])).length) Slot.unset).toArray = ls at hl ⊢
  have hl : lv_has ls 5 [(0, .ref h0), (1, .int x1)] := hl
  have kf0 := hts (.fieldLink RX11 9 "HallOfClaimsModel" "w" "[I") (List.mem_of_getElem? (i := 1) (by decide +kernel))
  have kf1 := hts (.fieldLink RX11 37 "HallOfClaimsModel" "defeater" "[I") (List.mem_of_getElem? (i := 2) (by decide +kernel))
  have ki_X11 : ∀ w ∈ u_ws RX11 TX11 24, w ∈ wsX11_dueOf := by decide +kernel
  have w61 : ∀ (K17 : Int32 → Int32 → Int32 → Prop), (∀ (v2 : Int32) (v3 : Int32) (v4 : Int32) , K17 v2 v3 v4 → ∀ (H : Heap) (locs : List Loc) (ls : Array Slot), va_P G.1 vwCl [ceX11 h0 a_w a_kept a_laid s_hasImage a_refusals a_row s_rows a_letters s_lettered a_hit a_lead a_defeat a_defeater s_ins s_outs a_order s_ordered a_is a_was s_reading s_isWell a_depths a_ways s_z, caI G a_w 43 g_w, caI G a_row 12 g_row, caI G a_defeater 8 g_defeater] H → va_D A [ceX11 h0 a_w a_kept a_laid s_hasImage a_refusals a_row s_rows a_letters s_lettered a_hit a_lead a_defeat a_defeater s_ins s_outs a_order s_ordered a_is a_was s_reading s_isWell a_depths a_ways s_z, caI G a_w 43 g_w, caI G a_row 12 g_row, caI G a_defeater 8 g_defeater] → va_S A s.heap H locs → lv_has ls 5 [(0, .ref h0), (1, .int x1), (2, .int v2), (3, .int v3), (4, .int v4)] → W p l e (headSpec wsX11_dueOf ({ frames := 2, cells := 0, slots := 0, locals := 42 })).room s m ([.ref h0, .int x1] : List Value).toArray below meth c H locs 0 0 (MQ below (va_Qi (fun (r : Int32) (u : Unit) => post r) (hcB G A (fun u : Unit => [ceX11 h0 a_w a_kept a_laid s_hasImage a_refusals a_row s_rows a_letters s_lettered a_hit a_lead a_defeat a_defeater s_ins s_outs a_order s_ordered a_is a_was s_reading s_isWell a_depths a_ways s_z, caI G a_w 43 g_w, caI G a_row 12 g_row, caI G a_defeater 8 g_defeater])) A) ([.ref h0, .int x1] : List Value).toArray s 0 0 A) (F0 m 17 ls [])) → ∀ (v3 : Int32) (v4 : Int32) (t0 : Int32) , wp_X11_dueOf_61 post g_w g_row s_rows g_defeater x1 K17 v3 v4 t0 → ∀ (H : Heap) (locs : List Loc) (ls : Array Slot), va_P G.1 vwCl [ceX11 h0 a_w a_kept a_laid s_hasImage a_refusals a_row s_rows a_letters s_lettered a_hit a_lead a_defeat a_defeater s_ins s_outs a_order s_ordered a_is a_was s_reading s_isWell a_depths a_ways s_z, caI G a_w 43 g_w, caI G a_row 12 g_row, caI G a_defeater 8 g_defeater] H → va_D A [ceX11 h0 a_w a_kept a_laid s_hasImage a_refusals a_row s_rows a_letters s_lettered a_hit a_lead a_defeat a_defeater s_ins s_outs a_order s_ordered a_is a_was s_reading s_isWell a_depths a_ways s_z, caI G a_w 43 g_w, caI G a_row 12 g_row, caI G a_defeater 8 g_defeater] → va_S A s.heap H locs → lv_has ls 5 [(0, .ref h0), (1, .int x1), (3, .int v3), (4, .int v4)] → W p l e (headSpec wsX11_dueOf ({ frames := 2, cells := 0, slots := 0, locals := 42 })).room s m ([.ref h0, .int x1] : List Value).toArray below meth c H locs 0 0 (MQ below (va_Qi (fun (r : Int32) (u : Unit) => post r) (hcB G A (fun u : Unit => [ceX11 h0 a_w a_kept a_laid s_hasImage a_refusals a_row s_rows a_letters s_lettered a_hit a_lead a_defeat a_defeater s_ins s_outs a_order s_ordered a_is a_was s_reading s_isWell a_depths a_ways s_z, caI G a_w 43 g_w, caI G a_row 12 g_row, caI G a_defeater 8 g_defeater])) A) ([.ref h0, .int x1] : List Value).toArray s 0 0 A) (F0 m 61 ls [.int t0]) := by
    intro K17 hK17 v3 v4 t0 h H locs ls hP hD hS hl
    unfold wp_X11_dueOf_61 at h
    refine lv_istore_n (lv' := [(2, .int t0), (0, .ref h0), (1, .int x1), (3, .int v3), (4, .int v4)]) hx hb dX11_dueOf_61 rfl hl (by decide) rfl (fun ls hl => ?_)
    refine lv_iload_n hx hb dX11_dueOf_62 rfl (lv_at hl 3 rfl) ?_
    refine lv_if_ne (tgt := 90) hx hb dX11_dueOf_63 (by decide) (fun c => ?_) (fun c => ?_)
    · replace h := h.1 c
      refine lv_iconst (v := nI 1) hx hb dX11_dueOf_90 kc_1 ?_
      refine lv_goto (tgt := 95) hx hb dX11_dueOf_91 (by decide) ?_
      refine lv_istore_n (lv' := [(3, .int (nI 1)), (2, .int t0), (0, .ref h0), (1, .int x1), (4, .int v4)]) hx hb dX11_dueOf_95 rfl hl (by decide) rfl (fun ls hl => ?_)
      refine lv_iinc (v := v4 + nI 1) (lv' := [(4, .int (v4 + nI 1)), (3, .int (nI 1)), (2, .int t0), (0, .ref h0), (1, .int x1)]) hx hb dX11_dueOf_96 hl (k := 4) rfl (congrArg (fun q => v4 + q) kc_1) (by decide) rfl (fun ls hl => ?_)
      refine lv_goto (tgt := 17) hx hb dX11_dueOf_99 (by decide) ?_
      exact hK17 t0 (nI 1) (v4 + nI 1) h _ _ _ hP hD hS (lv_sub hl [3, 4, 2, 1, 0] rfl)
    · replace h := h.2 c
      refine lv_aload_n hx hb dX11_dueOf_66 rfl (lv_at hl 1 rfl) ?_
      refine va_get (D := G.1) (ci := 9) (v := .ref a_defeater) (C := RX11) (T := TX11) (N := 24) hx hb hts ki_X11 hown hK.1 hP 0 rfl rfl 12 (by decide) kf1 (fun _ h9 => h9) rfl dX11_dueOf_67 ?_
      refine lv_iload_n hx hb dX11_dueOf_70 rfl (lv_at hl 2 rfl) ?_
      have hin := h.1
      replace h := h.2
      refine va_iald hx hb hK.1 hP 3 0 rfl rfl hin dX11_dueOf_71 ?_
      refine lv_iload hx hb dX11_dueOf_72 (lv_at hl 4 rfl) ?_
      refine hc_ki (wr := [ceX11 h0 a_w a_kept a_laid s_hasImage a_refusals a_row s_rows a_letters s_lettered a_hit a_lead a_defeat a_defeater s_ins s_outs a_order s_ordered a_is a_was s_reading s_isWell a_depths a_ways s_z, caI G a_w 43 g_w, caI G a_row 12 g_row, caI G a_defeater 8 g_defeater]) (va_runS (As := [.int (g_defeater x1.toNatClampNeg), .int v4]) (rest := []) ⟨hx, hb, hml, hown, hts⟩ (c_X11_has l G H.size (g_defeater x1.toNatClampNeg) v4 _ h) (va_cwS 2 hts gX11_dueOf_X11_has rfl rfl rfl (by decide +kernel) ⟨Nat.le_of_ble_eq_true rfl, Nat.le_of_ble_eq_true rfl⟩) (hc_pS hK hP hD [] rfl rfl) rfl rfl hl.1 rfl (lv_room (Nat.le_of_ble_eq_true rfl)) dX11_dueOf_74 ⟨Nat.le_refl _, Nat.le_refl _⟩) hP hD hS hA [] [0, 1, 2, 3] rfl rfl rfl (by decide) (fun r74 u H locs h hP hD hS => ?_)
      try dsimp only at h
      have hP : va_P G.1 vwCl [ceX11 h0 a_w a_kept a_laid s_hasImage a_refusals a_row s_rows a_letters s_lettered a_hit a_lead a_defeat a_defeater s_ins s_outs a_order s_ordered a_is a_was s_reading s_isWell a_depths a_ways s_z, caI G a_w 43 g_w, caI G a_row 12 g_row, caI G a_defeater 8 g_defeater] H := hP
      have hD : va_D A [ceX11 h0 a_w a_kept a_laid s_hasImage a_refusals a_row s_rows a_letters s_lettered a_hit a_lead a_defeat a_defeater s_ins s_outs a_order s_ordered a_is a_was s_reading s_isWell a_depths a_ways s_z, caI G a_w 43 g_w, caI G a_row 12 g_row, caI G a_defeater 8 g_defeater] := hD
      refine lv_if_eq (tgt := 94) hx hb dX11_dueOf_77 (by decide) (fun c => ?_) (fun c => ?_)
      · replace h := h.1 c
        refine lv_iconst (v := nI 0) hx hb dX11_dueOf_94 kc_0 ?_
        refine lv_istore_n (lv' := [(3, .int (nI 0)), (2, .int t0), (0, .ref h0), (1, .int x1), (4, .int v4)]) hx hb dX11_dueOf_95 rfl hl (by decide) rfl (fun ls hl => ?_)
        refine lv_iinc (v := v4 + nI 1) (lv' := [(4, .int (v4 + nI 1)), (3, .int (nI 0)), (2, .int t0), (0, .ref h0), (1, .int x1)]) hx hb dX11_dueOf_96 hl (k := 4) rfl (congrArg (fun q => v4 + q) kc_1) (by decide) rfl (fun ls hl => ?_)
        refine lv_goto (tgt := 17) hx hb dX11_dueOf_99 (by decide) ?_
        exact hK17 t0 (nI 0) (v4 + nI 1) h _ _ _ hP hD hS (lv_sub hl [3, 4, 2, 1, 0] rfl)
      · replace h := h.2 c
        refine lv_aload_n hx hb dX11_dueOf_80 rfl (lv_at hl 1 rfl) ?_
        refine lv_iload hx hb dX11_dueOf_81 (lv_at hl 4 rfl) ?_
        refine hc_ki (wr := [caI G a_w 43 g_w, caI G a_defeater 8 g_defeater]) (va_runV (As := [.int v4]) (rest := []) ⟨hx, hb, hml, hown, hts⟩ (c_X11_toldOf l G h0 a_w a_kept a_laid a_refusals a_row a_letters a_hit a_lead a_defeat a_defeater a_order a_is a_was a_depths a_ways H.size s_hasImage s_rows s_lettered s_ins s_outs s_ordered s_reading s_isWell s_z g_row v4 _ h) (cwV 1 hts gX11_dueOf_X11_toldOf rfl rfl rfl (by decide +kernel) ⟨Nat.le_of_ble_eq_true rfl, Nat.le_of_ble_eq_true rfl⟩) (hc_pV hK hP hD [0, 2] rfl rfl (ci := 9) 0 rfl rfl) rfl rfl hl.1 rfl (lv_room (Nat.le_of_ble_eq_true rfl)) dX11_dueOf_83 ⟨Nat.le_refl _, Nat.le_refl _⟩) hP hD hS hA [0, 2] [1, 3] rfl rfl rfl (by decide) (fun r83 u H locs h hP hD hS => ?_)
        try dsimp only at h
        have hP : va_P G.1 vwCl [caI G a_w 43 g_w, caI G a_defeater 8 g_defeater, ceX11 h0 a_w a_kept a_laid s_hasImage a_refusals a_row s_rows a_letters s_lettered a_hit a_lead a_defeat a_defeater s_ins s_outs a_order s_ordered a_is a_was s_reading s_isWell a_depths a_ways s_z, caI G a_row 12 g_row] H := hP
        have hD : va_D A [caI G a_w 43 g_w, caI G a_defeater 8 g_defeater, ceX11 h0 a_w a_kept a_laid s_hasImage a_refusals a_row s_rows a_letters s_lettered a_hit a_lead a_defeat a_defeater s_ins s_outs a_order s_ordered a_is a_was s_reading s_isWell a_depths a_ways s_z, caI G a_row 12 g_row] := hD
        refine lv_iconst (v := nI 1) hx hb dX11_dueOf_86 kc_1 ?_
        refine lv_icmp_ne (tgt := 94) hx hb dX11_dueOf_87 (by decide) (fun c => ?_) (fun c => ?_)
        · replace h := h.1 c
          refine lv_iconst (v := nI 0) hx hb dX11_dueOf_94 kc_0 ?_
          refine lv_istore_n (lv' := [(3, .int (nI 0)), (2, .int t0), (0, .ref h0), (1, .int x1), (4, .int v4)]) hx hb dX11_dueOf_95 rfl hl (by decide) rfl (fun ls hl => ?_)
          refine lv_iinc (v := v4 + nI 1) (lv' := [(4, .int (v4 + nI 1)), (3, .int (nI 0)), (2, .int t0), (0, .ref h0), (1, .int x1)]) hx hb dX11_dueOf_96 hl (k := 4) rfl (congrArg (fun q => v4 + q) kc_1) (by decide) rfl (fun ls hl => ?_)
          refine lv_goto (tgt := 17) hx hb dX11_dueOf_99 (by decide) ?_
          exact hK17 t0 (nI 0) (v4 + nI 1) h _ _ _ (hP.sub [2, 0, 3, 1] rfl) (hD.sub [2, 0, 3, 1] (by decide) rfl) hS (lv_sub hl [3, 4, 2, 1, 0] rfl)
        · replace h := h.2 c
          refine lv_iconst (v := nI 1) hx hb dX11_dueOf_90 kc_1 ?_
          refine lv_goto (tgt := 95) hx hb dX11_dueOf_91 (by decide) ?_
          refine lv_istore_n (lv' := [(3, .int (nI 1)), (2, .int t0), (0, .ref h0), (1, .int x1), (4, .int v4)]) hx hb dX11_dueOf_95 rfl hl (by decide) rfl (fun ls hl => ?_)
          refine lv_iinc (v := v4 + nI 1) (lv' := [(4, .int (v4 + nI 1)), (3, .int (nI 1)), (2, .int t0), (0, .ref h0), (1, .int x1)]) hx hb dX11_dueOf_96 hl (k := 4) rfl (congrArg (fun q => v4 + q) kc_1) (by decide) rfl (fun ls hl => ?_)
          refine lv_goto (tgt := 17) hx hb dX11_dueOf_99 (by decide) ?_
          exact hK17 t0 (nI 1) (v4 + nI 1) h _ _ _ (hP.sub [2, 0, 3, 1] rfl) (hD.sub [2, 0, 3, 1] (by decide) rfl) hS (lv_sub hl [3, 4, 2, 1, 0] rfl)
  have w17 : ∀ (n : Nat) (v2 : Int32) (v3 : Int32) (v4 : Int32) , wp_X11_dueOf_17 post g_w g_row s_rows g_defeater x1 n v2 v3 v4 → ∀ (H : Heap) (locs : List Loc) (ls : Array Slot), va_P G.1 vwCl [ceX11 h0 a_w a_kept a_laid s_hasImage a_refusals a_row s_rows a_letters s_lettered a_hit a_lead a_defeat a_defeater s_ins s_outs a_order s_ordered a_is a_was s_reading s_isWell a_depths a_ways s_z, caI G a_w 43 g_w, caI G a_row 12 g_row, caI G a_defeater 8 g_defeater] H → va_D A [ceX11 h0 a_w a_kept a_laid s_hasImage a_refusals a_row s_rows a_letters s_lettered a_hit a_lead a_defeat a_defeater s_ins s_outs a_order s_ordered a_is a_was s_reading s_isWell a_depths a_ways s_z, caI G a_w 43 g_w, caI G a_row 12 g_row, caI G a_defeater 8 g_defeater] → va_S A s.heap H locs → lv_has ls 5 [(0, .ref h0), (1, .int x1), (2, .int v2), (3, .int v3), (4, .int v4)] → W p l e (headSpec wsX11_dueOf ({ frames := 2, cells := 0, slots := 0, locals := 42 })).room s m ([.ref h0, .int x1] : List Value).toArray below meth c H locs 0 0 (MQ below (va_Qi (fun (r : Int32) (u : Unit) => post r) (hcB G A (fun u : Unit => [ceX11 h0 a_w a_kept a_laid s_hasImage a_refusals a_row s_rows a_letters s_lettered a_hit a_lead a_defeat a_defeater s_ins s_outs a_order s_ordered a_is a_was s_reading s_isWell a_depths a_ways s_z, caI G a_w 43 g_w, caI G a_row 12 g_row, caI G a_defeater 8 g_defeater])) A) ([.ref h0, .int x1] : List Value).toArray s 0 0 A) (F0 m 17 ls []) := by
    intro n
    induction n with
    | zero => intro v2 v3 v4 h; exact h.elim
    | succ n ih =>
      intro v2 v3 v4 h H locs ls hP hD hS hl
      unfold wp_X11_dueOf_17 at h
      refine lv_iload hx hb dX11_dueOf_17 (lv_at hl 4 rfl) ?_
      refine lv_aload_n hx hb dX11_dueOf_19 rfl (lv_at hl 0 rfl) ?_
      refine va_get (D := G.1) (ci := 9) (v := .ref a_w) (C := RX11) (T := TX11) (N := 24) hx hb hts ki_X11 hown hK.1 hP 0 rfl rfl 0 (by decide) kf0 (fun _ h9 => h9) rfl dX11_dueOf_20 ?_
      refine lv_bipush (v := nI 42) hx hb dX11_dueOf_23 kb_42 ?_
      have hin := h.1
      replace h := h.2
      refine va_iald hx hb hK.1 hP 1 0 rfl rfl hin dX11_dueOf_25 ?_
      refine lv_icmp_ge (tgt := 102) hx hb dX11_dueOf_26 (by decide) (fun c => ?_) (fun c => ?_)
      · replace h := h.1 c
        refine lv_iload_n hx hb dX11_dueOf_102 rfl (lv_at hl 2 rfl) ?_
        refine lv_if_eq (tgt := 110) hx hb dX11_dueOf_103 (by decide) (fun c => ?_) (fun c => ?_)
        · replace h := h.1 c
          refine lv_iload_n hx hb dX11_dueOf_110 rfl (lv_at hl 3 rfl) ?_
          refine lv_if_eq (tgt := 118) hx hb dX11_dueOf_111 (by decide) (fun c => ?_) (fun c => ?_)
          · replace h := h.1 c
            refine lv_iconst (v := nI 2) hx hb dX11_dueOf_118 kc_2 ?_
            exact W.iret (v := nI 2) hx hb hr (fun t ht hW => ⟨⟨_, (), rfl, h, ⟨by rw [ht]; exact hP, hD⟩⟩, hS.F ht⟩) hS.2.2 dX11_dueOf_119
          · replace h := h.2 c
            refine lv_iconst (v := nI 0) hx hb dX11_dueOf_114 kc_0 ?_
            refine lv_goto (tgt := 119) hx hb dX11_dueOf_115 (by decide) ?_
            exact W.iret (v := nI 0) hx hb hr (fun t ht hW => ⟨⟨_, (), rfl, h, ⟨by rw [ht]; exact hP, hD⟩⟩, hS.F ht⟩) hS.2.2 dX11_dueOf_119
        · replace h := h.2 c
          refine lv_iconst (v := nI 1) hx hb dX11_dueOf_106 kc_1 ?_
          refine lv_goto (tgt := 119) hx hb dX11_dueOf_107 (by decide) ?_
          exact W.iret (v := nI 1) hx hb hr (fun t ht hW => ⟨⟨_, (), rfl, h, ⟨by rw [ht]; exact hP, hD⟩⟩, hS.F ht⟩) hS.2.2 dX11_dueOf_119
      · replace h := h.2 c
        refine lv_iload_n hx hb dX11_dueOf_29 rfl (lv_at hl 2 rfl) ?_
        refine lv_if_eq (tgt := 60) hx hb dX11_dueOf_30 (by decide) (fun c => ?_) (fun c => ?_)
        · replace h := h.1 c
          refine lv_iconst (v := nI 0) hx hb dX11_dueOf_60 kc_0 ?_
          exact w61 ((wp_X11_dueOf_17 post g_w g_row s_rows g_defeater x1 n)) ih v3 v4 (nI 0) h _ _ _ hP hD hS (lv_sub hl [0, 1, 3, 4] rfl)
        · replace h := h.2 c
          refine lv_aload_n hx hb dX11_dueOf_33 rfl (lv_at hl 0 rfl) ?_
          refine va_get (D := G.1) (ci := 9) (v := .ref a_defeater) (C := RX11) (T := TX11) (N := 24) hx hb hts ki_X11 hown hK.1 hP 0 rfl rfl 12 (by decide) kf1 (fun _ h9 => h9) rfl dX11_dueOf_34 ?_
          refine lv_iload_n hx hb dX11_dueOf_37 rfl (lv_at hl 1 rfl) ?_
          have hin := h.1
          replace h := h.2
          refine va_iald hx hb hK.1 hP 3 0 rfl rfl hin dX11_dueOf_38 ?_
          refine lv_iload hx hb dX11_dueOf_39 (lv_at hl 4 rfl) ?_
          refine hc_ki (wr := [ceX11 h0 a_w a_kept a_laid s_hasImage a_refusals a_row s_rows a_letters s_lettered a_hit a_lead a_defeat a_defeater s_ins s_outs a_order s_ordered a_is a_was s_reading s_isWell a_depths a_ways s_z, caI G a_w 43 g_w, caI G a_row 12 g_row, caI G a_defeater 8 g_defeater]) (va_runS (As := [.int (g_defeater x1.toNatClampNeg), .int v4]) (rest := []) ⟨hx, hb, hml, hown, hts⟩ (c_X11_has l G H.size (g_defeater x1.toNatClampNeg) v4 _ h) (va_cwS 2 hts gX11_dueOf_X11_has rfl rfl rfl (by decide +kernel) ⟨Nat.le_of_ble_eq_true rfl, Nat.le_of_ble_eq_true rfl⟩) (hc_pS hK hP hD [] rfl rfl) rfl rfl hl.1 rfl (lv_room (Nat.le_of_ble_eq_true rfl)) dX11_dueOf_41 ⟨Nat.le_refl _, Nat.le_refl _⟩) hP hD hS hA [] [0, 1, 2, 3] rfl rfl rfl (by decide) (fun r41 u H locs h hP hD hS => ?_)
          try dsimp only at h
          have hP : va_P G.1 vwCl [ceX11 h0 a_w a_kept a_laid s_hasImage a_refusals a_row s_rows a_letters s_lettered a_hit a_lead a_defeat a_defeater s_ins s_outs a_order s_ordered a_is a_was s_reading s_isWell a_depths a_ways s_z, caI G a_w 43 g_w, caI G a_row 12 g_row, caI G a_defeater 8 g_defeater] H := hP
          have hD : va_D A [ceX11 h0 a_w a_kept a_laid s_hasImage a_refusals a_row s_rows a_letters s_lettered a_hit a_lead a_defeat a_defeater s_ins s_outs a_order s_ordered a_is a_was s_reading s_isWell a_depths a_ways s_z, caI G a_w 43 g_w, caI G a_row 12 g_row, caI G a_defeater 8 g_defeater] := hD
          refine lv_if_eq (tgt := 56) hx hb dX11_dueOf_44 (by decide) (fun c => ?_) (fun c => ?_)
          · replace h := h.1 c
            refine lv_iconst (v := nI 1) hx hb dX11_dueOf_56 kc_1 ?_
            refine lv_goto (tgt := 61) hx hb dX11_dueOf_57 (by decide) ?_
            exact w61 ((wp_X11_dueOf_17 post g_w g_row s_rows g_defeater x1 n)) ih v3 v4 (nI 1) h _ _ _ hP hD hS (lv_sub hl [0, 1, 3, 4] rfl)
          · replace h := h.2 c
            refine lv_aload_n hx hb dX11_dueOf_47 rfl (lv_at hl 0 rfl) ?_
            refine lv_iload hx hb dX11_dueOf_48 (lv_at hl 4 rfl) ?_
            refine hc_ki (wr := [caI G a_w 43 g_w, caI G a_defeater 8 g_defeater]) (va_runV (As := [.int v4]) (rest := []) ⟨hx, hb, hml, hown, hts⟩ (c_X11_toldOf l G h0 a_w a_kept a_laid a_refusals a_row a_letters a_hit a_lead a_defeat a_defeater a_order a_is a_was a_depths a_ways H.size s_hasImage s_rows s_lettered s_ins s_outs s_ordered s_reading s_isWell s_z g_row v4 _ h) (cwV 1 hts gX11_dueOf_X11_toldOf rfl rfl rfl (by decide +kernel) ⟨Nat.le_of_ble_eq_true rfl, Nat.le_of_ble_eq_true rfl⟩) (hc_pV hK hP hD [0, 2] rfl rfl (ci := 9) 0 rfl rfl) rfl rfl hl.1 rfl (lv_room (Nat.le_of_ble_eq_true rfl)) dX11_dueOf_50 ⟨Nat.le_refl _, Nat.le_refl _⟩) hP hD hS hA [0, 2] [1, 3] rfl rfl rfl (by decide) (fun r50 u H locs h hP hD hS => ?_)
            try dsimp only at h
            have hP : va_P G.1 vwCl [caI G a_w 43 g_w, caI G a_defeater 8 g_defeater, ceX11 h0 a_w a_kept a_laid s_hasImage a_refusals a_row s_rows a_letters s_lettered a_hit a_lead a_defeat a_defeater s_ins s_outs a_order s_ordered a_is a_was s_reading s_isWell a_depths a_ways s_z, caI G a_row 12 g_row] H := hP
            have hD : va_D A [caI G a_w 43 g_w, caI G a_defeater 8 g_defeater, ceX11 h0 a_w a_kept a_laid s_hasImage a_refusals a_row s_rows a_letters s_lettered a_hit a_lead a_defeat a_defeater s_ins s_outs a_order s_ordered a_is a_was s_reading s_isWell a_depths a_ways s_z, caI G a_row 12 g_row] := hD
            refine lv_if_ne (tgt := 60) hx hb dX11_dueOf_53 (by decide) (fun c => ?_) (fun c => ?_)
            · replace h := h.1 c
              refine lv_iconst (v := nI 0) hx hb dX11_dueOf_60 kc_0 ?_
              exact w61 ((wp_X11_dueOf_17 post g_w g_row s_rows g_defeater x1 n)) ih v3 v4 (nI 0) h _ _ _ (hP.sub [2, 0, 3, 1] rfl) (hD.sub [2, 0, 3, 1] (by decide) rfl) hS (lv_sub hl [0, 1, 3, 4] rfl)
            · replace h := h.2 c
              refine lv_iconst (v := nI 1) hx hb dX11_dueOf_56 kc_1 ?_
              refine lv_goto (tgt := 61) hx hb dX11_dueOf_57 (by decide) ?_
              exact w61 ((wp_X11_dueOf_17 post g_w g_row s_rows g_defeater x1 n)) ih v3 v4 (nI 1) h _ _ _ (hP.sub [2, 0, 3, 1] rfl) (hD.sub [2, 0, 3, 1] (by decide) rfl) hS (lv_sub hl [0, 1, 3, 4] rfl)
  unfold wp_X11_dueOf at h
  refine lv_aload_n hx hb dX11_dueOf_0 rfl (lv_at hl 0 rfl) ?_
  refine lv_iload_n hx hb dX11_dueOf_1 rfl (lv_at hl 1 rfl) ?_
  refine hc_ki (wr := [caI G a_row 12 g_row, caI G a_defeater 8 g_defeater]) (va_runV (As := [.int x1]) (rest := []) ⟨hx, hb, hml, hown, hts⟩ (c_X11_isHeard l G h0 a_w a_kept a_laid a_refusals a_row a_letters a_hit a_lead a_defeat a_defeater a_order a_is a_was a_depths a_ways s.heap.size s_hasImage s_rows s_lettered s_ins s_outs s_ordered s_reading s_isWell s_z g_w x1 _ h) (cwV 1 hts gX11_dueOf_X11_isHeard rfl rfl rfl (by decide +kernel) ⟨Nat.le_of_ble_eq_true rfl, Nat.le_of_ble_eq_true rfl⟩) (hc_pV hK hP hD [0, 1] rfl rfl (ci := 9) 0 rfl rfl) rfl rfl hl.1 rfl (lv_room (Nat.le_of_ble_eq_true rfl)) dX11_dueOf_2 ⟨Nat.le_refl _, Nat.le_refl _⟩) hP hD hS hA [0, 1] [2, 3] rfl rfl rfl (by decide) (fun r2 u H locs h hP hD hS => ?_)
  try dsimp only at h
  have hP : va_P G.1 vwCl [caI G a_row 12 g_row, caI G a_defeater 8 g_defeater, ceX11 h0 a_w a_kept a_laid s_hasImage a_refusals a_row s_rows a_letters s_lettered a_hit a_lead a_defeat a_defeater s_ins s_outs a_order s_ordered a_is a_was s_reading s_isWell a_depths a_ways s_z, caI G a_w 43 g_w] H := hP
  have hD : va_D A [caI G a_row 12 g_row, caI G a_defeater 8 g_defeater, ceX11 h0 a_w a_kept a_laid s_hasImage a_refusals a_row s_rows a_letters s_lettered a_hit a_lead a_defeat a_defeater s_ins s_outs a_order s_ordered a_is a_was s_reading s_isWell a_depths a_ways s_z, caI G a_w 43 g_w] := hD
  refine lv_if_ne (tgt := 10) hx hb dX11_dueOf_5 (by decide) (fun c => ?_) (fun c => ?_)
  · replace h := h.1 c
    refine lv_iconst (v := nI 1) hx hb dX11_dueOf_10 kc_1 ?_
    refine lv_istore_n (lv' := [(2, .int (nI 1)), (0, .ref h0), (1, .int x1)]) hx hb dX11_dueOf_11 rfl hl (by decide) rfl (fun ls hl => ?_)
    refine lv_iconst (v := nI 0) hx hb dX11_dueOf_12 kc_0 ?_
    refine lv_istore_n (lv' := [(3, .int (nI 0)), (2, .int (nI 1)), (0, .ref h0), (1, .int x1)]) hx hb dX11_dueOf_13 rfl hl (by decide) rfl (fun ls hl => ?_)
    refine lv_iconst (v := nI 0) hx hb dX11_dueOf_14 kc_0 ?_
    refine lv_istore (lv' := [(4, .int (nI 0)), (3, .int (nI 0)), (2, .int (nI 1)), (0, .ref h0), (1, .int x1)]) hx hb dX11_dueOf_15 hl (by decide) rfl (fun ls hl => ?_)
    obtain ⟨n17, h⟩ := h
    exact w17  n17 (nI 1) (nI 0) (nI 0) h _ _ _ (hP.sub [2, 3, 0, 1] rfl) (hD.sub [2, 3, 0, 1] (by decide) rfl) hS (lv_sub hl [3, 4, 2, 1, 0] rfl)
  · replace h := h.2 c
    refine lv_iconst (v := nI 3) hx hb dX11_dueOf_8 kc_3 ?_
    exact W.iret (v := nI 3) hx hb hr (fun t ht hW => ⟨⟨_, (), rfl, h, ⟨by rw [ht]; exact (hP.sub [2, 3, 0, 1] rfl), (hD.sub [2, 3, 0, 1] (by decide) rfl)⟩⟩, hS.F ht⟩) hS.2.2 dX11_dueOf_9
set_option maxHeartbeats 4000000 in
set_option maxRecDepth 100000 in
theorem c_X11_judged (l : Launch) (G : hcG) (h0 : Nat) (a_w : Nat) (a_kept : Nat) (a_laid : Nat) (a_refusals : Nat) (a_row : Nat) (a_letters : Nat) (a_hit : Nat) (a_lead : Nat) (a_defeat : Nat) (a_defeater : Nat) (a_order : Nat) (a_is : Nat) (a_was : Nat) (a_depths : Nat) (a_ways : Nat) (sz : Nat) (s_hasImage : Int32) (s_rows : Int32) (s_lettered : Int32) (s_ins : Int32) (s_outs : Int32) (s_ordered : Int32) (s_reading : Int32) (s_isWell : Int32) (s_z : Int32) (g_w : Nat → Int32) (g_row : Nat → Int32) (g_hit : Nat → Int32) (g_lead : Nat → Int32) (g_defeat : Nat → Int32) (g_defeater : Nat → Int32) (post : Int32 → (Nat → Int32) → (Nat → Int32) → (Nat → Int32) → (Nat → Int32) → Prop) (h : wp_X11_judged post g_w g_row s_rows g_hit g_lead g_defeat g_defeater) : Met l yX11_judged wsX11_judged ({ frames := 4, cells := 0, slots := 0, locals := 86 }) (hcPc G [.ref h0] [ceX11 h0 a_w a_kept a_laid s_hasImage a_refusals a_row s_rows a_letters s_lettered a_hit a_lead a_defeat a_defeater s_ins s_outs a_order s_ordered a_is a_was s_reading s_isWell a_depths a_ways s_z, caI G a_w 43 g_w, caI G a_row 12 g_row, caI G a_hit 8 g_hit, caI G a_lead 8 g_lead, caI G a_defeat 8 g_defeat, caI G a_defeater 8 g_defeater] sz) (va_Qi (fun (r : Int32) (u : (Nat → Int32) × (Nat → Int32) × (Nat → Int32) × (Nat → Int32)) => post r u.1 u.2.1 u.2.2.1 u.2.2.2) (hcB G (va_A [ceX11 h0 a_w a_kept a_laid s_hasImage a_refusals a_row s_rows a_letters s_lettered a_hit a_lead a_defeat a_defeater s_ins s_outs a_order s_ordered a_is a_was s_reading s_isWell a_depths a_ways s_z, caI G a_w 43 g_w, caI G a_row 12 g_row, caI G a_hit 8 g_hit, caI G a_lead 8 g_lead, caI G a_defeat 8 g_defeat, caI G a_defeater 8 g_defeater] sz) (fun u : (Nat → Int32) × (Nat → Int32) × (Nat → Int32) × (Nat → Int32) => [ceX11 h0 a_w a_kept a_laid s_hasImage a_refusals a_row s_rows a_letters s_lettered a_hit a_lead a_defeat a_defeater s_ins s_outs a_order s_ordered a_is a_was s_reading s_isWell a_depths a_ways s_z, caI G a_w 43 g_w, caI G a_row 12 g_row, caI G a_hit 8 u.1, caI G a_lead 8 u.2.1, caI G a_defeat 8 u.2.2.1, caI G a_defeater 8 u.2.2.2])) (va_A [ceX11 h0 a_w a_kept a_laid s_hasImage a_refusals a_row s_rows a_letters s_lettered a_hit a_lead a_defeat a_defeater s_ins s_outs a_order s_ordered a_is a_was s_reading s_isWell a_depths a_ways s_z, caI G a_w 43 g_w, caI G a_row 12 g_row, caI G a_hit 8 g_hit, caI G a_lead 8 g_lead, caI G a_defeat 8 g_defeat, caI G a_defeater 8 g_defeater] sz)) 0 0 (va_A [ceX11 h0 a_w a_kept a_laid s_hasImage a_refusals a_row s_rows a_letters s_lettered a_hit a_lead a_defeat a_defeater s_ins s_outs a_order s_ordered a_is a_was s_reading s_isWell a_depths a_ways s_z, caI G a_w 43 g_w, caI G a_row 12 g_row, caI G a_hit 8 g_hit, caI G a_lead 8 g_lead, caI G a_defeat 8 g_defeat, caI G a_defeater 8 g_defeater] sz) := by
  refine Met.ofW (cc := cX11_judged) (maxL := 2) (ret := (some .int)) (by decide) rfl ?_
  intro p e s m args below meth c s₁ B hml hv
  obtain ⟨rfl, hsz, hP, hK, hD0⟩ := hv
  have hx := B.exec
  have hb := B.bytes
  have hr := B.returns
  have hts := atoms_spec (ws := wsX11_judged) B.pre
  have hown : s.vm.findClass RX11 = some m.cls := findClass_of_methodNamed B.named
  have hlocks := B.notSynchronized
  subst hsz
  have hD := hD0.self (sz := s.heap.size)
  generalize hAe : va_A [ceX11 h0 a_w a_kept a_laid s_hasImage a_refusals a_row s_rows a_letters s_lettered a_hit a_lead a_defeat a_defeater s_ins s_outs a_order s_ordered a_is a_was s_reading s_isWell a_depths a_ways s_z, caI G a_w 43 g_w, caI G a_row 12 g_row, caI G a_hit 8 g_hit, caI G a_lead 8 g_lead, caI G a_defeat 8 g_defeat, caI G a_defeater 8 g_defeater] s.heap.size = A at hD ⊢
  have hA : ∀ q : Nat, s.heap.size ≤ q → A q := fun q h => by rw [← hAe]; exact Or.inr h
  have hS : va_S A s.heap s.heap [] := va_S.rf
  have hP : va_P G.1 vwCl [ceX11 h0 a_w a_kept a_laid s_hasImage a_refusals a_row s_rows a_letters s_lettered a_hit a_lead a_defeat a_defeater s_ins s_outs a_order s_ordered a_is a_was s_reading s_isWell a_depths a_ways s_z, caI G a_w 43 g_w, caI G a_row 12 g_row, caI G a_hit 8 g_hit, caI G a_lead 8 g_lead, caI G a_defeat 8 g_defeat, caI G a_defeater 8 g_defeater] s.heap := hP
  have hl := lv_entry ([.ref h0]) (n := 2) (Nat.le_of_ble_eq_true rfl)
  rw [lg_entry_eq]
  generalize (lg_sl ([.ref h0]) ++ List.replicate (2 - (lg_sl ([.ref h0])).length) Slot.unset).toArray = ls at hl ⊢
  have hl : lv_has ls 2 [(0, .ref h0)] := hl
  have kf0 := hts (.fieldLink RX11 9 "HallOfClaimsModel" "w" "[I") (List.mem_of_getElem? (i := 1) (by decide +kernel))
  have kf1 := hts (.fieldLink RX11 269 "HallOfClaimsModel" "rows" "I") (List.mem_of_getElem? (i := 2) (by decide +kernel))
  have ki_X11 : ∀ w ∈ u_ws RX11 TX11 24, w ∈ wsX11_judged := by decide +kernel
  have w6 : ∀ (n : Nat) (v1 : Int32) (g_hit : Nat → Int32) (g_lead : Nat → Int32) (g_defeat : Nat → Int32) (g_defeater : Nat → Int32) , wp_X11_judged_6 post g_w g_row s_rows n v1 g_hit g_lead g_defeat g_defeater → ∀ (H : Heap) (locs : List Loc) (ls : Array Slot), va_P G.1 vwCl [ceX11 h0 a_w a_kept a_laid s_hasImage a_refusals a_row s_rows a_letters s_lettered a_hit a_lead a_defeat a_defeater s_ins s_outs a_order s_ordered a_is a_was s_reading s_isWell a_depths a_ways s_z, caI G a_w 43 g_w, caI G a_row 12 g_row, caI G a_hit 8 g_hit, caI G a_lead 8 g_lead, caI G a_defeat 8 g_defeat, caI G a_defeater 8 g_defeater] H → va_D A [ceX11 h0 a_w a_kept a_laid s_hasImage a_refusals a_row s_rows a_letters s_lettered a_hit a_lead a_defeat a_defeater s_ins s_outs a_order s_ordered a_is a_was s_reading s_isWell a_depths a_ways s_z, caI G a_w 43 g_w, caI G a_row 12 g_row, caI G a_hit 8 g_hit, caI G a_lead 8 g_lead, caI G a_defeat 8 g_defeat, caI G a_defeater 8 g_defeater] → va_S A s.heap H locs → lv_has ls 2 [(0, .ref h0), (1, .int v1)] → W p l e (headSpec wsX11_judged ({ frames := 4, cells := 0, slots := 0, locals := 86 })).room s m ([.ref h0] : List Value).toArray below meth c H locs 0 0 (MQ below (va_Qi (fun (r : Int32) (u : (Nat → Int32) × (Nat → Int32) × (Nat → Int32) × (Nat → Int32)) => post r u.1 u.2.1 u.2.2.1 u.2.2.2) (hcB G A (fun u : (Nat → Int32) × (Nat → Int32) × (Nat → Int32) × (Nat → Int32) => [ceX11 h0 a_w a_kept a_laid s_hasImage a_refusals a_row s_rows a_letters s_lettered a_hit a_lead a_defeat a_defeater s_ins s_outs a_order s_ordered a_is a_was s_reading s_isWell a_depths a_ways s_z, caI G a_w 43 g_w, caI G a_row 12 g_row, caI G a_hit 8 u.1, caI G a_lead 8 u.2.1, caI G a_defeat 8 u.2.2.1, caI G a_defeater 8 u.2.2.2])) A) ([.ref h0] : List Value).toArray s 0 0 A) (F0 m 6 ls []) := by
    intro n
    induction n with
    | zero => intro v1 g_hit g_lead g_defeat g_defeater h; exact h.elim
    | succ n ih =>
      intro v1 g_hit g_lead g_defeat g_defeater h H locs ls hP hD hS hl
      unfold wp_X11_judged_6 at h
      refine lv_iload_n hx hb dX11_judged_6 rfl (lv_at hl 1 rfl) ?_
      refine lv_aload_n hx hb dX11_judged_7 rfl (lv_at hl 0 rfl) ?_
      refine va_get (D := G.1) (ci := 9) (v := .ref a_w) (C := RX11) (T := TX11) (N := 24) hx hb hts ki_X11 hown hK.1 hP 0 rfl rfl 0 (by decide) kf0 (fun _ h9 => h9) rfl dX11_judged_8 ?_
      refine lv_bipush (v := nI 42) hx hb dX11_judged_11 kb_42 ?_
      have hin := h.1
      replace h := h.2
      refine va_iald hx hb hK.1 hP 1 0 rfl rfl hin dX11_judged_13 ?_
      refine lv_icmp_ge (tgt := 38) hx hb dX11_judged_14 (by decide) (fun c => ?_) (fun c => ?_)
      · replace h := h.1 c
        refine lv_aload_n hx hb dX11_judged_38 rfl (lv_at hl 0 rfl) ?_
        refine va_get (D := G.1) (ci := 9) (v := .int s_rows) (C := RX11) (T := TX11) (N := 24) hx hb hts ki_X11 hown hK.1 hP 0 rfl rfl 6 (by decide) kf1 (fun _ h9 => h9) rfl dX11_judged_39 ?_
        refine lv_aload_n hx hb dX11_judged_42 rfl (lv_at hl 0 rfl) ?_
        refine va_get (D := G.1) (ci := 9) (v := .ref a_w) (C := RX11) (T := TX11) (N := 24) hx hb hts ki_X11 hown hK.1 hP 0 rfl rfl 0 (by decide) kf0 (fun _ h9 => h9) rfl dX11_judged_43 ?_
        refine lv_bipush (v := nI 42) hx hb dX11_judged_46 kb_42 ?_
        have hin := h.1
        replace h := h.2
        refine va_iald hx hb hK.1 hP 1 0 rfl rfl hin dX11_judged_48 ?_
        refine lv_icmp_le (tgt := 62) hx hb dX11_judged_49 (by decide) (fun c => ?_) (fun c => ?_)
        · replace h := h.1 c
          refine lv_bipush (v := (-9 : Int32)) hx hb dX11_judged_62 kb_m9 ?_
          exact W.iret (v := (-9 : Int32)) hx hb hr (fun t ht hW => ⟨⟨_, ⟨g_hit, g_lead, g_defeat, g_defeater⟩, rfl, h, ⟨by rw [ht]; exact hP, hD⟩⟩, hS.F ht⟩) hS.2.2 dX11_judged_64
        · replace h := h.2 c
          refine lv_aload_n hx hb dX11_judged_52 rfl (lv_at hl 0 rfl) ?_
          refine va_get (D := G.1) (ci := 9) (v := .ref a_w) (C := RX11) (T := TX11) (N := 24) hx hb hts ki_X11 hown hK.1 hP 0 rfl rfl 0 (by decide) kf0 (fun _ h9 => h9) rfl dX11_judged_53 ?_
          refine lv_bipush (v := nI 42) hx hb dX11_judged_56 kb_42 ?_
          have hin := h.1
          replace h := h.2
          refine va_iald hx hb hK.1 hP 1 0 rfl rfl hin dX11_judged_58 ?_
          refine lv_goto (tgt := 64) hx hb dX11_judged_59 (by decide) ?_
          exact W.iret (v := g_w (nI 42).toNatClampNeg) hx hb hr (fun t ht hW => ⟨⟨_, ⟨g_hit, g_lead, g_defeat, g_defeater⟩, rfl, h, ⟨by rw [ht]; exact hP, hD⟩⟩, hS.F ht⟩) hS.2.2 dX11_judged_64
      · replace h := h.2 c
        refine lv_aload_n hx hb dX11_judged_17 rfl (lv_at hl 0 rfl) ?_
        refine lv_iload_n hx hb dX11_judged_18 rfl (lv_at hl 1 rfl) ?_
        refine hc_ki (wr := [caI G a_w 43 g_w, caI G a_hit 8 g_hit, caI G a_lead 8 g_lead, caI G a_defeat 8 g_defeat, caI G a_defeater 8 g_defeater]) (va_runV (As := [.int v1]) (rest := []) ⟨hx, hb, hml, hown, hts⟩ (c_X11_toldOf l G h0 a_w a_kept a_laid a_refusals a_row a_letters a_hit a_lead a_defeat a_defeater a_order a_is a_was a_depths a_ways H.size s_hasImage s_rows s_lettered s_ins s_outs s_ordered s_reading s_isWell s_z g_row v1 _ h) (cwV 1 hts gX11_judged_X11_toldOf rfl rfl rfl (by decide +kernel) ⟨Nat.le_of_ble_eq_true rfl, Nat.le_of_ble_eq_true rfl⟩) (hc_pV hK hP hD [0, 2] rfl rfl (ci := 9) 0 rfl rfl) rfl rfl hl.1 rfl (lv_room (Nat.le_of_ble_eq_true rfl)) dX11_judged_19 ⟨Nat.le_refl _, Nat.le_refl _⟩) hP hD hS hA [0, 2] [1, 3, 4, 5, 6] rfl rfl rfl (by decide) (fun r19 u H locs h hP hD hS => ?_)
        try dsimp only at h
        have hP : va_P G.1 vwCl [caI G a_w 43 g_w, caI G a_hit 8 g_hit, caI G a_lead 8 g_lead, caI G a_defeat 8 g_defeat, caI G a_defeater 8 g_defeater, ceX11 h0 a_w a_kept a_laid s_hasImage a_refusals a_row s_rows a_letters s_lettered a_hit a_lead a_defeat a_defeater s_ins s_outs a_order s_ordered a_is a_was s_reading s_isWell a_depths a_ways s_z, caI G a_row 12 g_row] H := hP
        have hD : va_D A [caI G a_w 43 g_w, caI G a_hit 8 g_hit, caI G a_lead 8 g_lead, caI G a_defeat 8 g_defeat, caI G a_defeater 8 g_defeater, ceX11 h0 a_w a_kept a_laid s_hasImage a_refusals a_row s_rows a_letters s_lettered a_hit a_lead a_defeat a_defeater s_ins s_outs a_order s_ordered a_is a_was s_reading s_isWell a_depths a_ways s_z, caI G a_row 12 g_row] := hD
        refine lv_aload_n hx hb dX11_judged_22 rfl (lv_at hl 0 rfl) ?_
        refine lv_iload_n hx hb dX11_judged_23 rfl (lv_at hl 1 rfl) ?_
        refine hc_ki (wr := [caI G a_hit 8 g_hit, caI G a_lead 8 g_lead, caI G a_defeat 8 g_defeat]) (va_runV (As := [.int v1]) (rest := [.int r19]) ⟨hx, hb, hml, hown, hts⟩ (c_X11_dueOf l G h0 a_w a_kept a_laid a_refusals a_row a_letters a_hit a_lead a_defeat a_defeater a_order a_is a_was a_depths a_ways H.size s_hasImage s_rows s_lettered s_ins s_outs s_ordered s_reading s_isWell s_z g_w g_row g_defeater v1 _ h) (cwV 1 hts gX11_judged_X11_dueOf rfl rfl rfl (by decide +kernel) ⟨Nat.le_of_ble_eq_true rfl, Nat.le_of_ble_eq_true rfl⟩) (hc_pV hK hP hD [5, 0, 6, 4] rfl rfl (ci := 9) 5 rfl rfl) rfl rfl hl.1 rfl (lv_room (Nat.le_of_ble_eq_true rfl)) dX11_judged_24 ⟨Nat.le_refl _, Nat.le_refl _⟩) hP hD hS hA [5, 0, 6, 4] [1, 2, 3] rfl rfl rfl (by decide) (fun r24 u H locs h hP hD hS => ?_)
        try dsimp only at h
        have hP : va_P G.1 vwCl [caI G a_hit 8 g_hit, caI G a_lead 8 g_lead, caI G a_defeat 8 g_defeat, ceX11 h0 a_w a_kept a_laid s_hasImage a_refusals a_row s_rows a_letters s_lettered a_hit a_lead a_defeat a_defeater s_ins s_outs a_order s_ordered a_is a_was s_reading s_isWell a_depths a_ways s_z, caI G a_w 43 g_w, caI G a_row 12 g_row, caI G a_defeater 8 g_defeater] H := hP
        have hD : va_D A [caI G a_hit 8 g_hit, caI G a_lead 8 g_lead, caI G a_defeat 8 g_defeat, ceX11 h0 a_w a_kept a_laid s_hasImage a_refusals a_row s_rows a_letters s_lettered a_hit a_lead a_defeat a_defeater s_ins s_outs a_order s_ordered a_is a_was s_reading s_isWell a_depths a_ways s_z, caI G a_w 43 g_w, caI G a_row 12 g_row, caI G a_defeater 8 g_defeater] := hD
        refine lv_icmp_eq (tgt := 32) hx hb dX11_judged_27 (by decide) (fun c => ?_) (fun c => ?_)
        · replace h := h.1 c
          refine lv_iinc (v := v1 + nI 1) (lv' := [(1, .int (v1 + nI 1)), (0, .ref h0)]) hx hb dX11_judged_32 hl (k := 1) rfl (congrArg (fun q => v1 + q) kc_1) (by decide) rfl (fun ls hl => ?_)
          refine lv_goto (tgt := 6) hx hb dX11_judged_35 (by decide) ?_
          exact ih (v1 + nI 1) g_hit g_lead g_defeat g_defeater h _ _ _ (hP.sub [3, 4, 5, 0, 1, 2, 6] rfl) (hD.sub [3, 4, 5, 0, 1, 2, 6] (by decide) rfl) hS (lv_sub hl [1, 0] rfl)
        · replace h := h.2 c
          refine lv_iload_n hx hb dX11_judged_30 rfl (lv_at hl 1 rfl) ?_
          exact W.iret (v := v1) hx hb hr (fun t ht hW => ⟨⟨_, ⟨g_hit, g_lead, g_defeat, g_defeater⟩, rfl, h, ⟨by rw [ht]; exact (hP.sub [3, 4, 5, 0, 1, 2, 6] rfl), (hD.sub [3, 4, 5, 0, 1, 2, 6] (by decide) rfl)⟩⟩, hS.F ht⟩) hS.2.2 dX11_judged_31
  unfold wp_X11_judged at h
  refine lv_aload_n hx hb dX11_judged_0 rfl (lv_at hl 0 rfl) ?_
  refine hc_kv (wr := [caI G a_row 12 g_row]) (va_runV (As := []) (rest := []) ⟨hx, hb, hml, hown, hts⟩ (c_X11_reckons l G h0 a_w a_kept a_laid a_refusals a_row a_letters a_hit a_lead a_defeat a_defeater a_order a_is a_was a_depths a_ways s.heap.size s_hasImage s_rows s_lettered s_ins s_outs s_ordered s_reading s_isWell s_z g_w g_hit g_lead g_defeat g_defeater _ h) (cwV 0 hts gX11_judged_X11_reckons rfl rfl rfl (by decide +kernel) ⟨Nat.le_of_ble_eq_true rfl, Nat.le_of_ble_eq_true rfl⟩) (hc_pV hK hP hD [0, 1, 3, 4, 5, 6] rfl rfl (ci := 9) 0 rfl rfl) rfl rfl hl.1 rfl (lv_room (Nat.le_of_ble_eq_true rfl)) dX11_judged_1 ⟨Nat.le_refl _, Nat.le_refl _⟩) hP hD hS hA [0, 1, 3, 4, 5, 6] [2] rfl rfl rfl (by decide) (fun u H locs h hP hD hS => ?_)
  obtain ⟨g_hit_1, g_lead_1, g_defeat_1, g_defeater_1⟩ := u
  try dsimp only at h
  have hP : va_P G.1 vwCl [caI G a_row 12 g_row, ceX11 h0 a_w a_kept a_laid s_hasImage a_refusals a_row s_rows a_letters s_lettered a_hit a_lead a_defeat a_defeater s_ins s_outs a_order s_ordered a_is a_was s_reading s_isWell a_depths a_ways s_z, caI G a_w 43 g_w, caI G a_hit 8 g_hit_1, caI G a_lead 8 g_lead_1, caI G a_defeat 8 g_defeat_1, caI G a_defeater 8 g_defeater_1] H := hP
  have hD : va_D A [caI G a_row 12 g_row, ceX11 h0 a_w a_kept a_laid s_hasImage a_refusals a_row s_rows a_letters s_lettered a_hit a_lead a_defeat a_defeater s_ins s_outs a_order s_ordered a_is a_was s_reading s_isWell a_depths a_ways s_z, caI G a_w 43 g_w, caI G a_hit 8 g_hit_1, caI G a_lead 8 g_lead_1, caI G a_defeat 8 g_defeat_1, caI G a_defeater 8 g_defeater_1] := hD
  refine lv_iconst (v := nI 0) hx hb dX11_judged_4 kc_0 ?_
  refine lv_istore_n (lv' := [(1, .int (nI 0)), (0, .ref h0)]) hx hb dX11_judged_5 rfl hl (by decide) rfl (fun ls hl => ?_)
  obtain ⟨n6, h⟩ := h
  exact w6  n6 (nI 0) g_hit_1 g_lead_1 g_defeat_1 g_defeater_1 h _ _ _ (hP.sub [1, 2, 0, 3, 4, 5, 6] rfl) (hD.sub [1, 2, 0, 3, 4, 5, 6] (by decide) rfl) hS (lv_sub hl [1, 0] rfl)
set_option maxHeartbeats 4000000 in
set_option maxRecDepth 100000 in
theorem c_X11_judge (l : Launch) (G : hcG) (h0 : Nat) (a_w : Nat) (a_kept : Nat) (a_laid : Nat) (a_refusals : Nat) (a_row : Nat) (a_letters : Nat) (a_hit : Nat) (a_lead : Nat) (a_defeat : Nat) (a_defeater : Nat) (a_order : Nat) (a_is : Nat) (a_was : Nat) (a_depths : Nat) (a_ways : Nat) (sz : Nat) (s_hasImage : Int32) (s_rows : Int32) (s_lettered : Int32) (s_ins : Int32) (s_outs : Int32) (s_ordered : Int32) (s_reading : Int32) (s_isWell : Int32) (s_z : Int32) (g_w : Nat → Int32) (g_row : Nat → Int32) (g_hit : Nat → Int32) (g_lead : Nat → Int32) (g_defeat : Nat → Int32) (g_defeater : Nat → Int32) (post : Int32 → Int32 → (Nat → Int32) → (Nat → Int32) → (Nat → Int32) → (Nat → Int32) → Prop) (h : wp_X11_judge post g_w g_row s_rows g_hit g_lead g_defeat g_defeater) : Met l yX11_judge wsX11_judge ({ frames := 5, cells := 0, slots := 0, locals := 107 }) (hcPc G [.ref h0] [ceX11 h0 a_w a_kept a_laid s_hasImage a_refusals a_row s_rows a_letters s_lettered a_hit a_lead a_defeat a_defeater s_ins s_outs a_order s_ordered a_is a_was s_reading s_isWell a_depths a_ways s_z, caI G a_w 43 g_w, caI G a_row 12 g_row, caI G a_hit 8 g_hit, caI G a_lead 8 g_lead, caI G a_defeat 8 g_defeat, caI G a_defeater 8 g_defeater] sz) (va_Qi (fun (r : Int32) (u : Int32 × (Nat → Int32) × (Nat → Int32) × (Nat → Int32) × (Nat → Int32)) => post r u.1 u.2.1 u.2.2.1 u.2.2.2.1 u.2.2.2.2) (hcB G (va_A [ceX11 h0 a_w a_kept a_laid s_hasImage a_refusals a_row s_rows a_letters s_lettered a_hit a_lead a_defeat a_defeater s_ins s_outs a_order s_ordered a_is a_was s_reading s_isWell a_depths a_ways s_z, caI G a_w 43 g_w, caI G a_row 12 g_row, caI G a_hit 8 g_hit, caI G a_lead 8 g_lead, caI G a_defeat 8 g_defeat, caI G a_defeater 8 g_defeater] sz) (fun u : Int32 × (Nat → Int32) × (Nat → Int32) × (Nat → Int32) × (Nat → Int32) => [ceX11 h0 a_w a_kept a_laid s_hasImage a_refusals a_row u.1 a_letters s_lettered a_hit a_lead a_defeat a_defeater s_ins s_outs a_order s_ordered a_is a_was s_reading s_isWell a_depths a_ways s_z, caI G a_w 43 g_w, caI G a_row 12 g_row, caI G a_hit 8 u.2.1, caI G a_lead 8 u.2.2.1, caI G a_defeat 8 u.2.2.2.1, caI G a_defeater 8 u.2.2.2.2])) (va_A [ceX11 h0 a_w a_kept a_laid s_hasImage a_refusals a_row s_rows a_letters s_lettered a_hit a_lead a_defeat a_defeater s_ins s_outs a_order s_ordered a_is a_was s_reading s_isWell a_depths a_ways s_z, caI G a_w 43 g_w, caI G a_row 12 g_row, caI G a_hit 8 g_hit, caI G a_lead 8 g_lead, caI G a_defeat 8 g_defeat, caI G a_defeater 8 g_defeater] sz)) 0 0 (va_A [ceX11 h0 a_w a_kept a_laid s_hasImage a_refusals a_row s_rows a_letters s_lettered a_hit a_lead a_defeat a_defeater s_ins s_outs a_order s_ordered a_is a_was s_reading s_isWell a_depths a_ways s_z, caI G a_w 43 g_w, caI G a_row 12 g_row, caI G a_hit 8 g_hit, caI G a_lead 8 g_lead, caI G a_defeat 8 g_defeat, caI G a_defeater 8 g_defeater] sz) := by
  refine Met.ofW (cc := cX11_judge) (maxL := 2) (ret := (some .int)) (by decide) rfl ?_
  intro p e s m args below meth c s₁ B hml hv
  obtain ⟨rfl, hsz, hP, hK, hD0⟩ := hv
  have hx := B.exec
  have hb := B.bytes
  have hr := B.returns
  have hts := atoms_spec (ws := wsX11_judge) B.pre
  have hown : s.vm.findClass RX11 = some m.cls := findClass_of_methodNamed B.named
  have hlocks := B.notSynchronized
  subst hsz
  have hD := hD0.self (sz := s.heap.size)
  generalize hAe : va_A [ceX11 h0 a_w a_kept a_laid s_hasImage a_refusals a_row s_rows a_letters s_lettered a_hit a_lead a_defeat a_defeater s_ins s_outs a_order s_ordered a_is a_was s_reading s_isWell a_depths a_ways s_z, caI G a_w 43 g_w, caI G a_row 12 g_row, caI G a_hit 8 g_hit, caI G a_lead 8 g_lead, caI G a_defeat 8 g_defeat, caI G a_defeater 8 g_defeater] s.heap.size = A at hD ⊢
  have hA : ∀ q : Nat, s.heap.size ≤ q → A q := fun q h => by rw [← hAe]; exact Or.inr h
  have hS : va_S A s.heap s.heap [] := va_S.rf
  have hP : va_P G.1 vwCl [ceX11 h0 a_w a_kept a_laid s_hasImage a_refusals a_row s_rows a_letters s_lettered a_hit a_lead a_defeat a_defeater s_ins s_outs a_order s_ordered a_is a_was s_reading s_isWell a_depths a_ways s_z, caI G a_w 43 g_w, caI G a_row 12 g_row, caI G a_hit 8 g_hit, caI G a_lead 8 g_lead, caI G a_defeat 8 g_defeat, caI G a_defeater 8 g_defeater] s.heap := hP
  have hl := lv_entry ([.ref h0]) (n := 2) (Nat.le_of_ble_eq_true rfl)
  rw [lg_entry_eq]
  generalize (lg_sl ([.ref h0]) ++ List.replicate (2 - (lg_sl ([.ref h0])).length) Slot.unset).toArray = ls at hl ⊢
  have hl : lv_has ls 2 [(0, .ref h0)] := hl
  have kf0 := hts (.fieldLink RX11 269 "HallOfClaimsModel" "rows" "I") (List.mem_of_getElem? (i := 1) (by decide +kernel))
  have ki_X11 : ∀ w ∈ u_ws RX11 TX11 24, w ∈ wsX11_judge := by decide +kernel
  unfold wp_X11_judge at h
  refine lv_aload_n hx hb dX11_judge_0 rfl (lv_at hl 0 rfl) ?_
  refine hc_ki (wr := []) (va_runV (As := []) (rest := []) ⟨hx, hb, hml, hown, hts⟩ (c_X11_judged l G h0 a_w a_kept a_laid a_refusals a_row a_letters a_hit a_lead a_defeat a_defeater a_order a_is a_was a_depths a_ways s.heap.size s_hasImage s_rows s_lettered s_ins s_outs s_ordered s_reading s_isWell s_z g_w g_row g_hit g_lead g_defeat g_defeater _ h) (cwV 0 hts gX11_judge_X11_judged rfl rfl rfl (by decide +kernel) ⟨Nat.le_of_ble_eq_true rfl, Nat.le_of_ble_eq_true rfl⟩) (hc_pV hK hP hD [0, 1, 2, 3, 4, 5, 6] rfl rfl (ci := 9) 0 rfl rfl) rfl rfl hl.1 rfl (lv_room (Nat.le_of_ble_eq_true rfl)) dX11_judge_1 ⟨Nat.le_refl _, Nat.le_refl _⟩) hP hD hS hA [0, 1, 2, 3, 4, 5, 6] [] rfl rfl rfl (by decide) (fun r1 u H locs h hP hD hS => ?_)
  obtain ⟨g_hit_1, g_lead_1, g_defeat_1, g_defeater_1⟩ := u
  try dsimp only at h
  have hP : va_P G.1 vwCl [ceX11 h0 a_w a_kept a_laid s_hasImage a_refusals a_row s_rows a_letters s_lettered a_hit a_lead a_defeat a_defeater s_ins s_outs a_order s_ordered a_is a_was s_reading s_isWell a_depths a_ways s_z, caI G a_w 43 g_w, caI G a_row 12 g_row, caI G a_hit 8 g_hit_1, caI G a_lead 8 g_lead_1, caI G a_defeat 8 g_defeat_1, caI G a_defeater 8 g_defeater_1] H := hP
  have hD : va_D A [ceX11 h0 a_w a_kept a_laid s_hasImage a_refusals a_row s_rows a_letters s_lettered a_hit a_lead a_defeat a_defeater s_ins s_outs a_order s_ordered a_is a_was s_reading s_isWell a_depths a_ways s_z, caI G a_w 43 g_w, caI G a_row 12 g_row, caI G a_hit 8 g_hit_1, caI G a_lead 8 g_lead_1, caI G a_defeat 8 g_defeat_1, caI G a_defeater 8 g_defeater_1] := hD
  refine lv_istore_n (lv' := [(1, .int r1), (0, .ref h0)]) hx hb dX11_judge_4 rfl hl (by decide) rfl (fun ls hl => ?_)
  refine lv_aload_n hx hb dX11_judge_5 rfl (lv_at hl 1 rfl) ?_
  refine lv_iconst (v := nI 0) hx hb dX11_judge_6 kc_0 ?_
  refine va_put (D := G.1) (ci := 9) (v := .int (nI 0)) (ty := .int) (C := RX11) (T := TX11) (N := 24) hx hb hts ki_X11 tyX11 tyX11_ok nmX11 hown hK.1 hP hD hS 0 rfl rfl 6 (by decide) kf0 (fun _ h9 => h9) rfl (by decide +kernel) rfl rfl (Nat.le_of_ble_eq_true rfl) dX11_judge_7 (fun H locs hP hD hS => ?_)
  have hP : va_P G.1 vwCl [ceX11 h0 a_w a_kept a_laid s_hasImage a_refusals a_row (nI 0) a_letters s_lettered a_hit a_lead a_defeat a_defeater s_ins s_outs a_order s_ordered a_is a_was s_reading s_isWell a_depths a_ways s_z, caI G a_w 43 g_w, caI G a_row 12 g_row, caI G a_hit 8 g_hit_1, caI G a_lead 8 g_lead_1, caI G a_defeat 8 g_defeat_1, caI G a_defeater 8 g_defeater_1] H := hP
  have hD : va_D A [ceX11 h0 a_w a_kept a_laid s_hasImage a_refusals a_row (nI 0) a_letters s_lettered a_hit a_lead a_defeat a_defeater s_ins s_outs a_order s_ordered a_is a_was s_reading s_isWell a_depths a_ways s_z, caI G a_w 43 g_w, caI G a_row 12 g_row, caI G a_hit 8 g_hit_1, caI G a_lead 8 g_lead_1, caI G a_defeat 8 g_defeat_1, caI G a_defeater 8 g_defeater_1] := hD
  refine lv_iload_n hx hb dX11_judge_10 rfl (lv_at hl 0 rfl) ?_
  exact W.iret (v := r1) hx hb hr (fun t ht hW => ⟨⟨_, ⟨(nI 0), g_hit_1, g_lead_1, g_defeat_1, g_defeater_1⟩, rfl, h, ⟨by rw [ht]; exact hP, hD⟩⟩, hS.F ht⟩) hS.2.2 dX11_judge_11
set_option maxHeartbeats 4000000 in
set_option maxRecDepth 100000 in
theorem c_X11_clear (l : Launch) (G : hcG) (h0 : Nat) (a_w : Nat) (a_kept : Nat) (a_laid : Nat) (a_refusals : Nat) (a_row : Nat) (a_letters : Nat) (a_hit : Nat) (a_lead : Nat) (a_defeat : Nat) (a_defeater : Nat) (a_order : Nat) (a_is : Nat) (a_was : Nat) (a_depths : Nat) (a_ways : Nat) (sz : Nat) (s_hasImage : Int32) (s_rows : Int32) (s_lettered : Int32) (s_ins : Int32) (s_outs : Int32) (s_ordered : Int32) (s_reading : Int32) (s_isWell : Int32) (s_z : Int32) (post : Int32 → Int32 → Prop) (h : wp_X11_clear post s_rows) : Met l yX11_clear wsX11_clear ({ frames := 0, cells := 0, slots := 0, locals := 0 }) (hcPc G [.ref h0] [ceX11 h0 a_w a_kept a_laid s_hasImage a_refusals a_row s_rows a_letters s_lettered a_hit a_lead a_defeat a_defeater s_ins s_outs a_order s_ordered a_is a_was s_reading s_isWell a_depths a_ways s_z] sz) (va_Qi (fun (r : Int32) (u : Int32) => post r u) (hcB G (va_A [ceX11 h0 a_w a_kept a_laid s_hasImage a_refusals a_row s_rows a_letters s_lettered a_hit a_lead a_defeat a_defeater s_ins s_outs a_order s_ordered a_is a_was s_reading s_isWell a_depths a_ways s_z] sz) (fun u : Int32 => [ceX11 h0 a_w a_kept a_laid s_hasImage a_refusals a_row u a_letters s_lettered a_hit a_lead a_defeat a_defeater s_ins s_outs a_order s_ordered a_is a_was s_reading s_isWell a_depths a_ways s_z])) (va_A [ceX11 h0 a_w a_kept a_laid s_hasImage a_refusals a_row s_rows a_letters s_lettered a_hit a_lead a_defeat a_defeater s_ins s_outs a_order s_ordered a_is a_was s_reading s_isWell a_depths a_ways s_z] sz)) 0 0 (va_A [ceX11 h0 a_w a_kept a_laid s_hasImage a_refusals a_row s_rows a_letters s_lettered a_hit a_lead a_defeat a_defeater s_ins s_outs a_order s_ordered a_is a_was s_reading s_isWell a_depths a_ways s_z] sz) := by
  refine Met.ofW (cc := cX11_clear) (maxL := 2) (ret := (some .int)) (by decide) rfl ?_
  intro p e s m args below meth c s₁ B hml hv
  obtain ⟨rfl, hsz, hP, hK, hD0⟩ := hv
  have hx := B.exec
  have hb := B.bytes
  have hr := B.returns
  have hts := atoms_spec (ws := wsX11_clear) B.pre
  have hown : s.vm.findClass RX11 = some m.cls := findClass_of_methodNamed B.named
  have hlocks := B.notSynchronized
  subst hsz
  have hD := hD0.self (sz := s.heap.size)
  generalize hAe : va_A [ceX11 h0 a_w a_kept a_laid s_hasImage a_refusals a_row s_rows a_letters s_lettered a_hit a_lead a_defeat a_defeater s_ins s_outs a_order s_ordered a_is a_was s_reading s_isWell a_depths a_ways s_z] s.heap.size = A at hD ⊢
  have hA : ∀ q : Nat, s.heap.size ≤ q → A q := fun q h => by rw [← hAe]; exact Or.inr h
  have hS : va_S A s.heap s.heap [] := va_S.rf
  have hP : va_P G.1 vwCl [ceX11 h0 a_w a_kept a_laid s_hasImage a_refusals a_row s_rows a_letters s_lettered a_hit a_lead a_defeat a_defeater s_ins s_outs a_order s_ordered a_is a_was s_reading s_isWell a_depths a_ways s_z] s.heap := hP
  have hl := lv_entry ([.ref h0]) (n := 2) (Nat.le_of_ble_eq_true rfl)
  rw [lg_entry_eq]
  generalize (lg_sl ([.ref h0]) ++ List.replicate (2 - (lg_sl ([.ref h0])).length) Slot.unset).toArray = ls at hl ⊢
  have hl : lv_has ls 2 [(0, .ref h0)] := hl
  have kf0 := hts (.fieldLink RX11 269 "HallOfClaimsModel" "rows" "I") (List.mem_of_getElem? (i := 1) (by decide +kernel))
  have ki_X11 : ∀ w ∈ u_ws RX11 TX11 24, w ∈ wsX11_clear := by decide +kernel
  unfold wp_X11_clear at h
  refine lv_aload_n hx hb dX11_clear_0 rfl (lv_at hl 0 rfl) ?_
  refine va_get (D := G.1) (ci := 9) (v := .int s_rows) (C := RX11) (T := TX11) (N := 24) hx hb hts ki_X11 hown hK.1 hP 0 rfl rfl 6 (by decide) kf0 (fun _ h9 => h9) rfl dX11_clear_1 ?_
  refine lv_istore_n (lv' := [(1, .int s_rows), (0, .ref h0)]) hx hb dX11_clear_4 rfl hl (by decide) rfl (fun ls hl => ?_)
  refine lv_aload_n hx hb dX11_clear_5 rfl (lv_at hl 1 rfl) ?_
  refine lv_iconst (v := nI 0) hx hb dX11_clear_6 kc_0 ?_
  refine va_put (D := G.1) (ci := 9) (v := .int (nI 0)) (ty := .int) (C := RX11) (T := TX11) (N := 24) hx hb hts ki_X11 tyX11 tyX11_ok nmX11 hown hK.1 hP hD hS 0 rfl rfl 6 (by decide) kf0 (fun _ h9 => h9) rfl (by decide +kernel) rfl rfl (Nat.le_of_ble_eq_true rfl) dX11_clear_7 (fun H locs hP hD hS => ?_)
  have hP : va_P G.1 vwCl [ceX11 h0 a_w a_kept a_laid s_hasImage a_refusals a_row (nI 0) a_letters s_lettered a_hit a_lead a_defeat a_defeater s_ins s_outs a_order s_ordered a_is a_was s_reading s_isWell a_depths a_ways s_z] H := hP
  have hD : va_D A [ceX11 h0 a_w a_kept a_laid s_hasImage a_refusals a_row (nI 0) a_letters s_lettered a_hit a_lead a_defeat a_defeater s_ins s_outs a_order s_ordered a_is a_was s_reading s_isWell a_depths a_ways s_z] := hD
  refine lv_iload_n hx hb dX11_clear_10 rfl (lv_at hl 0 rfl) ?_
  exact W.iret (v := s_rows) hx hb hr (fun t ht hW => ⟨⟨_, (nI 0), rfl, h, ⟨by rw [ht]; exact hP, hD⟩⟩, hS.F ht⟩) hS.2.2 dX11_clear_11
set_option maxHeartbeats 4000000 in
set_option maxRecDepth 100000 in
theorem c_X11_claimsOf (l : Launch) (G : hcG) (h0 : Nat) (a_w : Nat) (a_kept : Nat) (a_laid : Nat) (a_refusals : Nat) (a_row : Nat) (a_letters : Nat) (a_hit : Nat) (a_lead : Nat) (a_defeat : Nat) (a_defeater : Nat) (a_order : Nat) (a_is : Nat) (a_was : Nat) (a_depths : Nat) (a_ways : Nat) (sz : Nat) (s_hasImage : Int32) (s_rows : Int32) (s_lettered : Int32) (s_ins : Int32) (s_outs : Int32) (s_ordered : Int32) (s_reading : Int32) (s_isWell : Int32) (s_z : Int32) (g_w : Nat → Int32) (x1 : Int32) (post : Int32 → Prop) (h : wp_X11_claimsOf post g_w x1) : Met l yX11_claimsOf wsX11_claimsOf ({ frames := 0, cells := 0, slots := 0, locals := 0 }) (hcPc G [.ref h0, .int x1] [ceX11 h0 a_w a_kept a_laid s_hasImage a_refusals a_row s_rows a_letters s_lettered a_hit a_lead a_defeat a_defeater s_ins s_outs a_order s_ordered a_is a_was s_reading s_isWell a_depths a_ways s_z, caI G a_w 43 g_w] sz) (va_Qi (fun (r : Int32) (u : Unit) => post r) (hcB G (va_A [ceX11 h0 a_w a_kept a_laid s_hasImage a_refusals a_row s_rows a_letters s_lettered a_hit a_lead a_defeat a_defeater s_ins s_outs a_order s_ordered a_is a_was s_reading s_isWell a_depths a_ways s_z, caI G a_w 43 g_w] sz) (fun u : Unit => [ceX11 h0 a_w a_kept a_laid s_hasImage a_refusals a_row s_rows a_letters s_lettered a_hit a_lead a_defeat a_defeater s_ins s_outs a_order s_ordered a_is a_was s_reading s_isWell a_depths a_ways s_z, caI G a_w 43 g_w])) (va_A [ceX11 h0 a_w a_kept a_laid s_hasImage a_refusals a_row s_rows a_letters s_lettered a_hit a_lead a_defeat a_defeater s_ins s_outs a_order s_ordered a_is a_was s_reading s_isWell a_depths a_ways s_z, caI G a_w 43 g_w] sz)) 0 0 (va_A [ceX11 h0 a_w a_kept a_laid s_hasImage a_refusals a_row s_rows a_letters s_lettered a_hit a_lead a_defeat a_defeater s_ins s_outs a_order s_ordered a_is a_was s_reading s_isWell a_depths a_ways s_z, caI G a_w 43 g_w] sz) := by
  refine Met.ofW (cc := cX11_claimsOf) (maxL := 4) (ret := (some .int)) (by decide) rfl ?_
  intro p e s m args below meth c s₁ B hml hv
  obtain ⟨rfl, hsz, hP, hK, hD0⟩ := hv
  have hx := B.exec
  have hb := B.bytes
  have hr := B.returns
  have hts := atoms_spec (ws := wsX11_claimsOf) B.pre
  have hown : s.vm.findClass RX11 = some m.cls := findClass_of_methodNamed B.named
  have hlocks := B.notSynchronized
  subst hsz
  have hD := hD0.self (sz := s.heap.size)
  generalize hAe : va_A [ceX11 h0 a_w a_kept a_laid s_hasImage a_refusals a_row s_rows a_letters s_lettered a_hit a_lead a_defeat a_defeater s_ins s_outs a_order s_ordered a_is a_was s_reading s_isWell a_depths a_ways s_z, caI G a_w 43 g_w] s.heap.size = A at hD ⊢
  have hA : ∀ q : Nat, s.heap.size ≤ q → A q := fun q h => by rw [← hAe]; exact Or.inr h
  have hS : va_S A s.heap s.heap [] := va_S.rf
  have hP : va_P G.1 vwCl [ceX11 h0 a_w a_kept a_laid s_hasImage a_refusals a_row s_rows a_letters s_lettered a_hit a_lead a_defeat a_defeater s_ins s_outs a_order s_ordered a_is a_was s_reading s_isWell a_depths a_ways s_z, caI G a_w 43 g_w] s.heap := hP
  have hl := lv_entry ([.ref h0, .int x1]) (n := 4) (Nat.le_of_ble_eq_true rfl)
  rw [lg_entry_eq]
  generalize (lg_sl ([.ref h0, .int x1]) ++ List.replicate (4 - (lg_sl ([.ref h0, .int x1])).length) Slot.unset).toArray = ls at hl ⊢
  have hl : lv_has ls 4 [(0, .ref h0), (1, .int x1)] := hl
  have kf0 := hts (.fieldLink RX11 9 "HallOfClaimsModel" "w" "[I") (List.mem_of_getElem? (i := 1) (by decide +kernel))
  have ki_X11 : ∀ w ∈ u_ws RX11 TX11 24, w ∈ wsX11_claimsOf := by decide +kernel
  have w4 : ∀ (n : Nat) (v2 : Int32) (v3 : Int32) , wp_X11_claimsOf_4 post g_w x1 n v2 v3 → ∀ (H : Heap) (locs : List Loc) (ls : Array Slot), va_P G.1 vwCl [ceX11 h0 a_w a_kept a_laid s_hasImage a_refusals a_row s_rows a_letters s_lettered a_hit a_lead a_defeat a_defeater s_ins s_outs a_order s_ordered a_is a_was s_reading s_isWell a_depths a_ways s_z, caI G a_w 43 g_w] H → va_D A [ceX11 h0 a_w a_kept a_laid s_hasImage a_refusals a_row s_rows a_letters s_lettered a_hit a_lead a_defeat a_defeater s_ins s_outs a_order s_ordered a_is a_was s_reading s_isWell a_depths a_ways s_z, caI G a_w 43 g_w] → va_S A s.heap H locs → lv_has ls 4 [(0, .ref h0), (1, .int x1), (2, .int v2), (3, .int v3)] → W p l e (headSpec wsX11_claimsOf ({ frames := 0, cells := 0, slots := 0, locals := 0 })).room s m ([.ref h0, .int x1] : List Value).toArray below meth c H locs 0 0 (MQ below (va_Qi (fun (r : Int32) (u : Unit) => post r) (hcB G A (fun u : Unit => [ceX11 h0 a_w a_kept a_laid s_hasImage a_refusals a_row s_rows a_letters s_lettered a_hit a_lead a_defeat a_defeater s_ins s_outs a_order s_ordered a_is a_was s_reading s_isWell a_depths a_ways s_z, caI G a_w 43 g_w])) A) ([.ref h0, .int x1] : List Value).toArray s 0 0 A) (F0 m 4 ls []) := by
    intro n
    induction n with
    | zero => intro v2 v3 h; exact h.elim
    | succ n ih =>
      intro v2 v3 h H locs ls hP hD hS hl
      unfold wp_X11_claimsOf_4 at h
      refine lv_iload_n hx hb dX11_claimsOf_4 rfl (lv_at hl 3 rfl) ?_
      refine lv_aload_n hx hb dX11_claimsOf_5 rfl (lv_at hl 0 rfl) ?_
      refine va_get (D := G.1) (ci := 9) (v := .ref a_w) (C := RX11) (T := TX11) (N := 24) hx hb hts ki_X11 hown hK.1 hP 0 rfl rfl 0 (by decide) kf0 (fun _ h9 => h9) rfl dX11_claimsOf_6 ?_
      refine lv_bipush (v := nI 42) hx hb dX11_claimsOf_9 kb_42 ?_
      have hin := h.1
      replace h := h.2
      refine va_iald hx hb hK.1 hP 1 0 rfl rfl hin dX11_claimsOf_11 ?_
      refine lv_icmp_ge (tgt := 44) hx hb dX11_claimsOf_12 (by decide) (fun c => ?_) (fun c => ?_)
      · replace h := h.1 c
        refine lv_iload_n hx hb dX11_claimsOf_44 rfl (lv_at hl 2 rfl) ?_
        exact W.iret (v := v2) hx hb hr (fun t ht hW => ⟨⟨_, (), rfl, h, ⟨by rw [ht]; exact hP, hD⟩⟩, hS.F ht⟩) hS.2.2 dX11_claimsOf_45
      · replace h := h.2 c
        refine lv_iload_n hx hb dX11_claimsOf_15 rfl (lv_at hl 2 rfl) ?_
        refine lv_aload_n hx hb dX11_claimsOf_16 rfl (lv_at hl 0 rfl) ?_
        refine va_get (D := G.1) (ci := 9) (v := .ref a_w) (C := RX11) (T := TX11) (N := 24) hx hb hts ki_X11 hown hK.1 hP 0 rfl rfl 0 (by decide) kf0 (fun _ h9 => h9) rfl dX11_claimsOf_17 ?_
        refine lv_bipush (v := nI 16) hx hb dX11_claimsOf_20 kb_16 ?_
        refine lv_iload_n hx hb dX11_claimsOf_22 rfl (lv_at hl 3 rfl) ?_
        refine lv_iadd hx hb dX11_claimsOf_23 ?_
        have hin := h.1
        replace h := h.2
        refine va_iald hx hb hK.1 hP 1 0 rfl rfl hin dX11_claimsOf_24 ?_
        refine lv_iload_n hx hb dX11_claimsOf_25 rfl (lv_at hl 1 rfl) ?_
        refine lv_icmp_ne (tgt := 35) hx hb dX11_claimsOf_26 (by decide) (fun c => ?_) (fun c => ?_)
        · replace h := h.1 c
          refine lv_iconst (v := nI 0) hx hb dX11_claimsOf_35 kc_0 ?_
          refine lv_ior hx hb dX11_claimsOf_36 ?_
          refine lv_istore_n (lv' := [(2, .int (v2 ||| (nI 0))), (0, .ref h0), (1, .int x1), (3, .int v3)]) hx hb dX11_claimsOf_37 rfl hl (by decide) rfl (fun ls hl => ?_)
          refine lv_iinc (v := v3 + nI 1) (lv' := [(3, .int (v3 + nI 1)), (2, .int (v2 ||| (nI 0))), (0, .ref h0), (1, .int x1)]) hx hb dX11_claimsOf_38 hl (k := 3) rfl (congrArg (fun q => v3 + q) kc_1) (by decide) rfl (fun ls hl => ?_)
          refine lv_goto (tgt := 4) hx hb dX11_claimsOf_41 (by decide) ?_
          exact ih (v2 ||| (nI 0)) (v3 + nI 1) h _ _ _ hP hD hS (lv_sub hl [2, 3, 1, 0] rfl)
        · replace h := h.2 c
          refine lv_iconst (v := nI 1) hx hb dX11_claimsOf_29 kc_1 ?_
          refine lv_iload_n hx hb dX11_claimsOf_30 rfl (lv_at hl 3 rfl) ?_
          refine lv_ishl hx hb dX11_claimsOf_31 ?_
          refine lv_goto (tgt := 36) hx hb dX11_claimsOf_32 (by decide) ?_
          refine lv_ior hx hb dX11_claimsOf_36 ?_
          refine lv_istore_n (lv' := [(2, .int (v2 ||| ((nI 1) <<< (v3 &&& 31)))), (0, .ref h0), (1, .int x1), (3, .int v3)]) hx hb dX11_claimsOf_37 rfl hl (by decide) rfl (fun ls hl => ?_)
          refine lv_iinc (v := v3 + nI 1) (lv' := [(3, .int (v3 + nI 1)), (2, .int (v2 ||| ((nI 1) <<< (v3 &&& 31)))), (0, .ref h0), (1, .int x1)]) hx hb dX11_claimsOf_38 hl (k := 3) rfl (congrArg (fun q => v3 + q) kc_1) (by decide) rfl (fun ls hl => ?_)
          refine lv_goto (tgt := 4) hx hb dX11_claimsOf_41 (by decide) ?_
          exact ih (v2 ||| ((nI 1) <<< (v3 &&& 31))) (v3 + nI 1) h _ _ _ hP hD hS (lv_sub hl [2, 3, 1, 0] rfl)
  unfold wp_X11_claimsOf at h
  refine lv_iconst (v := nI 0) hx hb dX11_claimsOf_0 kc_0 ?_
  refine lv_istore_n (lv' := [(2, .int (nI 0)), (0, .ref h0), (1, .int x1)]) hx hb dX11_claimsOf_1 rfl hl (by decide) rfl (fun ls hl => ?_)
  refine lv_iconst (v := nI 0) hx hb dX11_claimsOf_2 kc_0 ?_
  refine lv_istore_n (lv' := [(3, .int (nI 0)), (2, .int (nI 0)), (0, .ref h0), (1, .int x1)]) hx hb dX11_claimsOf_3 rfl hl (by decide) rfl (fun ls hl => ?_)
  obtain ⟨n4, h⟩ := h
  exact w4  n4 (nI 0) (nI 0) h _ _ _ hP hD hS (lv_sub hl [2, 3, 1, 0] rfl)
set_option maxHeartbeats 4000000 in
set_option maxRecDepth 100000 in
theorem c_X11_speakersAll (l : Launch) (G : hcG) (h0 : Nat) (a_w : Nat) (a_kept : Nat) (a_laid : Nat) (a_refusals : Nat) (a_row : Nat) (a_letters : Nat) (a_hit : Nat) (a_lead : Nat) (a_defeat : Nat) (a_defeater : Nat) (a_order : Nat) (a_is : Nat) (a_was : Nat) (a_depths : Nat) (a_ways : Nat) (sz : Nat) (s_hasImage : Int32) (s_rows : Int32) (s_lettered : Int32) (s_ins : Int32) (s_outs : Int32) (s_ordered : Int32) (s_reading : Int32) (s_isWell : Int32) (s_z : Int32) (g_w : Nat → Int32) (post : Int32 → Prop) (h : wp_X11_speakersAll post g_w) : Met l yX11_speakersAll wsX11_speakersAll ({ frames := 1, cells := 0, slots := 0, locals := 23 }) (hcPc G [.ref h0] [ceX11 h0 a_w a_kept a_laid s_hasImage a_refusals a_row s_rows a_letters s_lettered a_hit a_lead a_defeat a_defeater s_ins s_outs a_order s_ordered a_is a_was s_reading s_isWell a_depths a_ways s_z, caI G a_w 43 g_w] sz) (va_Qi (fun (r : Int32) (u : Unit) => post r) (hcB G (va_A [ceX11 h0 a_w a_kept a_laid s_hasImage a_refusals a_row s_rows a_letters s_lettered a_hit a_lead a_defeat a_defeater s_ins s_outs a_order s_ordered a_is a_was s_reading s_isWell a_depths a_ways s_z, caI G a_w 43 g_w] sz) (fun u : Unit => [ceX11 h0 a_w a_kept a_laid s_hasImage a_refusals a_row s_rows a_letters s_lettered a_hit a_lead a_defeat a_defeater s_ins s_outs a_order s_ordered a_is a_was s_reading s_isWell a_depths a_ways s_z, caI G a_w 43 g_w])) (va_A [ceX11 h0 a_w a_kept a_laid s_hasImage a_refusals a_row s_rows a_letters s_lettered a_hit a_lead a_defeat a_defeater s_ins s_outs a_order s_ordered a_is a_was s_reading s_isWell a_depths a_ways s_z, caI G a_w 43 g_w] sz)) 0 0 (va_A [ceX11 h0 a_w a_kept a_laid s_hasImage a_refusals a_row s_rows a_letters s_lettered a_hit a_lead a_defeat a_defeater s_ins s_outs a_order s_ordered a_is a_was s_reading s_isWell a_depths a_ways s_z, caI G a_w 43 g_w] sz) := by
  refine Met.ofW (cc := cX11_speakersAll) (maxL := 3) (ret := (some .int)) (by decide) rfl ?_
  intro p e s m args below meth c s₁ B hml hv
  obtain ⟨rfl, hsz, hP, hK, hD0⟩ := hv
  have hx := B.exec
  have hb := B.bytes
  have hr := B.returns
  have hts := atoms_spec (ws := wsX11_speakersAll) B.pre
  have hown : s.vm.findClass RX11 = some m.cls := findClass_of_methodNamed B.named
  have hlocks := B.notSynchronized
  subst hsz
  have hD := hD0.self (sz := s.heap.size)
  generalize hAe : va_A [ceX11 h0 a_w a_kept a_laid s_hasImage a_refusals a_row s_rows a_letters s_lettered a_hit a_lead a_defeat a_defeater s_ins s_outs a_order s_ordered a_is a_was s_reading s_isWell a_depths a_ways s_z, caI G a_w 43 g_w] s.heap.size = A at hD ⊢
  have hA : ∀ q : Nat, s.heap.size ≤ q → A q := fun q h => by rw [← hAe]; exact Or.inr h
  have hS : va_S A s.heap s.heap [] := va_S.rf
  have hP : va_P G.1 vwCl [ceX11 h0 a_w a_kept a_laid s_hasImage a_refusals a_row s_rows a_letters s_lettered a_hit a_lead a_defeat a_defeater s_ins s_outs a_order s_ordered a_is a_was s_reading s_isWell a_depths a_ways s_z, caI G a_w 43 g_w] s.heap := hP
  have hl := lv_entry ([.ref h0]) (n := 3) (Nat.le_of_ble_eq_true rfl)
  rw [lg_entry_eq]
  generalize (lg_sl ([.ref h0]) ++ List.replicate (3 - (lg_sl ([.ref h0])).length) Slot.unset).toArray = ls at hl ⊢
  have hl : lv_has ls 3 [(0, .ref h0)] := hl
  have w4 : ∀ (n : Nat) (v1 : Int32) (v2 : Int32) , wp_X11_speakersAll_4 post g_w n v1 v2 → ∀ (H : Heap) (locs : List Loc) (ls : Array Slot), va_P G.1 vwCl [ceX11 h0 a_w a_kept a_laid s_hasImage a_refusals a_row s_rows a_letters s_lettered a_hit a_lead a_defeat a_defeater s_ins s_outs a_order s_ordered a_is a_was s_reading s_isWell a_depths a_ways s_z, caI G a_w 43 g_w] H → va_D A [ceX11 h0 a_w a_kept a_laid s_hasImage a_refusals a_row s_rows a_letters s_lettered a_hit a_lead a_defeat a_defeater s_ins s_outs a_order s_ordered a_is a_was s_reading s_isWell a_depths a_ways s_z, caI G a_w 43 g_w] → va_S A s.heap H locs → lv_has ls 3 [(0, .ref h0), (1, .int v1), (2, .int v2)] → W p l e (headSpec wsX11_speakersAll ({ frames := 1, cells := 0, slots := 0, locals := 23 })).room s m ([.ref h0] : List Value).toArray below meth c H locs 0 0 (MQ below (va_Qi (fun (r : Int32) (u : Unit) => post r) (hcB G A (fun u : Unit => [ceX11 h0 a_w a_kept a_laid s_hasImage a_refusals a_row s_rows a_letters s_lettered a_hit a_lead a_defeat a_defeater s_ins s_outs a_order s_ordered a_is a_was s_reading s_isWell a_depths a_ways s_z, caI G a_w 43 g_w])) A) ([.ref h0] : List Value).toArray s 0 0 A) (F0 m 4 ls []) := by
    intro n
    induction n with
    | zero => intro v1 v2 h; exact h.elim
    | succ n ih =>
      intro v1 v2 h H locs ls hP hD hS hl
      unfold wp_X11_speakersAll_4 at h
      refine lv_iload_n hx hb dX11_speakersAll_4 rfl (lv_at hl 2 rfl) ?_
      refine lv_bipush (v := nI 10) hx hb dX11_speakersAll_5 kb_10 ?_
      refine lv_icmp_ge (tgt := 32) hx hb dX11_speakersAll_7 (by decide) (fun c => ?_) (fun c => ?_)
      · replace h := h.1 c
        refine lv_iload_n hx hb dX11_speakersAll_32 rfl (lv_at hl 1 rfl) ?_
        exact W.iret (v := v1) hx hb hr (fun t ht hW => ⟨⟨_, (), rfl, h, ⟨by rw [ht]; exact hP, hD⟩⟩, hS.F ht⟩) hS.2.2 dX11_speakersAll_33
      · replace h := h.2 c
        refine lv_iload_n hx hb dX11_speakersAll_10 rfl (lv_at hl 1 rfl) ?_
        refine lv_aload_n hx hb dX11_speakersAll_11 rfl (lv_at hl 0 rfl) ?_
        refine lv_iload_n hx hb dX11_speakersAll_12 rfl (lv_at hl 2 rfl) ?_
        refine hc_ki (wr := []) (va_runV (As := [.int v2]) (rest := [.int v1]) ⟨hx, hb, hml, hown, hts⟩ (c_X11_claimsOf l G h0 a_w a_kept a_laid a_refusals a_row a_letters a_hit a_lead a_defeat a_defeater a_order a_is a_was a_depths a_ways H.size s_hasImage s_rows s_lettered s_ins s_outs s_ordered s_reading s_isWell s_z g_w v2 _ h) (cwV 1 hts gX11_speakersAll_X11_claimsOf rfl rfl rfl (by decide +kernel) ⟨Nat.le_of_ble_eq_true rfl, Nat.le_of_ble_eq_true rfl⟩) (hc_pV hK hP hD [0, 1] rfl rfl (ci := 9) 0 rfl rfl) rfl rfl hl.1 rfl (lv_room (Nat.le_of_ble_eq_true rfl)) dX11_speakersAll_13 ⟨Nat.le_refl _, Nat.le_refl _⟩) hP hD hS hA [0, 1] [] rfl rfl rfl (by decide) (fun r13 u H locs h hP hD hS => ?_)
        try dsimp only at h
        have hP : va_P G.1 vwCl [ceX11 h0 a_w a_kept a_laid s_hasImage a_refusals a_row s_rows a_letters s_lettered a_hit a_lead a_defeat a_defeater s_ins s_outs a_order s_ordered a_is a_was s_reading s_isWell a_depths a_ways s_z, caI G a_w 43 g_w] H := hP
        have hD : va_D A [ceX11 h0 a_w a_kept a_laid s_hasImage a_refusals a_row s_rows a_letters s_lettered a_hit a_lead a_defeat a_defeater s_ins s_outs a_order s_ordered a_is a_was s_reading s_isWell a_depths a_ways s_z, caI G a_w 43 g_w] := hD
        refine lv_if_eq (tgt := 23) hx hb dX11_speakersAll_16 (by decide) (fun c => ?_) (fun c => ?_)
        · replace h := h.1 c
          refine lv_iconst (v := nI 0) hx hb dX11_speakersAll_23 kc_0 ?_
          refine lv_iadd hx hb dX11_speakersAll_24 ?_
          refine lv_istore_n (lv' := [(1, .int (v1 + (nI 0))), (0, .ref h0), (2, .int v2)]) hx hb dX11_speakersAll_25 rfl hl (by decide) rfl (fun ls hl => ?_)
          refine lv_iinc (v := v2 + nI 1) (lv' := [(2, .int (v2 + nI 1)), (1, .int (v1 + (nI 0))), (0, .ref h0)]) hx hb dX11_speakersAll_26 hl (k := 2) rfl (congrArg (fun q => v2 + q) kc_1) (by decide) rfl (fun ls hl => ?_)
          refine lv_goto (tgt := 4) hx hb dX11_speakersAll_29 (by decide) ?_
          exact ih (v1 + (nI 0)) (v2 + nI 1) h _ _ _ hP hD hS (lv_sub hl [2, 1, 0] rfl)
        · replace h := h.2 c
          refine lv_iconst (v := nI 1) hx hb dX11_speakersAll_19 kc_1 ?_
          refine lv_goto (tgt := 24) hx hb dX11_speakersAll_20 (by decide) ?_
          refine lv_iadd hx hb dX11_speakersAll_24 ?_
          refine lv_istore_n (lv' := [(1, .int (v1 + (nI 1))), (0, .ref h0), (2, .int v2)]) hx hb dX11_speakersAll_25 rfl hl (by decide) rfl (fun ls hl => ?_)
          refine lv_iinc (v := v2 + nI 1) (lv' := [(2, .int (v2 + nI 1)), (1, .int (v1 + (nI 1))), (0, .ref h0)]) hx hb dX11_speakersAll_26 hl (k := 2) rfl (congrArg (fun q => v2 + q) kc_1) (by decide) rfl (fun ls hl => ?_)
          refine lv_goto (tgt := 4) hx hb dX11_speakersAll_29 (by decide) ?_
          exact ih (v1 + (nI 1)) (v2 + nI 1) h _ _ _ hP hD hS (lv_sub hl [2, 1, 0] rfl)
  unfold wp_X11_speakersAll at h
  refine lv_iconst (v := nI 0) hx hb dX11_speakersAll_0 kc_0 ?_
  refine lv_istore_n (lv' := [(1, .int (nI 0)), (0, .ref h0)]) hx hb dX11_speakersAll_1 rfl hl (by decide) rfl (fun ls hl => ?_)
  refine lv_iconst (v := nI 0) hx hb dX11_speakersAll_2 kc_0 ?_
  refine lv_istore_n (lv' := [(2, .int (nI 0)), (1, .int (nI 0)), (0, .ref h0)]) hx hb dX11_speakersAll_3 rfl hl (by decide) rfl (fun ls hl => ?_)
  obtain ⟨n4, h⟩ := h
  exact w4  n4 (nI 0) (nI 0) h _ _ _ hP hD hS (lv_sub hl [2, 1, 0] rfl)
set_option maxHeartbeats 4000000 in
set_option maxRecDepth 100000 in
theorem c_X11_speakerAt (l : Launch) (G : hcG) (h0 : Nat) (a_w : Nat) (a_kept : Nat) (a_laid : Nat) (a_refusals : Nat) (a_row : Nat) (a_letters : Nat) (a_hit : Nat) (a_lead : Nat) (a_defeat : Nat) (a_defeater : Nat) (a_order : Nat) (a_is : Nat) (a_was : Nat) (a_depths : Nat) (a_ways : Nat) (sz : Nat) (s_hasImage : Int32) (s_rows : Int32) (s_lettered : Int32) (s_ins : Int32) (s_outs : Int32) (s_ordered : Int32) (s_reading : Int32) (s_isWell : Int32) (s_z : Int32) (g_w : Nat → Int32) (x1 : Int32) (post : Int32 → Prop) (h : wp_X11_speakerAt post g_w x1) : Met l yX11_speakerAt wsX11_speakerAt ({ frames := 1, cells := 0, slots := 0, locals := 23 }) (hcPc G [.ref h0, .int x1] [ceX11 h0 a_w a_kept a_laid s_hasImage a_refusals a_row s_rows a_letters s_lettered a_hit a_lead a_defeat a_defeater s_ins s_outs a_order s_ordered a_is a_was s_reading s_isWell a_depths a_ways s_z, caI G a_w 43 g_w] sz) (va_Qi (fun (r : Int32) (u : Unit) => post r) (hcB G (va_A [ceX11 h0 a_w a_kept a_laid s_hasImage a_refusals a_row s_rows a_letters s_lettered a_hit a_lead a_defeat a_defeater s_ins s_outs a_order s_ordered a_is a_was s_reading s_isWell a_depths a_ways s_z, caI G a_w 43 g_w] sz) (fun u : Unit => [ceX11 h0 a_w a_kept a_laid s_hasImage a_refusals a_row s_rows a_letters s_lettered a_hit a_lead a_defeat a_defeater s_ins s_outs a_order s_ordered a_is a_was s_reading s_isWell a_depths a_ways s_z, caI G a_w 43 g_w])) (va_A [ceX11 h0 a_w a_kept a_laid s_hasImage a_refusals a_row s_rows a_letters s_lettered a_hit a_lead a_defeat a_defeater s_ins s_outs a_order s_ordered a_is a_was s_reading s_isWell a_depths a_ways s_z, caI G a_w 43 g_w] sz)) 0 0 (va_A [ceX11 h0 a_w a_kept a_laid s_hasImage a_refusals a_row s_rows a_letters s_lettered a_hit a_lead a_defeat a_defeater s_ins s_outs a_order s_ordered a_is a_was s_reading s_isWell a_depths a_ways s_z, caI G a_w 43 g_w] sz) := by
  refine Met.ofW (cc := cX11_speakerAt) (maxL := 4) (ret := (some .int)) (by decide) rfl ?_
  intro p e s m args below meth c s₁ B hml hv
  obtain ⟨rfl, hsz, hP, hK, hD0⟩ := hv
  have hx := B.exec
  have hb := B.bytes
  have hr := B.returns
  have hts := atoms_spec (ws := wsX11_speakerAt) B.pre
  have hown : s.vm.findClass RX11 = some m.cls := findClass_of_methodNamed B.named
  have hlocks := B.notSynchronized
  subst hsz
  have hD := hD0.self (sz := s.heap.size)
  generalize hAe : va_A [ceX11 h0 a_w a_kept a_laid s_hasImage a_refusals a_row s_rows a_letters s_lettered a_hit a_lead a_defeat a_defeater s_ins s_outs a_order s_ordered a_is a_was s_reading s_isWell a_depths a_ways s_z, caI G a_w 43 g_w] s.heap.size = A at hD ⊢
  have hA : ∀ q : Nat, s.heap.size ≤ q → A q := fun q h => by rw [← hAe]; exact Or.inr h
  have hS : va_S A s.heap s.heap [] := va_S.rf
  have hP : va_P G.1 vwCl [ceX11 h0 a_w a_kept a_laid s_hasImage a_refusals a_row s_rows a_letters s_lettered a_hit a_lead a_defeat a_defeater s_ins s_outs a_order s_ordered a_is a_was s_reading s_isWell a_depths a_ways s_z, caI G a_w 43 g_w] s.heap := hP
  have hl := lv_entry ([.ref h0, .int x1]) (n := 4) (Nat.le_of_ble_eq_true rfl)
  rw [lg_entry_eq]
  generalize (lg_sl ([.ref h0, .int x1]) ++ List.replicate (4 - (lg_sl ([.ref h0, .int x1])).length) Slot.unset).toArray = ls at hl ⊢
  have hl : lv_has ls 4 [(0, .ref h0), (1, .int x1)] := hl
  have w16 : ∀ (K4 : Int32 → Int32 → Prop), (∀ (v2 : Int32) (v3 : Int32) , K4 v2 v3 → ∀ (H : Heap) (locs : List Loc) (ls : Array Slot), va_P G.1 vwCl [ceX11 h0 a_w a_kept a_laid s_hasImage a_refusals a_row s_rows a_letters s_lettered a_hit a_lead a_defeat a_defeater s_ins s_outs a_order s_ordered a_is a_was s_reading s_isWell a_depths a_ways s_z, caI G a_w 43 g_w] H → va_D A [ceX11 h0 a_w a_kept a_laid s_hasImage a_refusals a_row s_rows a_letters s_lettered a_hit a_lead a_defeat a_defeater s_ins s_outs a_order s_ordered a_is a_was s_reading s_isWell a_depths a_ways s_z, caI G a_w 43 g_w] → va_S A s.heap H locs → lv_has ls 4 [(0, .ref h0), (2, .int v2), (3, .int v3)] → W p l e (headSpec wsX11_speakerAt ({ frames := 1, cells := 0, slots := 0, locals := 23 })).room s m ([.ref h0, .int x1] : List Value).toArray below meth c H locs 0 0 (MQ below (va_Qi (fun (r : Int32) (u : Unit) => post r) (hcB G A (fun u : Unit => [ceX11 h0 a_w a_kept a_laid s_hasImage a_refusals a_row s_rows a_letters s_lettered a_hit a_lead a_defeat a_defeater s_ins s_outs a_order s_ordered a_is a_was s_reading s_isWell a_depths a_ways s_z, caI G a_w 43 g_w])) A) ([.ref h0, .int x1] : List Value).toArray s 0 0 A) (F0 m 4 ls [])) → ∀ (v2 : Int32) (v3 : Int32) , wp_X11_speakerAt_16 post g_w x1 K4 v2 v3 → ∀ (H : Heap) (locs : List Loc) (ls : Array Slot), va_P G.1 vwCl [ceX11 h0 a_w a_kept a_laid s_hasImage a_refusals a_row s_rows a_letters s_lettered a_hit a_lead a_defeat a_defeater s_ins s_outs a_order s_ordered a_is a_was s_reading s_isWell a_depths a_ways s_z, caI G a_w 43 g_w] H → va_D A [ceX11 h0 a_w a_kept a_laid s_hasImage a_refusals a_row s_rows a_letters s_lettered a_hit a_lead a_defeat a_defeater s_ins s_outs a_order s_ordered a_is a_was s_reading s_isWell a_depths a_ways s_z, caI G a_w 43 g_w] → va_S A s.heap H locs → lv_has ls 4 [(0, .ref h0), (2, .int v2), (3, .int v3)] → W p l e (headSpec wsX11_speakerAt ({ frames := 1, cells := 0, slots := 0, locals := 23 })).room s m ([.ref h0, .int x1] : List Value).toArray below meth c H locs 0 0 (MQ below (va_Qi (fun (r : Int32) (u : Unit) => post r) (hcB G A (fun u : Unit => [ceX11 h0 a_w a_kept a_laid s_hasImage a_refusals a_row s_rows a_letters s_lettered a_hit a_lead a_defeat a_defeater s_ins s_outs a_order s_ordered a_is a_was s_reading s_isWell a_depths a_ways s_z, caI G a_w 43 g_w])) A) ([.ref h0, .int x1] : List Value).toArray s 0 0 A) (F0 m 16 ls []) := by
    intro K4 hK4 v2 v3 h H locs ls hP hD hS hl
    unfold wp_X11_speakerAt_16 at h
    refine lv_iload_n hx hb dX11_speakerAt_16 rfl (lv_at hl 1 rfl) ?_
    refine lv_aload_n hx hb dX11_speakerAt_17 rfl (lv_at hl 0 rfl) ?_
    refine lv_iload_n hx hb dX11_speakerAt_18 rfl (lv_at hl 2 rfl) ?_
    refine hc_ki (wr := []) (va_runV (As := [.int v3]) (rest := [.int v2]) ⟨hx, hb, hml, hown, hts⟩ (c_X11_claimsOf l G h0 a_w a_kept a_laid a_refusals a_row a_letters a_hit a_lead a_defeat a_defeater a_order a_is a_was a_depths a_ways H.size s_hasImage s_rows s_lettered s_ins s_outs s_ordered s_reading s_isWell s_z g_w v3 _ h) (cwV 1 hts gX11_speakerAt_X11_claimsOf rfl rfl rfl (by decide +kernel) ⟨Nat.le_of_ble_eq_true rfl, Nat.le_of_ble_eq_true rfl⟩) (hc_pV hK hP hD [0, 1] rfl rfl (ci := 9) 0 rfl rfl) rfl rfl hl.1 rfl (lv_room (Nat.le_of_ble_eq_true rfl)) dX11_speakerAt_19 ⟨Nat.le_refl _, Nat.le_refl _⟩) hP hD hS hA [0, 1] [] rfl rfl rfl (by decide) (fun r19 u H locs h hP hD hS => ?_)
    try dsimp only at h
    have hP : va_P G.1 vwCl [ceX11 h0 a_w a_kept a_laid s_hasImage a_refusals a_row s_rows a_letters s_lettered a_hit a_lead a_defeat a_defeater s_ins s_outs a_order s_ordered a_is a_was s_reading s_isWell a_depths a_ways s_z, caI G a_w 43 g_w] H := hP
    have hD : va_D A [ceX11 h0 a_w a_kept a_laid s_hasImage a_refusals a_row s_rows a_letters s_lettered a_hit a_lead a_defeat a_defeater s_ins s_outs a_order s_ordered a_is a_was s_reading s_isWell a_depths a_ways s_z, caI G a_w 43 g_w] := hD
    refine lv_if_eq (tgt := 29) hx hb dX11_speakerAt_22 (by decide) (fun c => ?_) (fun c => ?_)
    · replace h := h.1 c
      refine lv_iconst (v := nI 0) hx hb dX11_speakerAt_29 kc_0 ?_
      refine lv_isub hx hb dX11_speakerAt_30 ?_
      refine lv_istore_n (lv' := [(2, .int (v2 - (nI 0))), (0, .ref h0), (3, .int v3)]) hx hb dX11_speakerAt_31 rfl hl (by decide) rfl (fun ls hl => ?_)
      refine lv_iinc (v := v3 + nI 1) (lv' := [(3, .int (v3 + nI 1)), (2, .int (v2 - (nI 0))), (0, .ref h0)]) hx hb dX11_speakerAt_32 hl (k := 2) rfl (congrArg (fun q => v3 + q) kc_1) (by decide) rfl (fun ls hl => ?_)
      refine lv_goto (tgt := 4) hx hb dX11_speakerAt_35 (by decide) ?_
      exact hK4 (v2 - (nI 0)) (v3 + nI 1) h _ _ _ hP hD hS (lv_sub hl [2, 1, 0] rfl)
    · replace h := h.2 c
      refine lv_iconst (v := nI 1) hx hb dX11_speakerAt_25 kc_1 ?_
      refine lv_goto (tgt := 30) hx hb dX11_speakerAt_26 (by decide) ?_
      refine lv_isub hx hb dX11_speakerAt_30 ?_
      refine lv_istore_n (lv' := [(2, .int (v2 - (nI 1))), (0, .ref h0), (3, .int v3)]) hx hb dX11_speakerAt_31 rfl hl (by decide) rfl (fun ls hl => ?_)
      refine lv_iinc (v := v3 + nI 1) (lv' := [(3, .int (v3 + nI 1)), (2, .int (v2 - (nI 1))), (0, .ref h0)]) hx hb dX11_speakerAt_32 hl (k := 2) rfl (congrArg (fun q => v3 + q) kc_1) (by decide) rfl (fun ls hl => ?_)
      refine lv_goto (tgt := 4) hx hb dX11_speakerAt_35 (by decide) ?_
      exact hK4 (v2 - (nI 1)) (v3 + nI 1) h _ _ _ hP hD hS (lv_sub hl [2, 1, 0] rfl)
  have w4 : ∀ (n : Nat) (v2 : Int32) (v3 : Int32) , wp_X11_speakerAt_4 post g_w x1 n v2 v3 → ∀ (H : Heap) (locs : List Loc) (ls : Array Slot), va_P G.1 vwCl [ceX11 h0 a_w a_kept a_laid s_hasImage a_refusals a_row s_rows a_letters s_lettered a_hit a_lead a_defeat a_defeater s_ins s_outs a_order s_ordered a_is a_was s_reading s_isWell a_depths a_ways s_z, caI G a_w 43 g_w] H → va_D A [ceX11 h0 a_w a_kept a_laid s_hasImage a_refusals a_row s_rows a_letters s_lettered a_hit a_lead a_defeat a_defeater s_ins s_outs a_order s_ordered a_is a_was s_reading s_isWell a_depths a_ways s_z, caI G a_w 43 g_w] → va_S A s.heap H locs → lv_has ls 4 [(0, .ref h0), (2, .int v2), (3, .int v3)] → W p l e (headSpec wsX11_speakerAt ({ frames := 1, cells := 0, slots := 0, locals := 23 })).room s m ([.ref h0, .int x1] : List Value).toArray below meth c H locs 0 0 (MQ below (va_Qi (fun (r : Int32) (u : Unit) => post r) (hcB G A (fun u : Unit => [ceX11 h0 a_w a_kept a_laid s_hasImage a_refusals a_row s_rows a_letters s_lettered a_hit a_lead a_defeat a_defeater s_ins s_outs a_order s_ordered a_is a_was s_reading s_isWell a_depths a_ways s_z, caI G a_w 43 g_w])) A) ([.ref h0, .int x1] : List Value).toArray s 0 0 A) (F0 m 4 ls []) := by
    intro n
    induction n with
    | zero => intro v2 v3 h; exact h.elim
    | succ n ih =>
      intro v2 v3 h H locs ls hP hD hS hl
      unfold wp_X11_speakerAt_4 at h
      refine lv_aload_n hx hb dX11_speakerAt_4 rfl (lv_at hl 0 rfl) ?_
      refine lv_iload_n hx hb dX11_speakerAt_5 rfl (lv_at hl 2 rfl) ?_
      refine hc_ki (wr := []) (va_runV (As := [.int v3]) (rest := []) ⟨hx, hb, hml, hown, hts⟩ (c_X11_claimsOf l G h0 a_w a_kept a_laid a_refusals a_row a_letters a_hit a_lead a_defeat a_defeater a_order a_is a_was a_depths a_ways H.size s_hasImage s_rows s_lettered s_ins s_outs s_ordered s_reading s_isWell s_z g_w v3 _ h) (cwV 1 hts gX11_speakerAt_X11_claimsOf rfl rfl rfl (by decide +kernel) ⟨Nat.le_of_ble_eq_true rfl, Nat.le_of_ble_eq_true rfl⟩) (hc_pV hK hP hD [0, 1] rfl rfl (ci := 9) 0 rfl rfl) rfl rfl hl.1 rfl (lv_room (Nat.le_of_ble_eq_true rfl)) dX11_speakerAt_6 ⟨Nat.le_refl _, Nat.le_refl _⟩) hP hD hS hA [0, 1] [] rfl rfl rfl (by decide) (fun r6 u H locs h hP hD hS => ?_)
      try dsimp only at h
      have hP : va_P G.1 vwCl [ceX11 h0 a_w a_kept a_laid s_hasImage a_refusals a_row s_rows a_letters s_lettered a_hit a_lead a_defeat a_defeater s_ins s_outs a_order s_ordered a_is a_was s_reading s_isWell a_depths a_ways s_z, caI G a_w 43 g_w] H := hP
      have hD : va_D A [ceX11 h0 a_w a_kept a_laid s_hasImage a_refusals a_row s_rows a_letters s_lettered a_hit a_lead a_defeat a_defeater s_ins s_outs a_order s_ordered a_is a_was s_reading s_isWell a_depths a_ways s_z, caI G a_w 43 g_w] := hD
      refine lv_if_eq (tgt := 16) hx hb dX11_speakerAt_9 (by decide) (fun c => ?_) (fun c => ?_)
      · replace h := h.1 c
        exact w16 ((wp_X11_speakerAt_4 post g_w x1 n)) ih v2 v3 h _ _ _ hP hD hS (lv_sub hl [0, 1, 2] rfl)
      · replace h := h.2 c
        refine lv_iload_n hx hb dX11_speakerAt_12 rfl (lv_at hl 1 rfl) ?_
        refine lv_if_le (tgt := 38) hx hb dX11_speakerAt_13 (by decide) (fun c => ?_) (fun c => ?_)
        · replace h := h.1 c
          refine lv_iload_n hx hb dX11_speakerAt_38 rfl (lv_at hl 2 rfl) ?_
          exact W.iret (v := v3) hx hb hr (fun t ht hW => ⟨⟨_, (), rfl, h, ⟨by rw [ht]; exact hP, hD⟩⟩, hS.F ht⟩) hS.2.2 dX11_speakerAt_39
        · replace h := h.2 c
          exact w16 ((wp_X11_speakerAt_4 post g_w x1 n)) ih v2 v3 h _ _ _ hP hD hS (lv_sub hl [0, 1, 2] rfl)
  unfold wp_X11_speakerAt at h
  refine lv_iload_n hx hb dX11_speakerAt_0 rfl (lv_at hl 1 rfl) ?_
  refine lv_istore_n (lv' := [(2, .int x1), (0, .ref h0), (1, .int x1)]) hx hb dX11_speakerAt_1 rfl hl (by decide) rfl (fun ls hl => ?_)
  refine lv_iconst (v := nI 0) hx hb dX11_speakerAt_2 kc_0 ?_
  refine lv_istore_n (lv' := [(3, .int (nI 0)), (2, .int x1), (0, .ref h0), (1, .int x1)]) hx hb dX11_speakerAt_3 rfl hl (by decide) rfl (fun ls hl => ?_)
  obtain ⟨n4, h⟩ := h
  exact w4  n4 x1 (nI 0) h _ _ _ hP hD hS (lv_sub hl [2, 1, 0] rfl)
set_option maxHeartbeats 4000000 in
set_option maxRecDepth 100000 in
theorem c_X11_greatestOf (l : Launch) (G : hcG) (h0 : Nat) (a_w : Nat) (a_kept : Nat) (a_laid : Nat) (a_refusals : Nat) (a_row : Nat) (a_letters : Nat) (a_hit : Nat) (a_lead : Nat) (a_defeat : Nat) (a_defeater : Nat) (a_order : Nat) (a_is : Nat) (a_was : Nat) (a_depths : Nat) (a_ways : Nat) (sz : Nat) (s_hasImage : Int32) (s_rows : Int32) (s_lettered : Int32) (s_ins : Int32) (s_outs : Int32) (s_ordered : Int32) (s_reading : Int32) (s_isWell : Int32) (s_z : Int32) (g_w : Nat → Int32) (x1 : Int32) (post : Int32 → Prop) (h : wp_X11_greatestOf post g_w x1) : Met l yX11_greatestOf wsX11_greatestOf ({ frames := 1, cells := 0, slots := 0, locals := 21 }) (hcPc G [.ref h0, .int x1] [ceX11 h0 a_w a_kept a_laid s_hasImage a_refusals a_row s_rows a_letters s_lettered a_hit a_lead a_defeat a_defeater s_ins s_outs a_order s_ordered a_is a_was s_reading s_isWell a_depths a_ways s_z, caI G a_w 43 g_w] sz) (va_Qi (fun (r : Int32) (u : Unit) => post r) (hcB G (va_A [ceX11 h0 a_w a_kept a_laid s_hasImage a_refusals a_row s_rows a_letters s_lettered a_hit a_lead a_defeat a_defeater s_ins s_outs a_order s_ordered a_is a_was s_reading s_isWell a_depths a_ways s_z, caI G a_w 43 g_w] sz) (fun u : Unit => [ceX11 h0 a_w a_kept a_laid s_hasImage a_refusals a_row s_rows a_letters s_lettered a_hit a_lead a_defeat a_defeater s_ins s_outs a_order s_ordered a_is a_was s_reading s_isWell a_depths a_ways s_z, caI G a_w 43 g_w])) (va_A [ceX11 h0 a_w a_kept a_laid s_hasImage a_refusals a_row s_rows a_letters s_lettered a_hit a_lead a_defeat a_defeater s_ins s_outs a_order s_ordered a_is a_was s_reading s_isWell a_depths a_ways s_z, caI G a_w 43 g_w] sz)) 0 0 (va_A [ceX11 h0 a_w a_kept a_laid s_hasImage a_refusals a_row s_rows a_letters s_lettered a_hit a_lead a_defeat a_defeater s_ins s_outs a_order s_ordered a_is a_was s_reading s_isWell a_depths a_ways s_z, caI G a_w 43 g_w] sz) := by
  refine Met.ofW (cc := cX11_greatestOf) (maxL := 4) (ret := (some .int)) (by decide) rfl ?_
  intro p e s m args below meth c s₁ B hml hv
  obtain ⟨rfl, hsz, hP, hK, hD0⟩ := hv
  have hx := B.exec
  have hb := B.bytes
  have hr := B.returns
  have hts := atoms_spec (ws := wsX11_greatestOf) B.pre
  have hown : s.vm.findClass RX11 = some m.cls := findClass_of_methodNamed B.named
  have hlocks := B.notSynchronized
  subst hsz
  have hD := hD0.self (sz := s.heap.size)
  generalize hAe : va_A [ceX11 h0 a_w a_kept a_laid s_hasImage a_refusals a_row s_rows a_letters s_lettered a_hit a_lead a_defeat a_defeater s_ins s_outs a_order s_ordered a_is a_was s_reading s_isWell a_depths a_ways s_z, caI G a_w 43 g_w] s.heap.size = A at hD ⊢
  have hA : ∀ q : Nat, s.heap.size ≤ q → A q := fun q h => by rw [← hAe]; exact Or.inr h
  have hS : va_S A s.heap s.heap [] := va_S.rf
  have hP : va_P G.1 vwCl [ceX11 h0 a_w a_kept a_laid s_hasImage a_refusals a_row s_rows a_letters s_lettered a_hit a_lead a_defeat a_defeater s_ins s_outs a_order s_ordered a_is a_was s_reading s_isWell a_depths a_ways s_z, caI G a_w 43 g_w] s.heap := hP
  have hl := lv_entry ([.ref h0, .int x1]) (n := 4) (Nat.le_of_ble_eq_true rfl)
  rw [lg_entry_eq]
  generalize (lg_sl ([.ref h0, .int x1]) ++ List.replicate (4 - (lg_sl ([.ref h0, .int x1])).length) Slot.unset).toArray = ls at hl ⊢
  have hl : lv_has ls 4 [(0, .ref h0), (1, .int x1)] := hl
  have kf0 := hts (.fieldLink RX11 9 "HallOfClaimsModel" "w" "[I") (List.mem_of_getElem? (i := 1) (by decide +kernel))
  have ki_X11 : ∀ w ∈ u_ws RX11 TX11 24, w ∈ wsX11_greatestOf := by decide +kernel
  have w4 : ∀ (n : Nat) (v2 : Int32) (v3 : Int32) , wp_X11_greatestOf_4 post g_w x1 n v2 v3 → ∀ (H : Heap) (locs : List Loc) (ls : Array Slot), va_P G.1 vwCl [ceX11 h0 a_w a_kept a_laid s_hasImage a_refusals a_row s_rows a_letters s_lettered a_hit a_lead a_defeat a_defeater s_ins s_outs a_order s_ordered a_is a_was s_reading s_isWell a_depths a_ways s_z, caI G a_w 43 g_w] H → va_D A [ceX11 h0 a_w a_kept a_laid s_hasImage a_refusals a_row s_rows a_letters s_lettered a_hit a_lead a_defeat a_defeater s_ins s_outs a_order s_ordered a_is a_was s_reading s_isWell a_depths a_ways s_z, caI G a_w 43 g_w] → va_S A s.heap H locs → lv_has ls 4 [(0, .ref h0), (1, .int x1), (2, .int v2), (3, .int v3)] → W p l e (headSpec wsX11_greatestOf ({ frames := 1, cells := 0, slots := 0, locals := 21 })).room s m ([.ref h0, .int x1] : List Value).toArray below meth c H locs 0 0 (MQ below (va_Qi (fun (r : Int32) (u : Unit) => post r) (hcB G A (fun u : Unit => [ceX11 h0 a_w a_kept a_laid s_hasImage a_refusals a_row s_rows a_letters s_lettered a_hit a_lead a_defeat a_defeater s_ins s_outs a_order s_ordered a_is a_was s_reading s_isWell a_depths a_ways s_z, caI G a_w 43 g_w])) A) ([.ref h0, .int x1] : List Value).toArray s 0 0 A) (F0 m 4 ls []) := by
    intro n
    induction n with
    | zero => intro v2 v3 h; exact h.elim
    | succ n ih =>
      intro v2 v3 h H locs ls hP hD hS hl
      unfold wp_X11_greatestOf_4 at h
      refine lv_iload_n hx hb dX11_greatestOf_4 rfl (lv_at hl 3 rfl) ?_
      refine lv_aload_n hx hb dX11_greatestOf_5 rfl (lv_at hl 0 rfl) ?_
      refine va_get (D := G.1) (ci := 9) (v := .ref a_w) (C := RX11) (T := TX11) (N := 24) hx hb hts ki_X11 hown hK.1 hP 0 rfl rfl 0 (by decide) kf0 (fun _ h9 => h9) rfl dX11_greatestOf_6 ?_
      refine lv_bipush (v := nI 42) hx hb dX11_greatestOf_9 kb_42 ?_
      have hin := h.1
      replace h := h.2
      refine va_iald hx hb hK.1 hP 1 0 rfl rfl hin dX11_greatestOf_11 ?_
      refine lv_icmp_ge (tgt := 56) hx hb dX11_greatestOf_12 (by decide) (fun c => ?_) (fun c => ?_)
      · replace h := h.1 c
        refine lv_iload_n hx hb dX11_greatestOf_56 rfl (lv_at hl 2 rfl) ?_
        exact W.iret (v := v2) hx hb hr (fun t ht hW => ⟨⟨_, (), rfl, h, ⟨by rw [ht]; exact hP, hD⟩⟩, hS.F ht⟩) hS.2.2 dX11_greatestOf_57
      · replace h := h.2 c
        refine lv_iload_n hx hb dX11_greatestOf_15 rfl (lv_at hl 1 rfl) ?_
        refine lv_iload_n hx hb dX11_greatestOf_16 rfl (lv_at hl 3 rfl) ?_
        refine hc_ki (wr := [ceX11 h0 a_w a_kept a_laid s_hasImage a_refusals a_row s_rows a_letters s_lettered a_hit a_lead a_defeat a_defeater s_ins s_outs a_order s_ordered a_is a_was s_reading s_isWell a_depths a_ways s_z, caI G a_w 43 g_w]) (va_runS (As := [.int x1, .int v3]) (rest := []) ⟨hx, hb, hml, hown, hts⟩ (c_X11_has l G H.size x1 v3 _ h) (va_cwS 2 hts gX11_greatestOf_X11_has rfl rfl rfl (by decide +kernel) ⟨Nat.le_of_ble_eq_true rfl, Nat.le_of_ble_eq_true rfl⟩) (hc_pS hK hP hD [] rfl rfl) rfl rfl hl.1 rfl (lv_room (Nat.le_of_ble_eq_true rfl)) dX11_greatestOf_17 ⟨Nat.le_refl _, Nat.le_refl _⟩) hP hD hS hA [] [0, 1] rfl rfl rfl (by decide) (fun r17 u H locs h hP hD hS => ?_)
        try dsimp only at h
        have hP : va_P G.1 vwCl [ceX11 h0 a_w a_kept a_laid s_hasImage a_refusals a_row s_rows a_letters s_lettered a_hit a_lead a_defeat a_defeater s_ins s_outs a_order s_ordered a_is a_was s_reading s_isWell a_depths a_ways s_z, caI G a_w 43 g_w] H := hP
        have hD : va_D A [ceX11 h0 a_w a_kept a_laid s_hasImage a_refusals a_row s_rows a_letters s_lettered a_hit a_lead a_defeat a_defeater s_ins s_outs a_order s_ordered a_is a_was s_reading s_isWell a_depths a_ways s_z, caI G a_w 43 g_w] := hD
        refine lv_if_eq (tgt := 48) hx hb dX11_greatestOf_20 (by decide) (fun c => ?_) (fun c => ?_)
        · replace h := h.1 c
          refine lv_iload_n hx hb dX11_greatestOf_48 rfl (lv_at hl 2 rfl) ?_
          refine lv_istore_n (lv' := [(2, .int v2), (0, .ref h0), (1, .int x1), (3, .int v3)]) hx hb dX11_greatestOf_49 rfl hl (by decide) rfl (fun ls hl => ?_)
          refine lv_iinc (v := v3 + nI 1) (lv' := [(3, .int (v3 + nI 1)), (2, .int v2), (0, .ref h0), (1, .int x1)]) hx hb dX11_greatestOf_50 hl (k := 3) rfl (congrArg (fun q => v3 + q) kc_1) (by decide) rfl (fun ls hl => ?_)
          refine lv_goto (tgt := 4) hx hb dX11_greatestOf_53 (by decide) ?_
          exact ih v2 (v3 + nI 1) h _ _ _ hP hD hS (lv_sub hl [2, 3, 1, 0] rfl)
        · replace h := h.2 c
          refine lv_aload_n hx hb dX11_greatestOf_23 rfl (lv_at hl 0 rfl) ?_
          refine va_get (D := G.1) (ci := 9) (v := .ref a_w) (C := RX11) (T := TX11) (N := 24) hx hb hts ki_X11 hown hK.1 hP 0 rfl rfl 0 (by decide) kf0 (fun _ h9 => h9) rfl dX11_greatestOf_24 ?_
          refine lv_bipush (v := nI 8) hx hb dX11_greatestOf_27 kb_8 ?_
          refine lv_iload_n hx hb dX11_greatestOf_29 rfl (lv_at hl 3 rfl) ?_
          refine lv_iadd hx hb dX11_greatestOf_30 ?_
          have hin := h.1
          replace h := h.2
          refine va_iald hx hb hK.1 hP 1 0 rfl rfl hin dX11_greatestOf_31 ?_
          refine lv_iload_n hx hb dX11_greatestOf_32 rfl (lv_at hl 2 rfl) ?_
          refine lv_icmp_le (tgt := 48) hx hb dX11_greatestOf_33 (by decide) (fun c => ?_) (fun c => ?_)
          · replace h := h.1 c
            refine lv_iload_n hx hb dX11_greatestOf_48 rfl (lv_at hl 2 rfl) ?_
            refine lv_istore_n (lv' := [(2, .int v2), (0, .ref h0), (1, .int x1), (3, .int v3)]) hx hb dX11_greatestOf_49 rfl hl (by decide) rfl (fun ls hl => ?_)
            refine lv_iinc (v := v3 + nI 1) (lv' := [(3, .int (v3 + nI 1)), (2, .int v2), (0, .ref h0), (1, .int x1)]) hx hb dX11_greatestOf_50 hl (k := 3) rfl (congrArg (fun q => v3 + q) kc_1) (by decide) rfl (fun ls hl => ?_)
            refine lv_goto (tgt := 4) hx hb dX11_greatestOf_53 (by decide) ?_
            exact ih v2 (v3 + nI 1) h _ _ _ hP hD hS (lv_sub hl [2, 3, 1, 0] rfl)
          · replace h := h.2 c
            refine lv_aload_n hx hb dX11_greatestOf_36 rfl (lv_at hl 0 rfl) ?_
            refine va_get (D := G.1) (ci := 9) (v := .ref a_w) (C := RX11) (T := TX11) (N := 24) hx hb hts ki_X11 hown hK.1 hP 0 rfl rfl 0 (by decide) kf0 (fun _ h9 => h9) rfl dX11_greatestOf_37 ?_
            refine lv_bipush (v := nI 8) hx hb dX11_greatestOf_40 kb_8 ?_
            refine lv_iload_n hx hb dX11_greatestOf_42 rfl (lv_at hl 3 rfl) ?_
            refine lv_iadd hx hb dX11_greatestOf_43 ?_
            have hin := h.1
            replace h := h.2
            refine va_iald hx hb hK.1 hP 1 0 rfl rfl hin dX11_greatestOf_44 ?_
            refine lv_goto (tgt := 49) hx hb dX11_greatestOf_45 (by decide) ?_
            refine lv_istore_n (lv' := [(2, .int (g_w ((nI 8) + v3).toNatClampNeg)), (0, .ref h0), (1, .int x1), (3, .int v3)]) hx hb dX11_greatestOf_49 rfl hl (by decide) rfl (fun ls hl => ?_)
            refine lv_iinc (v := v3 + nI 1) (lv' := [(3, .int (v3 + nI 1)), (2, .int (g_w ((nI 8) + v3).toNatClampNeg)), (0, .ref h0), (1, .int x1)]) hx hb dX11_greatestOf_50 hl (k := 3) rfl (congrArg (fun q => v3 + q) kc_1) (by decide) rfl (fun ls hl => ?_)
            refine lv_goto (tgt := 4) hx hb dX11_greatestOf_53 (by decide) ?_
            exact ih (g_w ((nI 8) + v3).toNatClampNeg) (v3 + nI 1) h _ _ _ hP hD hS (lv_sub hl [2, 3, 1, 0] rfl)
  unfold wp_X11_greatestOf at h
  refine lv_iconst (v := nI 0) hx hb dX11_greatestOf_0 kc_0 ?_
  refine lv_istore_n (lv' := [(2, .int (nI 0)), (0, .ref h0), (1, .int x1)]) hx hb dX11_greatestOf_1 rfl hl (by decide) rfl (fun ls hl => ?_)
  refine lv_iconst (v := nI 0) hx hb dX11_greatestOf_2 kc_0 ?_
  refine lv_istore_n (lv' := [(3, .int (nI 0)), (2, .int (nI 0)), (0, .ref h0), (1, .int x1)]) hx hb dX11_greatestOf_3 rfl hl (by decide) rfl (fun ls hl => ?_)
  obtain ⟨n4, h⟩ := h
  exact w4  n4 (nI 0) (nI 0) h _ _ _ hP hD hS (lv_sub hl [2, 3, 1, 0] rfl)
set_option maxHeartbeats 4000000 in
set_option maxRecDepth 100000 in
theorem c_X11_speakers (l : Launch) (G : hcG) (h0 : Nat) (a_w : Nat) (a_kept : Nat) (a_laid : Nat) (a_refusals : Nat) (a_row : Nat) (a_letters : Nat) (a_hit : Nat) (a_lead : Nat) (a_defeat : Nat) (a_defeater : Nat) (a_order : Nat) (a_is : Nat) (a_was : Nat) (a_depths : Nat) (a_ways : Nat) (sz : Nat) (s_hasImage : Int32) (s_rows : Int32) (s_lettered : Int32) (s_ins : Int32) (s_outs : Int32) (s_ordered : Int32) (s_reading : Int32) (s_isWell : Int32) (s_z : Int32) (g_w : Nat → Int32) (g_refusals : Nat → Int32) (g_hit : Nat → Int32) (g_lead : Nat → Int32) (g_defeat : Nat → Int32) (g_defeater : Nat → Int32) (g_order : Nat → Int32) (x1 : Int32) (x2 : Int32) (post : Int32 → (Nat → Int32) → (Nat → Int32) → (Nat → Int32) → (Nat → Int32) → (Nat → Int32) → Int32 → Int32 → (Nat → Int32) → Int32 → Prop) (h : wp_X11_speakers post g_w g_refusals g_hit g_lead g_defeat g_defeater s_ins s_outs g_order s_ordered x1 x2) : Met l yX11_speakers wsX11_speakers ({ frames := 5, cells := 0, slots := 0, locals := 107 }) (hcPc G [.ref h0, .int x1, .int x2] [ceX11 h0 a_w a_kept a_laid s_hasImage a_refusals a_row s_rows a_letters s_lettered a_hit a_lead a_defeat a_defeater s_ins s_outs a_order s_ordered a_is a_was s_reading s_isWell a_depths a_ways s_z, caI G a_w 43 g_w, caI G a_refusals 7 g_refusals, caI G a_hit 8 g_hit, caI G a_lead 8 g_lead, caI G a_defeat 8 g_defeat, caI G a_defeater 8 g_defeater, caI G a_order 8 g_order] sz) (va_Qi (fun (r : Int32) (u : (Nat → Int32) × (Nat → Int32) × (Nat → Int32) × (Nat → Int32) × (Nat → Int32) × Int32 × Int32 × (Nat → Int32) × Int32) => post r u.1 u.2.1 u.2.2.1 u.2.2.2.1 u.2.2.2.2.1 u.2.2.2.2.2.1 u.2.2.2.2.2.2.1 u.2.2.2.2.2.2.2.1 u.2.2.2.2.2.2.2.2) (hcB G (va_A [ceX11 h0 a_w a_kept a_laid s_hasImage a_refusals a_row s_rows a_letters s_lettered a_hit a_lead a_defeat a_defeater s_ins s_outs a_order s_ordered a_is a_was s_reading s_isWell a_depths a_ways s_z, caI G a_w 43 g_w, caI G a_refusals 7 g_refusals, caI G a_hit 8 g_hit, caI G a_lead 8 g_lead, caI G a_defeat 8 g_defeat, caI G a_defeater 8 g_defeater, caI G a_order 8 g_order] sz) (fun u : (Nat → Int32) × (Nat → Int32) × (Nat → Int32) × (Nat → Int32) × (Nat → Int32) × Int32 × Int32 × (Nat → Int32) × Int32 => [ceX11 h0 a_w a_kept a_laid s_hasImage a_refusals a_row s_rows a_letters s_lettered a_hit a_lead a_defeat a_defeater u.2.2.2.2.2.1 u.2.2.2.2.2.2.1 a_order u.2.2.2.2.2.2.2.2 a_is a_was s_reading s_isWell a_depths a_ways s_z, caI G a_w 43 g_w, caI G a_refusals 7 u.1, caI G a_hit 8 u.2.1, caI G a_lead 8 u.2.2.1, caI G a_defeat 8 u.2.2.2.1, caI G a_defeater 8 u.2.2.2.2.1, caI G a_order 8 u.2.2.2.2.2.2.2.1])) (va_A [ceX11 h0 a_w a_kept a_laid s_hasImage a_refusals a_row s_rows a_letters s_lettered a_hit a_lead a_defeat a_defeater s_ins s_outs a_order s_ordered a_is a_was s_reading s_isWell a_depths a_ways s_z, caI G a_w 43 g_w, caI G a_refusals 7 g_refusals, caI G a_hit 8 g_hit, caI G a_lead 8 g_lead, caI G a_defeat 8 g_defeat, caI G a_defeater 8 g_defeater, caI G a_order 8 g_order] sz)) 0 0 (va_A [ceX11 h0 a_w a_kept a_laid s_hasImage a_refusals a_row s_rows a_letters s_lettered a_hit a_lead a_defeat a_defeater s_ins s_outs a_order s_ordered a_is a_was s_reading s_isWell a_depths a_ways s_z, caI G a_w 43 g_w, caI G a_refusals 7 g_refusals, caI G a_hit 8 g_hit, caI G a_lead 8 g_lead, caI G a_defeat 8 g_defeat, caI G a_defeater 8 g_defeater, caI G a_order 8 g_order] sz) := by
  refine Met.ofW (cc := cX11_speakers) (maxL := 4) (ret := (some .int)) (by decide) rfl ?_
  intro p e s m args below meth c s₁ B hml hv
  obtain ⟨rfl, hsz, hP, hK, hD0⟩ := hv
  have hx := B.exec
  have hb := B.bytes
  have hr := B.returns
  have hts := atoms_spec (ws := wsX11_speakers) B.pre
  have hown : s.vm.findClass RX11 = some m.cls := findClass_of_methodNamed B.named
  have hlocks := B.notSynchronized
  subst hsz
  have hD := hD0.self (sz := s.heap.size)
  generalize hAe : va_A [ceX11 h0 a_w a_kept a_laid s_hasImage a_refusals a_row s_rows a_letters s_lettered a_hit a_lead a_defeat a_defeater s_ins s_outs a_order s_ordered a_is a_was s_reading s_isWell a_depths a_ways s_z, caI G a_w 43 g_w, caI G a_refusals 7 g_refusals, caI G a_hit 8 g_hit, caI G a_lead 8 g_lead, caI G a_defeat 8 g_defeat, caI G a_defeater 8 g_defeater, caI G a_order 8 g_order] s.heap.size = A at hD ⊢
  have hA : ∀ q : Nat, s.heap.size ≤ q → A q := fun q h => by rw [← hAe]; exact Or.inr h
  have hS : va_S A s.heap s.heap [] := va_S.rf
  have hP : va_P G.1 vwCl [ceX11 h0 a_w a_kept a_laid s_hasImage a_refusals a_row s_rows a_letters s_lettered a_hit a_lead a_defeat a_defeater s_ins s_outs a_order s_ordered a_is a_was s_reading s_isWell a_depths a_ways s_z, caI G a_w 43 g_w, caI G a_refusals 7 g_refusals, caI G a_hit 8 g_hit, caI G a_lead 8 g_lead, caI G a_defeat 8 g_defeat, caI G a_defeater 8 g_defeater, caI G a_order 8 g_order] s.heap := hP
  have hl := lv_entry ([.ref h0, .int x1, .int x2]) (n := 4) (Nat.le_of_ble_eq_true rfl)
  rw [lg_entry_eq]
  generalize (lg_sl ([.ref h0, .int x1, .int x2]) ++ List.replicate (4 - (lg_sl ([.ref h0, .int x1, .int x2])).length) Slot.unset).toArray = ls at hl ⊢
  have hl : lv_has ls 4 [(0, .ref h0), (1, .int x1), (2, .int x2)] := hl
  have kf0 := hts (.fieldLink RX11 79 "HallOfClaimsModel" "ins" "I") (List.mem_of_getElem? (i := 1) (by decide +kernel))
  have ki_X11 : ∀ w ∈ u_ws RX11 TX11 24, w ∈ wsX11_speakers := by decide +kernel
  unfold wp_X11_speakers at h
  refine lv_iload_n hx hb dX11_speakers_0 rfl (lv_at hl 1 rfl) ?_
  refine lv_iconst (v := (-1 : Int32)) hx hb dX11_speakers_1 kc_m1 ?_
  refine lv_icmp_ne (tgt := 10) hx hb dX11_speakers_2 (by decide) (fun c => ?_) (fun c => ?_)
  · replace h := h.1 c
    refine lv_iload_n hx hb dX11_speakers_10 rfl (lv_at hl 1 rfl) ?_
    refine lv_i2l (v := x1.toInt64) hx hb dX11_speakers_11 rfl ?_
    refine lv_lconst (v := lN 0) hx hb dX11_speakers_12 kl_0 ?_
    refine lv_aload_n hx hb dX11_speakers_13 rfl (lv_at hl 0 rfl) ?_
    refine hc_ki (wr := [caI G a_refusals 7 g_refusals, caI G a_hit 8 g_hit, caI G a_lead 8 g_lead, caI G a_defeat 8 g_defeat, caI G a_defeater 8 g_defeater, caI G a_order 8 g_order]) (va_runV (As := []) (rest := [.long (lN 0), .long x1.toInt64]) ⟨hx, hb, hml, hown, hts⟩ (c_X11_speakersAll l G h0 a_w a_kept a_laid a_refusals a_row a_letters a_hit a_lead a_defeat a_defeater a_order a_is a_was a_depths a_ways s.heap.size s_hasImage s_rows s_lettered s_ins s_outs s_ordered s_reading s_isWell s_z g_w _ h) (cwV 0 hts gX11_speakers_X11_speakersAll rfl rfl rfl (by decide +kernel) ⟨Nat.le_of_ble_eq_true rfl, Nat.le_of_ble_eq_true rfl⟩) (hc_pV hK hP hD [0, 1] rfl rfl (ci := 9) 0 rfl rfl) rfl rfl hl.1 rfl (lv_room (Nat.le_of_ble_eq_true rfl)) dX11_speakers_14 ⟨Nat.le_refl _, Nat.le_refl _⟩) hP hD hS hA [0, 1] [2, 3, 4, 5, 6, 7] rfl rfl rfl (by decide) (fun r14 u H locs h hP hD hS => ?_)
    try dsimp only at h
    have hP : va_P G.1 vwCl [caI G a_refusals 7 g_refusals, caI G a_hit 8 g_hit, caI G a_lead 8 g_lead, caI G a_defeat 8 g_defeat, caI G a_defeater 8 g_defeater, caI G a_order 8 g_order, ceX11 h0 a_w a_kept a_laid s_hasImage a_refusals a_row s_rows a_letters s_lettered a_hit a_lead a_defeat a_defeater s_ins s_outs a_order s_ordered a_is a_was s_reading s_isWell a_depths a_ways s_z, caI G a_w 43 g_w] H := hP
    have hD : va_D A [caI G a_refusals 7 g_refusals, caI G a_hit 8 g_hit, caI G a_lead 8 g_lead, caI G a_defeat 8 g_defeat, caI G a_defeater 8 g_defeater, caI G a_order 8 g_order, ceX11 h0 a_w a_kept a_laid s_hasImage a_refusals a_row s_rows a_letters s_lettered a_hit a_lead a_defeat a_defeater s_ins s_outs a_order s_ordered a_is a_was s_reading s_isWell a_depths a_ways s_z, caI G a_w 43 g_w] := hD
    refine lv_iconst (v := nI 1) hx hb dX11_speakers_17 kc_1 ?_
    refine lv_isub hx hb dX11_speakers_18 ?_
    refine lv_i2l (v := (r14 - (nI 1)).toInt64) hx hb dX11_speakers_19 rfl ?_
    refine hc_ki (wr := [caI G a_refusals 7 g_refusals, caI G a_hit 8 g_hit, caI G a_lead 8 g_lead, caI G a_defeat 8 g_defeat, caI G a_defeater 8 g_defeater, caI G a_order 8 g_order, ceX11 h0 a_w a_kept a_laid s_hasImage a_refusals a_row s_rows a_letters s_lettered a_hit a_lead a_defeat a_defeater s_ins s_outs a_order s_ordered a_is a_was s_reading s_isWell a_depths a_ways s_z, caI G a_w 43 g_w]) (va_runS (As := [.long x1.toInt64, .long (lN 0), .long ((r14 - (nI 1)).toInt64)]) (rest := []) ⟨hx, hb, hml, hown, hts⟩ (c_X11_in l G H.size x1.toInt64 (lN 0) ((r14 - (nI 1)).toInt64) _ h) (va_cwS 3 hts gX11_speakers_X11_in rfl rfl rfl (by decide +kernel) ⟨Nat.le_of_ble_eq_true rfl, Nat.le_of_ble_eq_true rfl⟩) (hc_pS hK hP hD [] rfl rfl) rfl rfl hl.1 rfl (lv_room (Nat.le_of_ble_eq_true rfl)) dX11_speakers_20 ⟨Nat.le_refl _, Nat.le_refl _⟩) hP hD hS hA [] [0, 1, 2, 3, 4, 5, 6, 7] rfl rfl rfl (by decide) (fun r20 u H locs h hP hD hS => ?_)
    try dsimp only at h
    have hP : va_P G.1 vwCl [caI G a_refusals 7 g_refusals, caI G a_hit 8 g_hit, caI G a_lead 8 g_lead, caI G a_defeat 8 g_defeat, caI G a_defeater 8 g_defeater, caI G a_order 8 g_order, ceX11 h0 a_w a_kept a_laid s_hasImage a_refusals a_row s_rows a_letters s_lettered a_hit a_lead a_defeat a_defeater s_ins s_outs a_order s_ordered a_is a_was s_reading s_isWell a_depths a_ways s_z, caI G a_w 43 g_w] H := hP
    have hD : va_D A [caI G a_refusals 7 g_refusals, caI G a_hit 8 g_hit, caI G a_lead 8 g_lead, caI G a_defeat 8 g_defeat, caI G a_defeater 8 g_defeater, caI G a_order 8 g_order, ceX11 h0 a_w a_kept a_laid s_hasImage a_refusals a_row s_rows a_letters s_lettered a_hit a_lead a_defeat a_defeater s_ins s_outs a_order s_ordered a_is a_was s_reading s_isWell a_depths a_ways s_z, caI G a_w 43 g_w] := hD
    refine lv_if_ne (tgt := 32) hx hb dX11_speakers_23 (by decide) (fun c => ?_) (fun c => ?_)
    · replace h := h.1 c
      refine lv_aload_n hx hb dX11_speakers_32 rfl (lv_at hl 0 rfl) ?_
      refine lv_iload_n hx hb dX11_speakers_33 rfl (lv_at hl 1 rfl) ?_
      refine hc_ki (wr := [caI G a_refusals 7 g_refusals, caI G a_hit 8 g_hit, caI G a_lead 8 g_lead, caI G a_defeat 8 g_defeat, caI G a_defeater 8 g_defeater, caI G a_order 8 g_order]) (va_runV (As := [.int x1]) (rest := []) ⟨hx, hb, hml, hown, hts⟩ (c_X11_speakerAt l G h0 a_w a_kept a_laid a_refusals a_row a_letters a_hit a_lead a_defeat a_defeater a_order a_is a_was a_depths a_ways H.size s_hasImage s_rows s_lettered s_ins s_outs s_ordered s_reading s_isWell s_z g_w x1 _ h) (cwV 1 hts gX11_speakers_X11_speakerAt rfl rfl rfl (by decide +kernel) ⟨Nat.le_of_ble_eq_true rfl, Nat.le_of_ble_eq_true rfl⟩) (hc_pV hK hP hD [6, 7] rfl rfl (ci := 9) 6 rfl rfl) rfl rfl hl.1 rfl (lv_room (Nat.le_of_ble_eq_true rfl)) dX11_speakers_34 ⟨Nat.le_refl _, Nat.le_refl _⟩) hP hD hS hA [6, 7] [0, 1, 2, 3, 4, 5] rfl rfl rfl (by decide) (fun r34 u H locs h hP hD hS => ?_)
      try dsimp only at h
      have hP : va_P G.1 vwCl [caI G a_refusals 7 g_refusals, caI G a_hit 8 g_hit, caI G a_lead 8 g_lead, caI G a_defeat 8 g_defeat, caI G a_defeater 8 g_defeater, caI G a_order 8 g_order, ceX11 h0 a_w a_kept a_laid s_hasImage a_refusals a_row s_rows a_letters s_lettered a_hit a_lead a_defeat a_defeater s_ins s_outs a_order s_ordered a_is a_was s_reading s_isWell a_depths a_ways s_z, caI G a_w 43 g_w] H := hP
      have hD : va_D A [caI G a_refusals 7 g_refusals, caI G a_hit 8 g_hit, caI G a_lead 8 g_lead, caI G a_defeat 8 g_defeat, caI G a_defeater 8 g_defeater, caI G a_order 8 g_order, ceX11 h0 a_w a_kept a_laid s_hasImage a_refusals a_row s_rows a_letters s_lettered a_hit a_lead a_defeat a_defeater s_ins s_outs a_order s_ordered a_is a_was s_reading s_isWell a_depths a_ways s_z, caI G a_w 43 g_w] := hD
      refine lv_istore_n (lv' := [(3, .int r34), (0, .ref h0), (1, .int x1), (2, .int x2)]) hx hb dX11_speakers_37 rfl hl (by decide) rfl (fun ls hl => ?_)
      refine lv_iload_n hx hb dX11_speakers_38 rfl (lv_at hl 3 rfl) ?_
      rcases hc_sw3 x2 with c | c | c | c | c
      · refine lv_tableOut (tgt := 107) hx hb dX11_speakers_39 c (by decide) ?_
        replace h := h.1 c
        refine lv_aload_n hx hb dX11_speakers_107 rfl (lv_at hl 1 rfl) ?_
        refine lv_bipush (v := (-2 : Int32)) hx hb dX11_speakers_108 kb_m2 ?_
        refine hc_ki (wr := [caI G a_hit 8 g_hit, caI G a_lead 8 g_lead, caI G a_defeat 8 g_defeat, caI G a_defeater 8 g_defeater, caI G a_order 8 g_order, caI G a_w 43 g_w]) (va_runV (As := [.int ((-2 : Int32))]) (rest := []) ⟨hx, hb, hml, hown, hts⟩ (c_X11_refused l G h0 a_w a_kept a_laid a_refusals a_row a_letters a_hit a_lead a_defeat a_defeater a_order a_is a_was a_depths a_ways H.size s_hasImage s_rows s_lettered s_ins s_outs s_ordered s_reading s_isWell s_z g_refusals ((-2 : Int32)) _ h) (cwV 1 hts gX11_speakers_X11_refused rfl rfl rfl (by decide +kernel) ⟨Nat.le_of_ble_eq_true rfl, Nat.le_of_ble_eq_true rfl⟩) (hc_pV hK hP hD [6, 0] rfl rfl (ci := 9) 6 rfl rfl) rfl rfl hl.1 rfl (lv_room (Nat.le_of_ble_eq_true rfl)) dX11_speakers_110 ⟨Nat.le_refl _, Nat.le_refl _⟩) hP hD hS hA [6, 0] [1, 2, 3, 4, 5, 7] rfl rfl rfl (by decide) (fun r110 u H locs h hP hD hS => ?_)
        obtain ⟨g_refusals_110, rfl⟩ : ∃ z, z = u := ⟨_, rfl⟩
        try dsimp only at h
        have hP : va_P G.1 vwCl [caI G a_hit 8 g_hit, caI G a_lead 8 g_lead, caI G a_defeat 8 g_defeat, caI G a_defeater 8 g_defeater, caI G a_order 8 g_order, caI G a_w 43 g_w, ceX11 h0 a_w a_kept a_laid s_hasImage a_refusals a_row s_rows a_letters s_lettered a_hit a_lead a_defeat a_defeater s_ins s_outs a_order s_ordered a_is a_was s_reading s_isWell a_depths a_ways s_z, caI G a_refusals 7 g_refusals_110] H := hP
        have hD : va_D A [caI G a_hit 8 g_hit, caI G a_lead 8 g_lead, caI G a_defeat 8 g_defeat, caI G a_defeater 8 g_defeater, caI G a_order 8 g_order, caI G a_w 43 g_w, ceX11 h0 a_w a_kept a_laid s_hasImage a_refusals a_row s_rows a_letters s_lettered a_hit a_lead a_defeat a_defeater s_ins s_outs a_order s_ordered a_is a_was s_reading s_isWell a_depths a_ways s_z, caI G a_refusals 7 g_refusals_110] := hD
        exact W.iret (v := r110) hx hb hr (fun t ht hW => ⟨⟨_, ⟨g_refusals_110, g_hit, g_lead, g_defeat, g_defeater, s_ins, s_outs, g_order, s_ordered⟩, rfl, h, ⟨by rw [ht]; exact (hP.sub [6, 5, 7, 0, 1, 2, 3, 4] rfl), (hD.sub [6, 5, 7, 0, 1, 2, 3, 4] (by decide) rfl)⟩⟩, hS.F ht⟩) hS.2.2 dX11_speakers_113
      · refine lv_tableIn (tgt := 68) (off := 29) hx hb dX11_speakers_39 (by rw [c]; decide) (by rw [c]; decide) (by rw [c]; decide +kernel) (by decide) ?_
        replace h := h.2.1 c
        refine lv_iload_n hx hb dX11_speakers_68 rfl (lv_at hl 0 rfl) ?_
        exact W.iret (v := r34) hx hb hr (fun t ht hW => ⟨⟨_, ⟨g_refusals, g_hit, g_lead, g_defeat, g_defeater, s_ins, s_outs, g_order, s_ordered⟩, rfl, h, ⟨by rw [ht]; exact (hP.sub [6, 7, 0, 1, 2, 3, 4, 5] rfl), (hD.sub [6, 7, 0, 1, 2, 3, 4, 5] (by decide) rfl)⟩⟩, hS.F ht⟩) hS.2.2 dX11_speakers_69
      · refine lv_tableIn (tgt := 70) (off := 31) hx hb dX11_speakers_39 (by rw [c]; decide) (by rw [c]; decide) (by rw [c]; decide +kernel) (by decide) ?_
        replace h := h.2.2.1 c
        refine lv_aload_n hx hb dX11_speakers_70 rfl (lv_at hl 1 rfl) ?_
        refine lv_iload_n hx hb dX11_speakers_71 rfl (lv_at hl 0 rfl) ?_
        refine hc_ki (wr := [caI G a_refusals 7 g_refusals, caI G a_hit 8 g_hit, caI G a_lead 8 g_lead, caI G a_defeat 8 g_defeat, caI G a_defeater 8 g_defeater, caI G a_order 8 g_order]) (va_runV (As := [.int r34]) (rest := []) ⟨hx, hb, hml, hown, hts⟩ (c_X11_claimsOf l G h0 a_w a_kept a_laid a_refusals a_row a_letters a_hit a_lead a_defeat a_defeater a_order a_is a_was a_depths a_ways H.size s_hasImage s_rows s_lettered s_ins s_outs s_ordered s_reading s_isWell s_z g_w r34 _ h) (cwV 1 hts gX11_speakers_X11_claimsOf rfl rfl rfl (by decide +kernel) ⟨Nat.le_of_ble_eq_true rfl, Nat.le_of_ble_eq_true rfl⟩) (hc_pV hK hP hD [6, 7] rfl rfl (ci := 9) 6 rfl rfl) rfl rfl hl.1 rfl (lv_room (Nat.le_of_ble_eq_true rfl)) dX11_speakers_72 ⟨Nat.le_refl _, Nat.le_refl _⟩) hP hD hS hA [6, 7] [0, 1, 2, 3, 4, 5] rfl rfl rfl (by decide) (fun r72 u H locs h hP hD hS => ?_)
        try dsimp only at h
        have hP : va_P G.1 vwCl [caI G a_refusals 7 g_refusals, caI G a_hit 8 g_hit, caI G a_lead 8 g_lead, caI G a_defeat 8 g_defeat, caI G a_defeater 8 g_defeater, caI G a_order 8 g_order, ceX11 h0 a_w a_kept a_laid s_hasImage a_refusals a_row s_rows a_letters s_lettered a_hit a_lead a_defeat a_defeater s_ins s_outs a_order s_ordered a_is a_was s_reading s_isWell a_depths a_ways s_z, caI G a_w 43 g_w] H := hP
        have hD : va_D A [caI G a_refusals 7 g_refusals, caI G a_hit 8 g_hit, caI G a_lead 8 g_lead, caI G a_defeat 8 g_defeat, caI G a_defeater 8 g_defeater, caI G a_order 8 g_order, ceX11 h0 a_w a_kept a_laid s_hasImage a_refusals a_row s_rows a_letters s_lettered a_hit a_lead a_defeat a_defeater s_ins s_outs a_order s_ordered a_is a_was s_reading s_isWell a_depths a_ways s_z, caI G a_w 43 g_w] := hD
        refine hc_ki (wr := [caI G a_refusals 7 g_refusals, caI G a_hit 8 g_hit, caI G a_lead 8 g_lead, caI G a_defeat 8 g_defeat, caI G a_defeater 8 g_defeater, caI G a_order 8 g_order, ceX11 h0 a_w a_kept a_laid s_hasImage a_refusals a_row s_rows a_letters s_lettered a_hit a_lead a_defeat a_defeater s_ins s_outs a_order s_ordered a_is a_was s_reading s_isWell a_depths a_ways s_z, caI G a_w 43 g_w]) (va_runS (As := [.int r72]) (rest := []) ⟨hx, hb, hml, hown, hts⟩ (c_X11_ones l G H.size r72 _ h) (va_cwS 1 hts gX11_speakers_X11_ones rfl rfl rfl (by decide +kernel) ⟨Nat.le_of_ble_eq_true rfl, Nat.le_of_ble_eq_true rfl⟩) (hc_pS hK hP hD [] rfl rfl) rfl rfl hl.1 rfl (lv_room (Nat.le_of_ble_eq_true rfl)) dX11_speakers_75 ⟨Nat.le_refl _, Nat.le_refl _⟩) hP hD hS hA [] [0, 1, 2, 3, 4, 5, 6, 7] rfl rfl rfl (by decide) (fun r75 u H locs h hP hD hS => ?_)
        try dsimp only at h
        have hP : va_P G.1 vwCl [caI G a_refusals 7 g_refusals, caI G a_hit 8 g_hit, caI G a_lead 8 g_lead, caI G a_defeat 8 g_defeat, caI G a_defeater 8 g_defeater, caI G a_order 8 g_order, ceX11 h0 a_w a_kept a_laid s_hasImage a_refusals a_row s_rows a_letters s_lettered a_hit a_lead a_defeat a_defeater s_ins s_outs a_order s_ordered a_is a_was s_reading s_isWell a_depths a_ways s_z, caI G a_w 43 g_w] H := hP
        have hD : va_D A [caI G a_refusals 7 g_refusals, caI G a_hit 8 g_hit, caI G a_lead 8 g_lead, caI G a_defeat 8 g_defeat, caI G a_defeater 8 g_defeater, caI G a_order 8 g_order, ceX11 h0 a_w a_kept a_laid s_hasImage a_refusals a_row s_rows a_letters s_lettered a_hit a_lead a_defeat a_defeater s_ins s_outs a_order s_ordered a_is a_was s_reading s_isWell a_depths a_ways s_z, caI G a_w 43 g_w] := hD
        exact W.iret (v := r75) hx hb hr (fun t ht hW => ⟨⟨_, ⟨g_refusals, g_hit, g_lead, g_defeat, g_defeater, s_ins, s_outs, g_order, s_ordered⟩, rfl, h, ⟨by rw [ht]; exact (hP.sub [6, 7, 0, 1, 2, 3, 4, 5] rfl), (hD.sub [6, 7, 0, 1, 2, 3, 4, 5] (by decide) rfl)⟩⟩, hS.F ht⟩) hS.2.2 dX11_speakers_78
      · refine lv_tableIn (tgt := 79) (off := 40) hx hb dX11_speakers_39 (by rw [c]; decide) (by rw [c]; decide) (by rw [c]; decide +kernel) (by decide) ?_
        replace h := h.2.2.2.1 c
        refine lv_aload_n hx hb dX11_speakers_79 rfl (lv_at hl 1 rfl) ?_
        refine hc_kv (wr := [caI G a_refusals 7 g_refusals]) (va_runV (As := []) (rest := []) ⟨hx, hb, hml, hown, hts⟩ (c_X11_turnsAll l G h0 a_w a_kept a_laid a_refusals a_row a_letters a_hit a_lead a_defeat a_defeater a_order a_is a_was a_depths a_ways H.size s_hasImage s_rows s_lettered s_ins s_outs s_ordered s_reading s_isWell s_z g_w g_hit g_lead g_defeat g_defeater g_order _ h) (cwV 0 hts gX11_speakers_X11_turnsAll rfl rfl rfl (by decide +kernel) ⟨Nat.le_of_ble_eq_true rfl, Nat.le_of_ble_eq_true rfl⟩) (hc_pV hK hP hD [6, 7, 1, 2, 3, 4, 5] rfl rfl (ci := 9) 6 rfl rfl) rfl rfl hl.1 rfl (lv_room (Nat.le_of_ble_eq_true rfl)) dX11_speakers_80 ⟨Nat.le_refl _, Nat.le_refl _⟩) hP hD hS hA [6, 7, 1, 2, 3, 4, 5] [0] rfl rfl rfl (by decide) (fun u H locs h hP hD hS => ?_)
        obtain ⟨g_hit_80, g_lead_80, g_defeat_80, g_defeater_80, s_ins_80, s_outs_80, g_order_80, s_ordered_80⟩ := u
        try dsimp only at h
        have hP : va_P G.1 vwCl [caI G a_refusals 7 g_refusals, ceX11 h0 a_w a_kept a_laid s_hasImage a_refusals a_row s_rows a_letters s_lettered a_hit a_lead a_defeat a_defeater s_ins_80 s_outs_80 a_order s_ordered_80 a_is a_was s_reading s_isWell a_depths a_ways s_z, caI G a_w 43 g_w, caI G a_hit 8 g_hit_80, caI G a_lead 8 g_lead_80, caI G a_defeat 8 g_defeat_80, caI G a_defeater 8 g_defeater_80, caI G a_order 8 g_order_80] H := hP
        have hD : va_D A [caI G a_refusals 7 g_refusals, ceX11 h0 a_w a_kept a_laid s_hasImage a_refusals a_row s_rows a_letters s_lettered a_hit a_lead a_defeat a_defeater s_ins_80 s_outs_80 a_order s_ordered_80 a_is a_was s_reading s_isWell a_depths a_ways s_z, caI G a_w 43 g_w, caI G a_hit 8 g_hit_80, caI G a_lead 8 g_lead_80, caI G a_defeat 8 g_defeat_80, caI G a_defeater 8 g_defeater_80, caI G a_order 8 g_order_80] := hD
        refine lv_aload_n hx hb dX11_speakers_83 rfl (lv_at hl 1 rfl) ?_
        refine lv_iload_n hx hb dX11_speakers_84 rfl (lv_at hl 0 rfl) ?_
        refine hc_ki (wr := [caI G a_refusals 7 g_refusals, caI G a_hit 8 g_hit_80, caI G a_lead 8 g_lead_80, caI G a_defeat 8 g_defeat_80, caI G a_defeater 8 g_defeater_80, caI G a_order 8 g_order_80]) (va_runV (As := [.int r34]) (rest := []) ⟨hx, hb, hml, hown, hts⟩ (c_X11_claimsOf l G h0 a_w a_kept a_laid a_refusals a_row a_letters a_hit a_lead a_defeat a_defeater a_order a_is a_was a_depths a_ways H.size s_hasImage s_rows s_lettered s_ins_80 s_outs_80 s_ordered_80 s_reading s_isWell s_z g_w r34 _ h) (cwV 1 hts gX11_speakers_X11_claimsOf rfl rfl rfl (by decide +kernel) ⟨Nat.le_of_ble_eq_true rfl, Nat.le_of_ble_eq_true rfl⟩) (hc_pV hK hP hD [1, 2] rfl rfl (ci := 9) 1 rfl rfl) rfl rfl hl.1 rfl (lv_room (Nat.le_of_ble_eq_true rfl)) dX11_speakers_85 ⟨Nat.le_refl _, Nat.le_refl _⟩) hP hD hS hA [1, 2] [0, 3, 4, 5, 6, 7] rfl rfl rfl (by decide) (fun r85 u H locs h hP hD hS => ?_)
        try dsimp only at h
        have hP : va_P G.1 vwCl [caI G a_refusals 7 g_refusals, caI G a_hit 8 g_hit_80, caI G a_lead 8 g_lead_80, caI G a_defeat 8 g_defeat_80, caI G a_defeater 8 g_defeater_80, caI G a_order 8 g_order_80, ceX11 h0 a_w a_kept a_laid s_hasImage a_refusals a_row s_rows a_letters s_lettered a_hit a_lead a_defeat a_defeater s_ins_80 s_outs_80 a_order s_ordered_80 a_is a_was s_reading s_isWell a_depths a_ways s_z, caI G a_w 43 g_w] H := hP
        have hD : va_D A [caI G a_refusals 7 g_refusals, caI G a_hit 8 g_hit_80, caI G a_lead 8 g_lead_80, caI G a_defeat 8 g_defeat_80, caI G a_defeater 8 g_defeater_80, caI G a_order 8 g_order_80, ceX11 h0 a_w a_kept a_laid s_hasImage a_refusals a_row s_rows a_letters s_lettered a_hit a_lead a_defeat a_defeater s_ins_80 s_outs_80 a_order s_ordered_80 a_is a_was s_reading s_isWell a_depths a_ways s_z, caI G a_w 43 g_w] := hD
        refine lv_aload_n hx hb dX11_speakers_88 rfl (lv_at hl 1 rfl) ?_
        refine va_get (D := G.1) (ci := 9) (v := .int s_ins_80) (C := RX11) (T := TX11) (N := 24) hx hb hts ki_X11 hown hK.1 hP 6 rfl rfl 13 (by decide) kf0 (fun _ h9 => h9) rfl dX11_speakers_89 ?_
        refine lv_iand hx hb dX11_speakers_92 ?_
        refine hc_ki (wr := [caI G a_refusals 7 g_refusals, caI G a_hit 8 g_hit_80, caI G a_lead 8 g_lead_80, caI G a_defeat 8 g_defeat_80, caI G a_defeater 8 g_defeater_80, caI G a_order 8 g_order_80, ceX11 h0 a_w a_kept a_laid s_hasImage a_refusals a_row s_rows a_letters s_lettered a_hit a_lead a_defeat a_defeater s_ins_80 s_outs_80 a_order s_ordered_80 a_is a_was s_reading s_isWell a_depths a_ways s_z, caI G a_w 43 g_w]) (va_runS (As := [.int (r85 &&& s_ins_80)]) (rest := []) ⟨hx, hb, hml, hown, hts⟩ (c_X11_ones l G H.size (r85 &&& s_ins_80) _ h) (va_cwS 1 hts gX11_speakers_X11_ones rfl rfl rfl (by decide +kernel) ⟨Nat.le_of_ble_eq_true rfl, Nat.le_of_ble_eq_true rfl⟩) (hc_pS hK hP hD [] rfl rfl) rfl rfl hl.1 rfl (lv_room (Nat.le_of_ble_eq_true rfl)) dX11_speakers_93 ⟨Nat.le_refl _, Nat.le_refl _⟩) hP hD hS hA [] [0, 1, 2, 3, 4, 5, 6, 7] rfl rfl rfl (by decide) (fun r93 u H locs h hP hD hS => ?_)
        try dsimp only at h
        have hP : va_P G.1 vwCl [caI G a_refusals 7 g_refusals, caI G a_hit 8 g_hit_80, caI G a_lead 8 g_lead_80, caI G a_defeat 8 g_defeat_80, caI G a_defeater 8 g_defeater_80, caI G a_order 8 g_order_80, ceX11 h0 a_w a_kept a_laid s_hasImage a_refusals a_row s_rows a_letters s_lettered a_hit a_lead a_defeat a_defeater s_ins_80 s_outs_80 a_order s_ordered_80 a_is a_was s_reading s_isWell a_depths a_ways s_z, caI G a_w 43 g_w] H := hP
        have hD : va_D A [caI G a_refusals 7 g_refusals, caI G a_hit 8 g_hit_80, caI G a_lead 8 g_lead_80, caI G a_defeat 8 g_defeat_80, caI G a_defeater 8 g_defeater_80, caI G a_order 8 g_order_80, ceX11 h0 a_w a_kept a_laid s_hasImage a_refusals a_row s_rows a_letters s_lettered a_hit a_lead a_defeat a_defeater s_ins_80 s_outs_80 a_order s_ordered_80 a_is a_was s_reading s_isWell a_depths a_ways s_z, caI G a_w 43 g_w] := hD
        exact W.iret (v := r93) hx hb hr (fun t ht hW => ⟨⟨_, ⟨g_refusals, g_hit_80, g_lead_80, g_defeat_80, g_defeater_80, s_ins_80, s_outs_80, g_order_80, s_ordered_80⟩, rfl, h, ⟨by rw [ht]; exact (hP.sub [6, 7, 0, 1, 2, 3, 4, 5] rfl), (hD.sub [6, 7, 0, 1, 2, 3, 4, 5] (by decide) rfl)⟩⟩, hS.F ht⟩) hS.2.2 dX11_speakers_96
      · refine lv_tableIn (tgt := 97) (off := 58) hx hb dX11_speakers_39 (by rw [c]; decide) (by rw [c]; decide) (by rw [c]; decide +kernel) (by decide) ?_
        replace h := h.2.2.2.2 c
        refine lv_aload_n hx hb dX11_speakers_97 rfl (lv_at hl 1 rfl) ?_
        refine lv_aload_n hx hb dX11_speakers_98 rfl (lv_at hl 1 rfl) ?_
        refine lv_iload_n hx hb dX11_speakers_99 rfl (lv_at hl 0 rfl) ?_
        refine hc_ki (wr := [caI G a_refusals 7 g_refusals, caI G a_hit 8 g_hit, caI G a_lead 8 g_lead, caI G a_defeat 8 g_defeat, caI G a_defeater 8 g_defeater, caI G a_order 8 g_order]) (va_runV (As := [.int r34]) (rest := [.ref h0]) ⟨hx, hb, hml, hown, hts⟩ (c_X11_claimsOf l G h0 a_w a_kept a_laid a_refusals a_row a_letters a_hit a_lead a_defeat a_defeater a_order a_is a_was a_depths a_ways H.size s_hasImage s_rows s_lettered s_ins s_outs s_ordered s_reading s_isWell s_z g_w r34 _ h) (cwV 1 hts gX11_speakers_X11_claimsOf rfl rfl rfl (by decide +kernel) ⟨Nat.le_of_ble_eq_true rfl, Nat.le_of_ble_eq_true rfl⟩) (hc_pV hK hP hD [6, 7] rfl rfl (ci := 9) 6 rfl rfl) rfl rfl hl.1 rfl (lv_room (Nat.le_of_ble_eq_true rfl)) dX11_speakers_100 ⟨Nat.le_refl _, Nat.le_refl _⟩) hP hD hS hA [6, 7] [0, 1, 2, 3, 4, 5] rfl rfl rfl (by decide) (fun r100 u H locs h hP hD hS => ?_)
        try dsimp only at h
        have hP : va_P G.1 vwCl [caI G a_refusals 7 g_refusals, caI G a_hit 8 g_hit, caI G a_lead 8 g_lead, caI G a_defeat 8 g_defeat, caI G a_defeater 8 g_defeater, caI G a_order 8 g_order, ceX11 h0 a_w a_kept a_laid s_hasImage a_refusals a_row s_rows a_letters s_lettered a_hit a_lead a_defeat a_defeater s_ins s_outs a_order s_ordered a_is a_was s_reading s_isWell a_depths a_ways s_z, caI G a_w 43 g_w] H := hP
        have hD : va_D A [caI G a_refusals 7 g_refusals, caI G a_hit 8 g_hit, caI G a_lead 8 g_lead, caI G a_defeat 8 g_defeat, caI G a_defeater 8 g_defeater, caI G a_order 8 g_order, ceX11 h0 a_w a_kept a_laid s_hasImage a_refusals a_row s_rows a_letters s_lettered a_hit a_lead a_defeat a_defeater s_ins s_outs a_order s_ordered a_is a_was s_reading s_isWell a_depths a_ways s_z, caI G a_w 43 g_w] := hD
        refine hc_ki (wr := [caI G a_refusals 7 g_refusals, caI G a_hit 8 g_hit, caI G a_lead 8 g_lead, caI G a_defeat 8 g_defeat, caI G a_defeater 8 g_defeater, caI G a_order 8 g_order]) (va_runV (As := [.int r100]) (rest := []) ⟨hx, hb, hml, hown, hts⟩ (c_X11_greatestOf l G h0 a_w a_kept a_laid a_refusals a_row a_letters a_hit a_lead a_defeat a_defeater a_order a_is a_was a_depths a_ways H.size s_hasImage s_rows s_lettered s_ins s_outs s_ordered s_reading s_isWell s_z g_w r100 _ h) (cwV 1 hts gX11_speakers_X11_greatestOf rfl rfl rfl (by decide +kernel) ⟨Nat.le_of_ble_eq_true rfl, Nat.le_of_ble_eq_true rfl⟩) (hc_pV hK hP hD [6, 7] rfl rfl (ci := 9) 6 rfl rfl) rfl rfl hl.1 rfl (lv_room (Nat.le_of_ble_eq_true rfl)) dX11_speakers_103 ⟨Nat.le_refl _, Nat.le_refl _⟩) hP hD hS hA [6, 7] [0, 1, 2, 3, 4, 5] rfl rfl rfl (by decide) (fun r103 u H locs h hP hD hS => ?_)
        try dsimp only at h
        have hP : va_P G.1 vwCl [caI G a_refusals 7 g_refusals, caI G a_hit 8 g_hit, caI G a_lead 8 g_lead, caI G a_defeat 8 g_defeat, caI G a_defeater 8 g_defeater, caI G a_order 8 g_order, ceX11 h0 a_w a_kept a_laid s_hasImage a_refusals a_row s_rows a_letters s_lettered a_hit a_lead a_defeat a_defeater s_ins s_outs a_order s_ordered a_is a_was s_reading s_isWell a_depths a_ways s_z, caI G a_w 43 g_w] H := hP
        have hD : va_D A [caI G a_refusals 7 g_refusals, caI G a_hit 8 g_hit, caI G a_lead 8 g_lead, caI G a_defeat 8 g_defeat, caI G a_defeater 8 g_defeater, caI G a_order 8 g_order, ceX11 h0 a_w a_kept a_laid s_hasImage a_refusals a_row s_rows a_letters s_lettered a_hit a_lead a_defeat a_defeater s_ins s_outs a_order s_ordered a_is a_was s_reading s_isWell a_depths a_ways s_z, caI G a_w 43 g_w] := hD
        exact W.iret (v := r103) hx hb hr (fun t ht hW => ⟨⟨_, ⟨g_refusals, g_hit, g_lead, g_defeat, g_defeater, s_ins, s_outs, g_order, s_ordered⟩, rfl, h, ⟨by rw [ht]; exact (hP.sub [6, 7, 0, 1, 2, 3, 4, 5] rfl), (hD.sub [6, 7, 0, 1, 2, 3, 4, 5] (by decide) rfl)⟩⟩, hS.F ht⟩) hS.2.2 dX11_speakers_106
    · replace h := h.2 c
      refine lv_aload_n hx hb dX11_speakers_26 rfl (lv_at hl 0 rfl) ?_
      refine lv_iconst (v := (-1 : Int32)) hx hb dX11_speakers_27 kc_m1 ?_
      refine hc_ki (wr := [caI G a_hit 8 g_hit, caI G a_lead 8 g_lead, caI G a_defeat 8 g_defeat, caI G a_defeater 8 g_defeater, caI G a_order 8 g_order, caI G a_w 43 g_w]) (va_runV (As := [.int ((-1 : Int32))]) (rest := []) ⟨hx, hb, hml, hown, hts⟩ (c_X11_refused l G h0 a_w a_kept a_laid a_refusals a_row a_letters a_hit a_lead a_defeat a_defeater a_order a_is a_was a_depths a_ways H.size s_hasImage s_rows s_lettered s_ins s_outs s_ordered s_reading s_isWell s_z g_refusals ((-1 : Int32)) _ h) (cwV 1 hts gX11_speakers_X11_refused rfl rfl rfl (by decide +kernel) ⟨Nat.le_of_ble_eq_true rfl, Nat.le_of_ble_eq_true rfl⟩) (hc_pV hK hP hD [6, 0] rfl rfl (ci := 9) 6 rfl rfl) rfl rfl hl.1 rfl (lv_room (Nat.le_of_ble_eq_true rfl)) dX11_speakers_28 ⟨Nat.le_refl _, Nat.le_refl _⟩) hP hD hS hA [6, 0] [1, 2, 3, 4, 5, 7] rfl rfl rfl (by decide) (fun r28 u H locs h hP hD hS => ?_)
      obtain ⟨g_refusals_28, rfl⟩ : ∃ z, z = u := ⟨_, rfl⟩
      try dsimp only at h
      have hP : va_P G.1 vwCl [caI G a_hit 8 g_hit, caI G a_lead 8 g_lead, caI G a_defeat 8 g_defeat, caI G a_defeater 8 g_defeater, caI G a_order 8 g_order, caI G a_w 43 g_w, ceX11 h0 a_w a_kept a_laid s_hasImage a_refusals a_row s_rows a_letters s_lettered a_hit a_lead a_defeat a_defeater s_ins s_outs a_order s_ordered a_is a_was s_reading s_isWell a_depths a_ways s_z, caI G a_refusals 7 g_refusals_28] H := hP
      have hD : va_D A [caI G a_hit 8 g_hit, caI G a_lead 8 g_lead, caI G a_defeat 8 g_defeat, caI G a_defeater 8 g_defeater, caI G a_order 8 g_order, caI G a_w 43 g_w, ceX11 h0 a_w a_kept a_laid s_hasImage a_refusals a_row s_rows a_letters s_lettered a_hit a_lead a_defeat a_defeater s_ins s_outs a_order s_ordered a_is a_was s_reading s_isWell a_depths a_ways s_z, caI G a_refusals 7 g_refusals_28] := hD
      exact W.iret (v := r28) hx hb hr (fun t ht hW => ⟨⟨_, ⟨g_refusals_28, g_hit, g_lead, g_defeat, g_defeater, s_ins, s_outs, g_order, s_ordered⟩, rfl, h, ⟨by rw [ht]; exact (hP.sub [6, 5, 7, 0, 1, 2, 3, 4] rfl), (hD.sub [6, 5, 7, 0, 1, 2, 3, 4] (by decide) rfl)⟩⟩, hS.F ht⟩) hS.2.2 dX11_speakers_31
  · replace h := h.2 c
    refine lv_aload_n hx hb dX11_speakers_5 rfl (lv_at hl 0 rfl) ?_
    refine hc_ki (wr := [caI G a_refusals 7 g_refusals, caI G a_hit 8 g_hit, caI G a_lead 8 g_lead, caI G a_defeat 8 g_defeat, caI G a_defeater 8 g_defeater, caI G a_order 8 g_order]) (va_runV (As := []) (rest := []) ⟨hx, hb, hml, hown, hts⟩ (c_X11_speakersAll l G h0 a_w a_kept a_laid a_refusals a_row a_letters a_hit a_lead a_defeat a_defeater a_order a_is a_was a_depths a_ways s.heap.size s_hasImage s_rows s_lettered s_ins s_outs s_ordered s_reading s_isWell s_z g_w _ h) (cwV 0 hts gX11_speakers_X11_speakersAll rfl rfl rfl (by decide +kernel) ⟨Nat.le_of_ble_eq_true rfl, Nat.le_of_ble_eq_true rfl⟩) (hc_pV hK hP hD [0, 1] rfl rfl (ci := 9) 0 rfl rfl) rfl rfl hl.1 rfl (lv_room (Nat.le_of_ble_eq_true rfl)) dX11_speakers_6 ⟨Nat.le_refl _, Nat.le_refl _⟩) hP hD hS hA [0, 1] [2, 3, 4, 5, 6, 7] rfl rfl rfl (by decide) (fun r6 u H locs h hP hD hS => ?_)
    try dsimp only at h
    have hP : va_P G.1 vwCl [caI G a_refusals 7 g_refusals, caI G a_hit 8 g_hit, caI G a_lead 8 g_lead, caI G a_defeat 8 g_defeat, caI G a_defeater 8 g_defeater, caI G a_order 8 g_order, ceX11 h0 a_w a_kept a_laid s_hasImage a_refusals a_row s_rows a_letters s_lettered a_hit a_lead a_defeat a_defeater s_ins s_outs a_order s_ordered a_is a_was s_reading s_isWell a_depths a_ways s_z, caI G a_w 43 g_w] H := hP
    have hD : va_D A [caI G a_refusals 7 g_refusals, caI G a_hit 8 g_hit, caI G a_lead 8 g_lead, caI G a_defeat 8 g_defeat, caI G a_defeater 8 g_defeater, caI G a_order 8 g_order, ceX11 h0 a_w a_kept a_laid s_hasImage a_refusals a_row s_rows a_letters s_lettered a_hit a_lead a_defeat a_defeater s_ins s_outs a_order s_ordered a_is a_was s_reading s_isWell a_depths a_ways s_z, caI G a_w 43 g_w] := hD
    exact W.iret (v := r6) hx hb hr (fun t ht hW => ⟨⟨_, ⟨g_refusals, g_hit, g_lead, g_defeat, g_defeater, s_ins, s_outs, g_order, s_ordered⟩, rfl, h, ⟨by rw [ht]; exact (hP.sub [6, 7, 0, 1, 2, 3, 4, 5] rfl), (hD.sub [6, 7, 0, 1, 2, 3, 4, 5] (by decide) rfl)⟩⟩, hS.F ht⟩) hS.2.2 dX11_speakers_9
set_option maxHeartbeats 4000000 in
set_option maxRecDepth 100000 in
theorem c_X11_draw (l : Launch) (G : hcG) (h0 : Nat) (a_w : Nat) (a_kept : Nat) (a_laid : Nat) (a_refusals : Nat) (a_row : Nat) (a_letters : Nat) (a_hit : Nat) (a_lead : Nat) (a_defeat : Nat) (a_defeater : Nat) (a_order : Nat) (a_is : Nat) (a_was : Nat) (a_depths : Nat) (a_ways : Nat) (sz : Nat) (s_hasImage : Int32) (s_rows : Int32) (s_lettered : Int32) (s_ins : Int32) (s_outs : Int32) (s_ordered : Int32) (s_reading : Int32) (s_isWell : Int32) (s_z : Int32) (x1 : Int32) (post : Int32 → Int32 → Prop) (h : wp_X11_draw post s_z x1) : Met l yX11_draw wsX11_draw ({ frames := 0, cells := 0, slots := 0, locals := 0 }) (hcPc G [.ref h0, .int x1] [ceX11 h0 a_w a_kept a_laid s_hasImage a_refusals a_row s_rows a_letters s_lettered a_hit a_lead a_defeat a_defeater s_ins s_outs a_order s_ordered a_is a_was s_reading s_isWell a_depths a_ways s_z] sz) (va_Qi (fun (r : Int32) (u : Int32) => post r u) (hcB G (va_A [ceX11 h0 a_w a_kept a_laid s_hasImage a_refusals a_row s_rows a_letters s_lettered a_hit a_lead a_defeat a_defeater s_ins s_outs a_order s_ordered a_is a_was s_reading s_isWell a_depths a_ways s_z] sz) (fun u : Int32 => [ceX11 h0 a_w a_kept a_laid s_hasImage a_refusals a_row s_rows a_letters s_lettered a_hit a_lead a_defeat a_defeater s_ins s_outs a_order s_ordered a_is a_was s_reading s_isWell a_depths a_ways u])) (va_A [ceX11 h0 a_w a_kept a_laid s_hasImage a_refusals a_row s_rows a_letters s_lettered a_hit a_lead a_defeat a_defeater s_ins s_outs a_order s_ordered a_is a_was s_reading s_isWell a_depths a_ways s_z] sz)) 0 0 (va_A [ceX11 h0 a_w a_kept a_laid s_hasImage a_refusals a_row s_rows a_letters s_lettered a_hit a_lead a_defeat a_defeater s_ins s_outs a_order s_ordered a_is a_was s_reading s_isWell a_depths a_ways s_z] sz) := by
  refine Met.ofW (cc := cX11_draw) (maxL := 2) (ret := (some .int)) (by decide) rfl ?_
  intro p e s m args below meth c s₁ B hml hv
  obtain ⟨rfl, hsz, hP, hK, hD0⟩ := hv
  have hx := B.exec
  have hb := B.bytes
  have hr := B.returns
  have hts := atoms_spec (ws := wsX11_draw) B.pre
  have hown : s.vm.findClass RX11 = some m.cls := findClass_of_methodNamed B.named
  have hlocks := B.notSynchronized
  subst hsz
  have hD := hD0.self (sz := s.heap.size)
  generalize hAe : va_A [ceX11 h0 a_w a_kept a_laid s_hasImage a_refusals a_row s_rows a_letters s_lettered a_hit a_lead a_defeat a_defeater s_ins s_outs a_order s_ordered a_is a_was s_reading s_isWell a_depths a_ways s_z] s.heap.size = A at hD ⊢
  have hA : ∀ q : Nat, s.heap.size ≤ q → A q := fun q h => by rw [← hAe]; exact Or.inr h
  have hS : va_S A s.heap s.heap [] := va_S.rf
  have hP : va_P G.1 vwCl [ceX11 h0 a_w a_kept a_laid s_hasImage a_refusals a_row s_rows a_letters s_lettered a_hit a_lead a_defeat a_defeater s_ins s_outs a_order s_ordered a_is a_was s_reading s_isWell a_depths a_ways s_z] s.heap := hP
  have hl := lv_entry ([.ref h0, .int x1]) (n := 2) (Nat.le_of_ble_eq_true rfl)
  rw [lg_entry_eq]
  generalize (lg_sl ([.ref h0, .int x1]) ++ List.replicate (2 - (lg_sl ([.ref h0, .int x1])).length) Slot.unset).toArray = ls at hl ⊢
  have hl : lv_has ls 2 [(0, .ref h0), (1, .int x1)] := hl
  have kf0 := hts (.fieldLink RX11 296 "HallOfClaimsModel" "z" "I") (List.mem_of_getElem? (i := 1) (by decide +kernel))
  have kf1 := hts (.constant RX11 299 (1664525)) (List.mem_of_getElem? (i := 2) (by decide +kernel))
  have kf2 := hts (.constant RX11 300 (1013904223)) (List.mem_of_getElem? (i := 3) (by decide +kernel))
  have kf3 := hts (.constant RX11 301 (2147483647)) (List.mem_of_getElem? (i := 4) (by decide +kernel))
  have ki_X11 : ∀ w ∈ u_ws RX11 TX11 24, w ∈ wsX11_draw := by decide +kernel
  unfold wp_X11_draw at h
  refine lv_aload_n hx hb dX11_draw_0 rfl (lv_at hl 0 rfl) ?_
  refine lv_aload_n hx hb dX11_draw_1 rfl (lv_at hl 0 rfl) ?_
  refine va_get (D := G.1) (ci := 9) (v := .int s_z) (C := RX11) (T := TX11) (N := 24) hx hb hts ki_X11 hown hK.1 hP 0 rfl rfl 23 (by decide) kf0 (fun _ h9 => h9) rfl dX11_draw_2 ?_
  refine lv_ldcw (own := RX11) (v := 1664525) hx hb hown kf1 dX11_draw_5 ?_
  refine lv_imul hx hb dX11_draw_8 ?_
  refine lv_ldcw (own := RX11) (v := 1013904223) hx hb hown kf2 dX11_draw_9 ?_
  refine lv_iadd hx hb dX11_draw_12 ?_
  refine va_put (D := G.1) (ci := 9) (v := .int ((s_z * ((1664525 : Int32))) + ((1013904223 : Int32)))) (ty := .int) (C := RX11) (T := TX11) (N := 24) hx hb hts ki_X11 tyX11 tyX11_ok nmX11 hown hK.1 hP hD hS 0 rfl rfl 23 (by decide) kf0 (fun _ h9 => h9) rfl (by decide +kernel) rfl rfl (Nat.le_of_ble_eq_true rfl) dX11_draw_13 (fun H locs hP hD hS => ?_)
  have hP : va_P G.1 vwCl [ceX11 h0 a_w a_kept a_laid s_hasImage a_refusals a_row s_rows a_letters s_lettered a_hit a_lead a_defeat a_defeater s_ins s_outs a_order s_ordered a_is a_was s_reading s_isWell a_depths a_ways ((s_z * ((1664525 : Int32))) + ((1013904223 : Int32)))] H := hP
  have hD : va_D A [ceX11 h0 a_w a_kept a_laid s_hasImage a_refusals a_row s_rows a_letters s_lettered a_hit a_lead a_defeat a_defeater s_ins s_outs a_order s_ordered a_is a_was s_reading s_isWell a_depths a_ways ((s_z * ((1664525 : Int32))) + ((1013904223 : Int32)))] := hD
  refine lv_aload_n hx hb dX11_draw_16 rfl (lv_at hl 0 rfl) ?_
  refine va_get (D := G.1) (ci := 9) (v := .int ((s_z * ((1664525 : Int32))) + ((1013904223 : Int32)))) (C := RX11) (T := TX11) (N := 24) hx hb hts ki_X11 hown hK.1 hP 0 rfl rfl 23 (by decide) kf0 (fun _ h9 => h9) rfl dX11_draw_17 ?_
  refine lv_ldcw (own := RX11) (v := 2147483647) hx hb hown kf3 dX11_draw_20 ?_
  refine lv_iand hx hb dX11_draw_23 ?_
  refine lv_sipush (v := nI 256) hx hb dX11_draw_24 ks_256 ?_
  refine lv_idiv hx hb dX11_draw_27 hc_ne_nI256 ?_
  refine lv_iload_n hx hb dX11_draw_28 rfl (lv_at hl 1 rfl) ?_
  have hne := h.1
  replace h := h.2
  refine lv_irem hx hb dX11_draw_29 hne ?_
  exact W.iret (v := ((((s_z * ((1664525 : Int32))) + ((1013904223 : Int32))) &&& ((2147483647 : Int32))) / (nI 256)) - ((((s_z * ((1664525 : Int32))) + ((1013904223 : Int32))) &&& ((2147483647 : Int32))) / (nI 256)) / x1 * x1) hx hb hr (fun t ht hW => ⟨⟨_, ((s_z * ((1664525 : Int32))) + ((1013904223 : Int32))), rfl, h, ⟨by rw [ht]; exact hP, hD⟩⟩, hS.F ht⟩) hS.2.2 dX11_draw_30
set_option maxHeartbeats 4000000 in
set_option maxRecDepth 100000 in
theorem c_X11_drawsAttacks (l : Launch) (G : hcG) (h0 : Nat) (a_w : Nat) (a_kept : Nat) (a_laid : Nat) (a_refusals : Nat) (a_row : Nat) (a_letters : Nat) (a_hit : Nat) (a_lead : Nat) (a_defeat : Nat) (a_defeater : Nat) (a_order : Nat) (a_is : Nat) (a_was : Nat) (a_depths : Nat) (a_ways : Nat) (sz : Nat) (s_hasImage : Int32) (s_rows : Int32) (s_lettered : Int32) (s_ins : Int32) (s_outs : Int32) (s_ordered : Int32) (s_reading : Int32) (s_isWell : Int32) (s_z : Int32) (g_w : Nat → Int32) (post : (Nat → Int32) → Int32 → Prop) (h : wp_X11_drawsAttacks post g_w s_z) : Met l yX11_drawsAttacks wsX11_drawsAttacks ({ frames := 1, cells := 0, slots := 0, locals := 21 }) (hcPc G [.ref h0] [ceX11 h0 a_w a_kept a_laid s_hasImage a_refusals a_row s_rows a_letters s_lettered a_hit a_lead a_defeat a_defeater s_ins s_outs a_order s_ordered a_is a_was s_reading s_isWell a_depths a_ways s_z, caI G a_w 43 g_w] sz) (va_Qv (fun u : (Nat → Int32) × Int32 => post u.1 u.2) (hcB G (va_A [ceX11 h0 a_w a_kept a_laid s_hasImage a_refusals a_row s_rows a_letters s_lettered a_hit a_lead a_defeat a_defeater s_ins s_outs a_order s_ordered a_is a_was s_reading s_isWell a_depths a_ways s_z, caI G a_w 43 g_w] sz) (fun u : (Nat → Int32) × Int32 => [ceX11 h0 a_w a_kept a_laid s_hasImage a_refusals a_row s_rows a_letters s_lettered a_hit a_lead a_defeat a_defeater s_ins s_outs a_order s_ordered a_is a_was s_reading s_isWell a_depths a_ways u.2, caI G a_w 43 u.1])) (va_A [ceX11 h0 a_w a_kept a_laid s_hasImage a_refusals a_row s_rows a_letters s_lettered a_hit a_lead a_defeat a_defeater s_ins s_outs a_order s_ordered a_is a_was s_reading s_isWell a_depths a_ways s_z, caI G a_w 43 g_w] sz)) 0 0 (va_A [ceX11 h0 a_w a_kept a_laid s_hasImage a_refusals a_row s_rows a_letters s_lettered a_hit a_lead a_defeat a_defeater s_ins s_outs a_order s_ordered a_is a_was s_reading s_isWell a_depths a_ways s_z, caI G a_w 43 g_w] sz) := by
  refine Met.ofW (cc := cX11_drawsAttacks) (maxL := 3) (ret := none) (by decide) rfl ?_
  intro p e s m args below meth c s₁ B hml hv
  obtain ⟨rfl, hsz, hP, hK, hD0⟩ := hv
  have hx := B.exec
  have hb := B.bytes
  have hr := B.returns
  have hts := atoms_spec (ws := wsX11_drawsAttacks) B.pre
  have hown : s.vm.findClass RX11 = some m.cls := findClass_of_methodNamed B.named
  have hlocks := B.notSynchronized
  subst hsz
  have hD := hD0.self (sz := s.heap.size)
  generalize hAe : va_A [ceX11 h0 a_w a_kept a_laid s_hasImage a_refusals a_row s_rows a_letters s_lettered a_hit a_lead a_defeat a_defeater s_ins s_outs a_order s_ordered a_is a_was s_reading s_isWell a_depths a_ways s_z, caI G a_w 43 g_w] s.heap.size = A at hD ⊢
  have hA : ∀ q : Nat, s.heap.size ≤ q → A q := fun q h => by rw [← hAe]; exact Or.inr h
  have hS : va_S A s.heap s.heap [] := va_S.rf
  have hP : va_P G.1 vwCl [ceX11 h0 a_w a_kept a_laid s_hasImage a_refusals a_row s_rows a_letters s_lettered a_hit a_lead a_defeat a_defeater s_ins s_outs a_order s_ordered a_is a_was s_reading s_isWell a_depths a_ways s_z, caI G a_w 43 g_w] s.heap := hP
  have hl := lv_entry ([.ref h0]) (n := 3) (Nat.le_of_ble_eq_true rfl)
  rw [lg_entry_eq]
  generalize (lg_sl ([.ref h0]) ++ List.replicate (3 - (lg_sl ([.ref h0])).length) Slot.unset).toArray = ls at hl ⊢
  have hl : lv_has ls 3 [(0, .ref h0)] := hl
  have kf0 := hts (.fieldLink RX11 9 "HallOfClaimsModel" "w" "[I") (List.mem_of_getElem? (i := 1) (by decide +kernel))
  have ki_X11 : ∀ w ∈ u_ws RX11 TX11 24, w ∈ wsX11_drawsAttacks := by decide +kernel
  have w25 : ∀ (K2 : Int32 → (Nat → Int32) → Int32 → Prop), (∀ (v1 : Int32) (g_w : Nat → Int32) (s_z : Int32) , K2 v1 g_w s_z → ∀ (H : Heap) (locs : List Loc) (ls : Array Slot), va_P G.1 vwCl [ceX11 h0 a_w a_kept a_laid s_hasImage a_refusals a_row s_rows a_letters s_lettered a_hit a_lead a_defeat a_defeater s_ins s_outs a_order s_ordered a_is a_was s_reading s_isWell a_depths a_ways s_z, caI G a_w 43 g_w] H → va_D A [ceX11 h0 a_w a_kept a_laid s_hasImage a_refusals a_row s_rows a_letters s_lettered a_hit a_lead a_defeat a_defeater s_ins s_outs a_order s_ordered a_is a_was s_reading s_isWell a_depths a_ways s_z, caI G a_w 43 g_w] → va_S A s.heap H locs → lv_has ls 3 [(0, .ref h0), (1, .int v1)] → W p l e (headSpec wsX11_drawsAttacks ({ frames := 1, cells := 0, slots := 0, locals := 21 })).room s m ([.ref h0] : List Value).toArray below meth c H locs 0 0 (MQ below (va_Qv (fun u : (Nat → Int32) × Int32 => post u.1 u.2) (hcB G A (fun u : (Nat → Int32) × Int32 => [ceX11 h0 a_w a_kept a_laid s_hasImage a_refusals a_row s_rows a_letters s_lettered a_hit a_lead a_defeat a_defeater s_ins s_outs a_order s_ordered a_is a_was s_reading s_isWell a_depths a_ways u.2, caI G a_w 43 u.1])) A) ([.ref h0] : List Value).toArray s 0 0 A) (F0 m 2 ls [])) → ∀ (n : Nat) (v1 : Int32) (v2 : Int32) (g_w : Nat → Int32) (s_z : Int32) , wp_X11_drawsAttacks_25 post K2 n v1 v2 g_w s_z → ∀ (H : Heap) (locs : List Loc) (ls : Array Slot), va_P G.1 vwCl [ceX11 h0 a_w a_kept a_laid s_hasImage a_refusals a_row s_rows a_letters s_lettered a_hit a_lead a_defeat a_defeater s_ins s_outs a_order s_ordered a_is a_was s_reading s_isWell a_depths a_ways s_z, caI G a_w 43 g_w] H → va_D A [ceX11 h0 a_w a_kept a_laid s_hasImage a_refusals a_row s_rows a_letters s_lettered a_hit a_lead a_defeat a_defeater s_ins s_outs a_order s_ordered a_is a_was s_reading s_isWell a_depths a_ways s_z, caI G a_w 43 g_w] → va_S A s.heap H locs → lv_has ls 3 [(0, .ref h0), (1, .int v1), (2, .int v2)] → W p l e (headSpec wsX11_drawsAttacks ({ frames := 1, cells := 0, slots := 0, locals := 21 })).room s m ([.ref h0] : List Value).toArray below meth c H locs 0 0 (MQ below (va_Qv (fun u : (Nat → Int32) × Int32 => post u.1 u.2) (hcB G A (fun u : (Nat → Int32) × Int32 => [ceX11 h0 a_w a_kept a_laid s_hasImage a_refusals a_row s_rows a_letters s_lettered a_hit a_lead a_defeat a_defeater s_ins s_outs a_order s_ordered a_is a_was s_reading s_isWell a_depths a_ways u.2, caI G a_w 43 u.1])) A) ([.ref h0] : List Value).toArray s 0 0 A) (F0 m 25 ls []) := by
    intro K2 hK2 n
    induction n with
    | zero => intro v1 v2 g_w s_z h; exact h.elim
    | succ n ih =>
      intro v1 v2 g_w s_z h H locs ls hP hD hS hl
      unfold wp_X11_drawsAttacks_25 at h
      refine lv_iload_n hx hb dX11_drawsAttacks_25 rfl (lv_at hl 2 rfl) ?_
      refine lv_aload_n hx hb dX11_drawsAttacks_26 rfl (lv_at hl 0 rfl) ?_
      refine va_get (D := G.1) (ci := 9) (v := .ref a_w) (C := RX11) (T := TX11) (N := 24) hx hb hts ki_X11 hown hK.1 hP 0 rfl rfl 0 (by decide) kf0 (fun _ h9 => h9) rfl dX11_drawsAttacks_27 ?_
      refine lv_bipush (v := nI 42) hx hb dX11_drawsAttacks_30 kb_42 ?_
      have hin := h.1
      replace h := h.2
      refine va_iald hx hb hK.1 hP 1 0 rfl rfl hin dX11_drawsAttacks_32 ?_
      refine lv_icmp_ge (tgt := 74) hx hb dX11_drawsAttacks_33 (by decide) (fun c => ?_) (fun c => ?_)
      · replace h := h.1 c
        refine lv_iinc (v := v1 + nI 1) (lv' := [(1, .int (v1 + nI 1)), (0, .ref h0), (2, .int v2)]) hx hb dX11_drawsAttacks_74 hl (k := 1) rfl (congrArg (fun q => v1 + q) kc_1) (by decide) rfl (fun ls hl => ?_)
        refine lv_goto (tgt := 2) hx hb dX11_drawsAttacks_77 (by decide) ?_
        exact hK2 (v1 + nI 1) g_w s_z h _ _ _ hP hD hS (lv_sub hl [1, 0] rfl)
      · replace h := h.2 c
        refine lv_iload_n hx hb dX11_drawsAttacks_36 rfl (lv_at hl 1 rfl) ?_
        refine lv_iload_n hx hb dX11_drawsAttacks_37 rfl (lv_at hl 2 rfl) ?_
        refine lv_icmp_eq (tgt := 68) hx hb dX11_drawsAttacks_38 (by decide) (fun c => ?_) (fun c => ?_)
        · replace h := h.1 c
          refine lv_iinc (v := v2 + nI 1) (lv' := [(2, .int (v2 + nI 1)), (0, .ref h0), (1, .int v1)]) hx hb dX11_drawsAttacks_68 hl (k := 2) rfl (congrArg (fun q => v2 + q) kc_1) (by decide) rfl (fun ls hl => ?_)
          refine lv_goto (tgt := 25) hx hb dX11_drawsAttacks_71 (by decide) ?_
          exact ih v1 (v2 + nI 1) g_w s_z h _ _ _ hP hD hS (lv_sub hl [1, 2, 0] rfl)
        · replace h := h.2 c
          refine lv_aload_n hx hb dX11_drawsAttacks_41 rfl (lv_at hl 0 rfl) ?_
          refine va_get (D := G.1) (ci := 9) (v := .ref a_w) (C := RX11) (T := TX11) (N := 24) hx hb hts ki_X11 hown hK.1 hP 0 rfl rfl 0 (by decide) kf0 (fun _ h9 => h9) rfl dX11_drawsAttacks_42 ?_
          refine lv_bipush (v := nI 24) hx hb dX11_drawsAttacks_45 kb_24 ?_
          refine lv_iload_n hx hb dX11_drawsAttacks_47 rfl (lv_at hl 1 rfl) ?_
          refine lv_iadd hx hb dX11_drawsAttacks_48 ?_
          refine lv_dup2_11 hx hb dX11_drawsAttacks_49 rfl rfl ?_
          have hin := h.1
          replace h := h.2
          refine va_iald hx hb hK.1 hP 1 0 rfl rfl hin dX11_drawsAttacks_50 ?_
          refine lv_aload_n hx hb dX11_drawsAttacks_51 rfl (lv_at hl 0 rfl) ?_
          refine lv_iconst (v := nI 4) hx hb dX11_drawsAttacks_52 kc_4 ?_
          refine hc_ki (wr := [caI G a_w 43 g_w]) (va_runV (As := [.int (nI 4)]) (rest := [.int (g_w ((nI 24) + v1).toNatClampNeg), .int ((nI 24) + v1), .ref a_w]) ⟨hx, hb, hml, hown, hts⟩ (c_X11_draw l G h0 a_w a_kept a_laid a_refusals a_row a_letters a_hit a_lead a_defeat a_defeater a_order a_is a_was a_depths a_ways H.size s_hasImage s_rows s_lettered s_ins s_outs s_ordered s_reading s_isWell s_z (nI 4) _ h) (cwV 1 hts gX11_drawsAttacks_X11_draw rfl rfl rfl (by decide +kernel) ⟨Nat.le_of_ble_eq_true rfl, Nat.le_of_ble_eq_true rfl⟩) (hc_pV hK hP hD [0] rfl rfl (ci := 9) 0 rfl rfl) rfl rfl hl.1 rfl (lv_room (Nat.le_of_ble_eq_true rfl)) dX11_drawsAttacks_53 ⟨Nat.le_refl _, Nat.le_refl _⟩) hP hD hS hA [0] [1] rfl rfl rfl (by decide) (fun r53 u H locs h hP hD hS => ?_)
          obtain ⟨s_z_53, rfl⟩ : ∃ z, z = u := ⟨_, rfl⟩
          try dsimp only at h
          have hP : va_P G.1 vwCl [caI G a_w 43 g_w, ceX11 h0 a_w a_kept a_laid s_hasImage a_refusals a_row s_rows a_letters s_lettered a_hit a_lead a_defeat a_defeater s_ins s_outs a_order s_ordered a_is a_was s_reading s_isWell a_depths a_ways s_z_53] H := hP
          have hD : va_D A [caI G a_w 43 g_w, ceX11 h0 a_w a_kept a_laid s_hasImage a_refusals a_row s_rows a_letters s_lettered a_hit a_lead a_defeat a_defeater s_ins s_outs a_order s_ordered a_is a_was s_reading s_isWell a_depths a_ways s_z_53] := hD
          refine lv_if_ne (tgt := 65) hx hb dX11_drawsAttacks_56 (by decide) (fun c => ?_) (fun c => ?_)
          · replace h := h.1 c
            refine lv_iconst (v := nI 0) hx hb dX11_drawsAttacks_65 kc_0 ?_
            refine lv_ior hx hb dX11_drawsAttacks_66 ?_
            have hin := h.1
            replace h := h.2
            refine va_iast hx hb hK.1 hP hD hS 0 0 rfl rfl hin dX11_drawsAttacks_67 (fun H locs hP hD hS => ?_)
            have hP : va_P G.1 vwCl [caI G a_w 43 (upd g_w ((nI 24) + v1).toNatClampNeg ((g_w ((nI 24) + v1).toNatClampNeg) ||| (nI 0))), ceX11 h0 a_w a_kept a_laid s_hasImage a_refusals a_row s_rows a_letters s_lettered a_hit a_lead a_defeat a_defeater s_ins s_outs a_order s_ordered a_is a_was s_reading s_isWell a_depths a_ways s_z_53] H := hP
            have hD : va_D A [caI G a_w 43 (upd g_w ((nI 24) + v1).toNatClampNeg ((g_w ((nI 24) + v1).toNatClampNeg) ||| (nI 0))), ceX11 h0 a_w a_kept a_laid s_hasImage a_refusals a_row s_rows a_letters s_lettered a_hit a_lead a_defeat a_defeater s_ins s_outs a_order s_ordered a_is a_was s_reading s_isWell a_depths a_ways s_z_53] := hD
            refine lv_iinc (v := v2 + nI 1) (lv' := [(2, .int (v2 + nI 1)), (0, .ref h0), (1, .int v1)]) hx hb dX11_drawsAttacks_68 hl (k := 2) rfl (congrArg (fun q => v2 + q) kc_1) (by decide) rfl (fun ls hl => ?_)
            refine lv_goto (tgt := 25) hx hb dX11_drawsAttacks_71 (by decide) ?_
            exact ih v1 (v2 + nI 1) (upd g_w ((nI 24) + v1).toNatClampNeg ((g_w ((nI 24) + v1).toNatClampNeg) ||| (nI 0))) s_z_53 h _ _ _ (hP.sub [1, 0] rfl) (hD.sub [1, 0] (by decide) rfl) hS (lv_sub hl [1, 2, 0] rfl)
          · replace h := h.2 c
            refine lv_iconst (v := nI 1) hx hb dX11_drawsAttacks_59 kc_1 ?_
            refine lv_iload_n hx hb dX11_drawsAttacks_60 rfl (lv_at hl 2 rfl) ?_
            refine lv_ishl hx hb dX11_drawsAttacks_61 ?_
            refine lv_goto (tgt := 66) hx hb dX11_drawsAttacks_62 (by decide) ?_
            refine lv_ior hx hb dX11_drawsAttacks_66 ?_
            have hin := h.1
            replace h := h.2
            refine va_iast hx hb hK.1 hP hD hS 0 0 rfl rfl hin dX11_drawsAttacks_67 (fun H locs hP hD hS => ?_)
            have hP : va_P G.1 vwCl [caI G a_w 43 (upd g_w ((nI 24) + v1).toNatClampNeg ((g_w ((nI 24) + v1).toNatClampNeg) ||| ((nI 1) <<< (v2 &&& 31)))), ceX11 h0 a_w a_kept a_laid s_hasImage a_refusals a_row s_rows a_letters s_lettered a_hit a_lead a_defeat a_defeater s_ins s_outs a_order s_ordered a_is a_was s_reading s_isWell a_depths a_ways s_z_53] H := hP
            have hD : va_D A [caI G a_w 43 (upd g_w ((nI 24) + v1).toNatClampNeg ((g_w ((nI 24) + v1).toNatClampNeg) ||| ((nI 1) <<< (v2 &&& 31)))), ceX11 h0 a_w a_kept a_laid s_hasImage a_refusals a_row s_rows a_letters s_lettered a_hit a_lead a_defeat a_defeater s_ins s_outs a_order s_ordered a_is a_was s_reading s_isWell a_depths a_ways s_z_53] := hD
            refine lv_iinc (v := v2 + nI 1) (lv' := [(2, .int (v2 + nI 1)), (0, .ref h0), (1, .int v1)]) hx hb dX11_drawsAttacks_68 hl (k := 2) rfl (congrArg (fun q => v2 + q) kc_1) (by decide) rfl (fun ls hl => ?_)
            refine lv_goto (tgt := 25) hx hb dX11_drawsAttacks_71 (by decide) ?_
            exact ih v1 (v2 + nI 1) (upd g_w ((nI 24) + v1).toNatClampNeg ((g_w ((nI 24) + v1).toNatClampNeg) ||| ((nI 1) <<< (v2 &&& 31)))) s_z_53 h _ _ _ (hP.sub [1, 0] rfl) (hD.sub [1, 0] (by decide) rfl) hS (lv_sub hl [1, 2, 0] rfl)
  have w2 : ∀ (n : Nat) (v1 : Int32) (g_w : Nat → Int32) (s_z : Int32) , wp_X11_drawsAttacks_2 post n v1 g_w s_z → ∀ (H : Heap) (locs : List Loc) (ls : Array Slot), va_P G.1 vwCl [ceX11 h0 a_w a_kept a_laid s_hasImage a_refusals a_row s_rows a_letters s_lettered a_hit a_lead a_defeat a_defeater s_ins s_outs a_order s_ordered a_is a_was s_reading s_isWell a_depths a_ways s_z, caI G a_w 43 g_w] H → va_D A [ceX11 h0 a_w a_kept a_laid s_hasImage a_refusals a_row s_rows a_letters s_lettered a_hit a_lead a_defeat a_defeater s_ins s_outs a_order s_ordered a_is a_was s_reading s_isWell a_depths a_ways s_z, caI G a_w 43 g_w] → va_S A s.heap H locs → lv_has ls 3 [(0, .ref h0), (1, .int v1)] → W p l e (headSpec wsX11_drawsAttacks ({ frames := 1, cells := 0, slots := 0, locals := 21 })).room s m ([.ref h0] : List Value).toArray below meth c H locs 0 0 (MQ below (va_Qv (fun u : (Nat → Int32) × Int32 => post u.1 u.2) (hcB G A (fun u : (Nat → Int32) × Int32 => [ceX11 h0 a_w a_kept a_laid s_hasImage a_refusals a_row s_rows a_letters s_lettered a_hit a_lead a_defeat a_defeater s_ins s_outs a_order s_ordered a_is a_was s_reading s_isWell a_depths a_ways u.2, caI G a_w 43 u.1])) A) ([.ref h0] : List Value).toArray s 0 0 A) (F0 m 2 ls []) := by
    intro n
    induction n with
    | zero => intro v1 g_w s_z h; exact h.elim
    | succ n ih =>
      intro v1 g_w s_z h H locs ls hP hD hS hl
      unfold wp_X11_drawsAttacks_2 at h
      refine lv_iload_n hx hb dX11_drawsAttacks_2 rfl (lv_at hl 1 rfl) ?_
      refine lv_aload_n hx hb dX11_drawsAttacks_3 rfl (lv_at hl 0 rfl) ?_
      refine va_get (D := G.1) (ci := 9) (v := .ref a_w) (C := RX11) (T := TX11) (N := 24) hx hb hts ki_X11 hown hK.1 hP 0 rfl rfl 0 (by decide) kf0 (fun _ h9 => h9) rfl dX11_drawsAttacks_4 ?_
      refine lv_bipush (v := nI 42) hx hb dX11_drawsAttacks_7 kb_42 ?_
      have hin := h.1
      replace h := h.2
      refine va_iald hx hb hK.1 hP 1 0 rfl rfl hin dX11_drawsAttacks_9 ?_
      refine lv_icmp_ge (tgt := 80) hx hb dX11_drawsAttacks_10 (by decide) (fun c => ?_) (fun c => ?_)
      · replace h := h.1 c
        exact W.vret hx hb hr (fun t ht hW => ⟨⟨⟨g_w, s_z⟩, rfl, h, ⟨by rw [ht]; exact hP, hD⟩⟩, hS.F ht⟩) hS.2.2 dX11_drawsAttacks_80
      · replace h := h.2 c
        refine lv_aload_n hx hb dX11_drawsAttacks_13 rfl (lv_at hl 0 rfl) ?_
        refine va_get (D := G.1) (ci := 9) (v := .ref a_w) (C := RX11) (T := TX11) (N := 24) hx hb hts ki_X11 hown hK.1 hP 0 rfl rfl 0 (by decide) kf0 (fun _ h9 => h9) rfl dX11_drawsAttacks_14 ?_
        refine lv_bipush (v := nI 24) hx hb dX11_drawsAttacks_17 kb_24 ?_
        refine lv_iload_n hx hb dX11_drawsAttacks_19 rfl (lv_at hl 1 rfl) ?_
        refine lv_iadd hx hb dX11_drawsAttacks_20 ?_
        refine lv_iconst (v := nI 0) hx hb dX11_drawsAttacks_21 kc_0 ?_
        have hin := h.1
        replace h := h.2
        refine va_iast hx hb hK.1 hP hD hS 1 0 rfl rfl hin dX11_drawsAttacks_22 (fun H locs hP hD hS => ?_)
        have hP : va_P G.1 vwCl [ceX11 h0 a_w a_kept a_laid s_hasImage a_refusals a_row s_rows a_letters s_lettered a_hit a_lead a_defeat a_defeater s_ins s_outs a_order s_ordered a_is a_was s_reading s_isWell a_depths a_ways s_z, caI G a_w 43 (upd g_w ((nI 24) + v1).toNatClampNeg (nI 0))] H := hP
        have hD : va_D A [ceX11 h0 a_w a_kept a_laid s_hasImage a_refusals a_row s_rows a_letters s_lettered a_hit a_lead a_defeat a_defeater s_ins s_outs a_order s_ordered a_is a_was s_reading s_isWell a_depths a_ways s_z, caI G a_w 43 (upd g_w ((nI 24) + v1).toNatClampNeg (nI 0))] := hD
        refine lv_iconst (v := nI 0) hx hb dX11_drawsAttacks_23 kc_0 ?_
        refine lv_istore_n (lv' := [(2, .int (nI 0)), (0, .ref h0), (1, .int v1)]) hx hb dX11_drawsAttacks_24 rfl hl (by decide) rfl (fun ls hl => ?_)
        obtain ⟨n25, h⟩ := h
        exact w25 ((wp_X11_drawsAttacks_2 post n)) ih n25 v1 (nI 0) (upd g_w ((nI 24) + v1).toNatClampNeg (nI 0)) s_z h _ _ _ hP hD hS (lv_sub hl [1, 2, 0] rfl)
  unfold wp_X11_drawsAttacks at h
  refine lv_iconst (v := nI 0) hx hb dX11_drawsAttacks_0 kc_0 ?_
  refine lv_istore_n (lv' := [(1, .int (nI 0)), (0, .ref h0)]) hx hb dX11_drawsAttacks_1 rfl hl (by decide) rfl (fun ls hl => ?_)
  obtain ⟨n2, h⟩ := h
  exact w2  n2 (nI 0) g_w s_z h _ _ _ hP hD hS (lv_sub hl [1, 0] rfl)
set_option maxHeartbeats 4000000 in
set_option maxRecDepth 100000 in
theorem c_X11_lots (l : Launch) (G : hcG) (h0 : Nat) (a_w : Nat) (a_kept : Nat) (a_laid : Nat) (a_refusals : Nat) (a_row : Nat) (a_letters : Nat) (a_hit : Nat) (a_lead : Nat) (a_defeat : Nat) (a_defeater : Nat) (a_order : Nat) (a_is : Nat) (a_was : Nat) (a_depths : Nat) (a_ways : Nat) (sz : Nat) (s_hasImage : Int32) (s_rows : Int32) (s_lettered : Int32) (s_ins : Int32) (s_outs : Int32) (s_ordered : Int32) (s_reading : Int32) (s_isWell : Int32) (s_z : Int32) (g_w : Nat → Int32) (g_laid : Nat → Int32) (g_refusals : Nat → Int32) (g_hit : Nat → Int32) (g_lead : Nat → Int32) (g_defeat : Nat → Int32) (g_defeater : Nat → Int32) (g_order : Nat → Int32) (g_is : Nat → Int32) (x1 : Int32) (x2 : Int32) (x3 : Int32) (post : Int32 → (Nat → Int32) → (Nat → Int32) → (Nat → Int32) → (Nat → Int32) → (Nat → Int32) → (Nat → Int32) → (Nat → Int32) → Int32 → Int32 → (Nat → Int32) → Int32 → (Nat → Int32) → Int32 → Prop) (h : wp_X11_lots post g_w g_laid g_refusals g_hit g_lead g_defeat g_defeater s_ins s_outs g_order s_ordered g_is s_z x1 x2 x3) : Met l yX11_lots wsX11_lots ({ frames := 6, cells := 0, slots := 0, locals := 134 }) (hcPc G [.ref h0, .int x1, .int x2, .int x3] [ceX11 h0 a_w a_kept a_laid s_hasImage a_refusals a_row s_rows a_letters s_lettered a_hit a_lead a_defeat a_defeater s_ins s_outs a_order s_ordered a_is a_was s_reading s_isWell a_depths a_ways s_z, caI G a_w 43 g_w, caI G a_laid 43 g_laid, caI G a_refusals 7 g_refusals, caI G a_hit 8 g_hit, caI G a_lead 8 g_lead, caI G a_defeat 8 g_defeat, caI G a_defeater 8 g_defeater, caI G a_order 8 g_order, caZ G a_is 256 g_is] sz) (va_Qi (fun (r : Int32) (u : (Nat → Int32) × (Nat → Int32) × (Nat → Int32) × (Nat → Int32) × (Nat → Int32) × (Nat → Int32) × (Nat → Int32) × Int32 × Int32 × (Nat → Int32) × Int32 × (Nat → Int32) × Int32) => post r u.1 u.2.1 u.2.2.1 u.2.2.2.1 u.2.2.2.2.1 u.2.2.2.2.2.1 u.2.2.2.2.2.2.1 u.2.2.2.2.2.2.2.1 u.2.2.2.2.2.2.2.2.1 u.2.2.2.2.2.2.2.2.2.1 u.2.2.2.2.2.2.2.2.2.2.1 u.2.2.2.2.2.2.2.2.2.2.2.1 u.2.2.2.2.2.2.2.2.2.2.2.2) (hcB G (va_A [ceX11 h0 a_w a_kept a_laid s_hasImage a_refusals a_row s_rows a_letters s_lettered a_hit a_lead a_defeat a_defeater s_ins s_outs a_order s_ordered a_is a_was s_reading s_isWell a_depths a_ways s_z, caI G a_w 43 g_w, caI G a_laid 43 g_laid, caI G a_refusals 7 g_refusals, caI G a_hit 8 g_hit, caI G a_lead 8 g_lead, caI G a_defeat 8 g_defeat, caI G a_defeater 8 g_defeater, caI G a_order 8 g_order, caZ G a_is 256 g_is] sz) (fun u : (Nat → Int32) × (Nat → Int32) × (Nat → Int32) × (Nat → Int32) × (Nat → Int32) × (Nat → Int32) × (Nat → Int32) × Int32 × Int32 × (Nat → Int32) × Int32 × (Nat → Int32) × Int32 => [ceX11 h0 a_w a_kept a_laid s_hasImage a_refusals a_row s_rows a_letters s_lettered a_hit a_lead a_defeat a_defeater u.2.2.2.2.2.2.2.1 u.2.2.2.2.2.2.2.2.1 a_order u.2.2.2.2.2.2.2.2.2.2.1 a_is a_was s_reading s_isWell a_depths a_ways u.2.2.2.2.2.2.2.2.2.2.2.2, caI G a_w 43 u.1, caI G a_laid 43 u.2.1, caI G a_refusals 7 u.2.2.1, caI G a_hit 8 u.2.2.2.1, caI G a_lead 8 u.2.2.2.2.1, caI G a_defeat 8 u.2.2.2.2.2.1, caI G a_defeater 8 u.2.2.2.2.2.2.1, caI G a_order 8 u.2.2.2.2.2.2.2.2.2.1, caZ G a_is 256 u.2.2.2.2.2.2.2.2.2.2.2.1])) (va_A [ceX11 h0 a_w a_kept a_laid s_hasImage a_refusals a_row s_rows a_letters s_lettered a_hit a_lead a_defeat a_defeater s_ins s_outs a_order s_ordered a_is a_was s_reading s_isWell a_depths a_ways s_z, caI G a_w 43 g_w, caI G a_laid 43 g_laid, caI G a_refusals 7 g_refusals, caI G a_hit 8 g_hit, caI G a_lead 8 g_lead, caI G a_defeat 8 g_defeat, caI G a_defeater 8 g_defeater, caI G a_order 8 g_order, caZ G a_is 256 g_is] sz)) 0 0 (va_A [ceX11 h0 a_w a_kept a_laid s_hasImage a_refusals a_row s_rows a_letters s_lettered a_hit a_lead a_defeat a_defeater s_ins s_outs a_order s_ordered a_is a_was s_reading s_isWell a_depths a_ways s_z, caI G a_w 43 g_w, caI G a_laid 43 g_laid, caI G a_refusals 7 g_refusals, caI G a_hit 8 g_hit, caI G a_lead 8 g_lead, caI G a_defeat 8 g_defeat, caI G a_defeater 8 g_defeater, caI G a_order 8 g_order, caZ G a_is 256 g_is] sz) := by
  refine Met.ofW (cc := cX11_lots) (maxL := 6) (ret := (some .int)) (by decide) rfl ?_
  intro p e s m args below meth c s₁ B hml hv
  obtain ⟨rfl, hsz, hP, hK, hD0⟩ := hv
  have hx := B.exec
  have hb := B.bytes
  have hr := B.returns
  have hts := atoms_spec (ws := wsX11_lots) B.pre
  have hown : s.vm.findClass RX11 = some m.cls := findClass_of_methodNamed B.named
  have hlocks := B.notSynchronized
  subst hsz
  have hD := hD0.self (sz := s.heap.size)
  generalize hAe : va_A [ceX11 h0 a_w a_kept a_laid s_hasImage a_refusals a_row s_rows a_letters s_lettered a_hit a_lead a_defeat a_defeater s_ins s_outs a_order s_ordered a_is a_was s_reading s_isWell a_depths a_ways s_z, caI G a_w 43 g_w, caI G a_laid 43 g_laid, caI G a_refusals 7 g_refusals, caI G a_hit 8 g_hit, caI G a_lead 8 g_lead, caI G a_defeat 8 g_defeat, caI G a_defeater 8 g_defeater, caI G a_order 8 g_order, caZ G a_is 256 g_is] s.heap.size = A at hD ⊢
  have hA : ∀ q : Nat, s.heap.size ≤ q → A q := fun q h => by rw [← hAe]; exact Or.inr h
  have hS : va_S A s.heap s.heap [] := va_S.rf
  have hP : va_P G.1 vwCl [ceX11 h0 a_w a_kept a_laid s_hasImage a_refusals a_row s_rows a_letters s_lettered a_hit a_lead a_defeat a_defeater s_ins s_outs a_order s_ordered a_is a_was s_reading s_isWell a_depths a_ways s_z, caI G a_w 43 g_w, caI G a_laid 43 g_laid, caI G a_refusals 7 g_refusals, caI G a_hit 8 g_hit, caI G a_lead 8 g_lead, caI G a_defeat 8 g_defeat, caI G a_defeater 8 g_defeater, caI G a_order 8 g_order, caZ G a_is 256 g_is] s.heap := hP
  have hl := lv_entry ([.ref h0, .int x1, .int x2, .int x3]) (n := 6) (Nat.le_of_ble_eq_true rfl)
  rw [lg_entry_eq]
  generalize (lg_sl ([.ref h0, .int x1, .int x2, .int x3]) ++ List.replicate (6 - (lg_sl ([.ref h0, .int x1, .int x2, .int x3])).length) Slot.unset).toArray = ls at hl ⊢
  have hl : lv_has ls 6 [(0, .ref h0), (1, .int x1), (2, .int x2), (3, .int x3)] := hl
  have kf0 := hts (.constantLong RX11 263 (20)) (List.mem_of_getElem? (i := 1) (by decide +kernel))
  have kf1 := hts (.fieldLink RX11 296 "HallOfClaimsModel" "z" "I") (List.mem_of_getElem? (i := 2) (by decide +kernel))
  have kf2 := hts (.fieldLink RX11 79 "HallOfClaimsModel" "ins" "I") (List.mem_of_getElem? (i := 3) (by decide +kernel))
  have ki_X11 : ∀ w ∈ u_ws RX11 TX11 24, w ∈ wsX11_lots := by decide +kernel
  have w85 : ∀ (K61 : Int32 → Int32 → (Nat → Int32) → (Nat → Int32) → (Nat → Int32) → (Nat → Int32) → (Nat → Int32) → (Nat → Int32) → (Nat → Int32) → Int32 → Int32 → (Nat → Int32) → Int32 → (Nat → Int32) → Int32 → Prop), (∀ (v4 : Int32) (v5 : Int32) (g_w : Nat → Int32) (g_laid : Nat → Int32) (g_refusals : Nat → Int32) (g_hit : Nat → Int32) (g_lead : Nat → Int32) (g_defeat : Nat → Int32) (g_defeater : Nat → Int32) (s_ins : Int32) (s_outs : Int32) (g_order : Nat → Int32) (s_ordered : Int32) (g_is : Nat → Int32) (s_z : Int32) , K61 v4 v5 g_w g_laid g_refusals g_hit g_lead g_defeat g_defeater s_ins s_outs g_order s_ordered g_is s_z → ∀ (H : Heap) (locs : List Loc) (ls : Array Slot), va_P G.1 vwCl [ceX11 h0 a_w a_kept a_laid s_hasImage a_refusals a_row s_rows a_letters s_lettered a_hit a_lead a_defeat a_defeater s_ins s_outs a_order s_ordered a_is a_was s_reading s_isWell a_depths a_ways s_z, caI G a_w 43 g_w, caI G a_laid 43 g_laid, caI G a_refusals 7 g_refusals, caI G a_hit 8 g_hit, caI G a_lead 8 g_lead, caI G a_defeat 8 g_defeat, caI G a_defeater 8 g_defeater, caI G a_order 8 g_order, caZ G a_is 256 g_is] H → va_D A [ceX11 h0 a_w a_kept a_laid s_hasImage a_refusals a_row s_rows a_letters s_lettered a_hit a_lead a_defeat a_defeater s_ins s_outs a_order s_ordered a_is a_was s_reading s_isWell a_depths a_ways s_z, caI G a_w 43 g_w, caI G a_laid 43 g_laid, caI G a_refusals 7 g_refusals, caI G a_hit 8 g_hit, caI G a_lead 8 g_lead, caI G a_defeat 8 g_defeat, caI G a_defeater 8 g_defeater, caI G a_order 8 g_order, caZ G a_is 256 g_is] → va_S A s.heap H locs → lv_has ls 6 [(0, .ref h0), (1, .int x1), (3, .int x3), (4, .int v4), (5, .int v5)] → W p l e (headSpec wsX11_lots ({ frames := 6, cells := 0, slots := 0, locals := 134 })).room s m ([.ref h0, .int x1, .int x2, .int x3] : List Value).toArray below meth c H locs 0 0 (MQ below (va_Qi (fun (r : Int32) (u : (Nat → Int32) × (Nat → Int32) × (Nat → Int32) × (Nat → Int32) × (Nat → Int32) × (Nat → Int32) × (Nat → Int32) × Int32 × Int32 × (Nat → Int32) × Int32 × (Nat → Int32) × Int32) => post r u.1 u.2.1 u.2.2.1 u.2.2.2.1 u.2.2.2.2.1 u.2.2.2.2.2.1 u.2.2.2.2.2.2.1 u.2.2.2.2.2.2.2.1 u.2.2.2.2.2.2.2.2.1 u.2.2.2.2.2.2.2.2.2.1 u.2.2.2.2.2.2.2.2.2.2.1 u.2.2.2.2.2.2.2.2.2.2.2.1 u.2.2.2.2.2.2.2.2.2.2.2.2) (hcB G A (fun u : (Nat → Int32) × (Nat → Int32) × (Nat → Int32) × (Nat → Int32) × (Nat → Int32) × (Nat → Int32) × (Nat → Int32) × Int32 × Int32 × (Nat → Int32) × Int32 × (Nat → Int32) × Int32 => [ceX11 h0 a_w a_kept a_laid s_hasImage a_refusals a_row s_rows a_letters s_lettered a_hit a_lead a_defeat a_defeater u.2.2.2.2.2.2.2.1 u.2.2.2.2.2.2.2.2.1 a_order u.2.2.2.2.2.2.2.2.2.2.1 a_is a_was s_reading s_isWell a_depths a_ways u.2.2.2.2.2.2.2.2.2.2.2.2, caI G a_w 43 u.1, caI G a_laid 43 u.2.1, caI G a_refusals 7 u.2.2.1, caI G a_hit 8 u.2.2.2.1, caI G a_lead 8 u.2.2.2.2.1, caI G a_defeat 8 u.2.2.2.2.2.1, caI G a_defeater 8 u.2.2.2.2.2.2.1, caI G a_order 8 u.2.2.2.2.2.2.2.2.2.1, caZ G a_is 256 u.2.2.2.2.2.2.2.2.2.2.2.1])) A) ([.ref h0, .int x1, .int x2, .int x3] : List Value).toArray s 0 0 A) (F0 m 61 ls [])) → ∀ (v4 : Int32) (v5 : Int32) (g_w : Nat → Int32) (g_laid : Nat → Int32) (g_refusals : Nat → Int32) (g_hit : Nat → Int32) (g_lead : Nat → Int32) (g_defeat : Nat → Int32) (g_defeater : Nat → Int32) (s_ins : Int32) (s_outs : Int32) (g_order : Nat → Int32) (s_ordered : Int32) (g_is : Nat → Int32) (s_z : Int32) , wp_X11_lots_85 post x1 x2 x3 K61 v4 v5 g_w g_laid g_refusals g_hit g_lead g_defeat g_defeater s_ins s_outs g_order s_ordered g_is s_z → ∀ (H : Heap) (locs : List Loc) (ls : Array Slot), va_P G.1 vwCl [ceX11 h0 a_w a_kept a_laid s_hasImage a_refusals a_row s_rows a_letters s_lettered a_hit a_lead a_defeat a_defeater s_ins s_outs a_order s_ordered a_is a_was s_reading s_isWell a_depths a_ways s_z, caI G a_w 43 g_w, caI G a_laid 43 g_laid, caI G a_refusals 7 g_refusals, caI G a_hit 8 g_hit, caI G a_lead 8 g_lead, caI G a_defeat 8 g_defeat, caI G a_defeater 8 g_defeater, caI G a_order 8 g_order, caZ G a_is 256 g_is] H → va_D A [ceX11 h0 a_w a_kept a_laid s_hasImage a_refusals a_row s_rows a_letters s_lettered a_hit a_lead a_defeat a_defeater s_ins s_outs a_order s_ordered a_is a_was s_reading s_isWell a_depths a_ways s_z, caI G a_w 43 g_w, caI G a_laid 43 g_laid, caI G a_refusals 7 g_refusals, caI G a_hit 8 g_hit, caI G a_lead 8 g_lead, caI G a_defeat 8 g_defeat, caI G a_defeater 8 g_defeater, caI G a_order 8 g_order, caZ G a_is 256 g_is] → va_S A s.heap H locs → lv_has ls 6 [(0, .ref h0), (1, .int x1), (3, .int x3), (4, .int v4), (5, .int v5)] → W p l e (headSpec wsX11_lots ({ frames := 6, cells := 0, slots := 0, locals := 134 })).room s m ([.ref h0, .int x1, .int x2, .int x3] : List Value).toArray below meth c H locs 0 0 (MQ below (va_Qi (fun (r : Int32) (u : (Nat → Int32) × (Nat → Int32) × (Nat → Int32) × (Nat → Int32) × (Nat → Int32) × (Nat → Int32) × (Nat → Int32) × Int32 × Int32 × (Nat → Int32) × Int32 × (Nat → Int32) × Int32) => post r u.1 u.2.1 u.2.2.1 u.2.2.2.1 u.2.2.2.2.1 u.2.2.2.2.2.1 u.2.2.2.2.2.2.1 u.2.2.2.2.2.2.2.1 u.2.2.2.2.2.2.2.2.1 u.2.2.2.2.2.2.2.2.2.1 u.2.2.2.2.2.2.2.2.2.2.1 u.2.2.2.2.2.2.2.2.2.2.2.1 u.2.2.2.2.2.2.2.2.2.2.2.2) (hcB G A (fun u : (Nat → Int32) × (Nat → Int32) × (Nat → Int32) × (Nat → Int32) × (Nat → Int32) × (Nat → Int32) × (Nat → Int32) × Int32 × Int32 × (Nat → Int32) × Int32 × (Nat → Int32) × Int32 => [ceX11 h0 a_w a_kept a_laid s_hasImage a_refusals a_row s_rows a_letters s_lettered a_hit a_lead a_defeat a_defeater u.2.2.2.2.2.2.2.1 u.2.2.2.2.2.2.2.2.1 a_order u.2.2.2.2.2.2.2.2.2.2.1 a_is a_was s_reading s_isWell a_depths a_ways u.2.2.2.2.2.2.2.2.2.2.2.2, caI G a_w 43 u.1, caI G a_laid 43 u.2.1, caI G a_refusals 7 u.2.2.1, caI G a_hit 8 u.2.2.2.1, caI G a_lead 8 u.2.2.2.2.1, caI G a_defeat 8 u.2.2.2.2.2.1, caI G a_defeater 8 u.2.2.2.2.2.2.1, caI G a_order 8 u.2.2.2.2.2.2.2.2.2.1, caZ G a_is 256 u.2.2.2.2.2.2.2.2.2.2.2.1])) A) ([.ref h0, .int x1, .int x2, .int x3] : List Value).toArray s 0 0 A) (F0 m 85 ls []) := by
    intro K61 hK61 v4 v5 g_w g_laid g_refusals g_hit g_lead g_defeat g_defeater s_ins s_outs g_order s_ordered g_is s_z h H locs ls hP hD hS hl
    unfold wp_X11_lots_85 at h
    refine lv_iload hx hb dX11_lots_85 (lv_at hl 3 rfl) ?_
    refine lv_iload_n hx hb dX11_lots_87 rfl (lv_at hl 2 rfl) ?_
    refine lv_if_ne (tgt := 101) hx hb dX11_lots_88 (by decide) (fun c => ?_) (fun c => ?_)
    · replace h := h.1 c
      refine lv_aload_n hx hb dX11_lots_101 rfl (lv_at hl 0 rfl) ?_
      refine hc_ki (wr := [caI G a_w 43 g_w, caI G a_laid 43 g_laid, caI G a_refusals 7 g_refusals, caI G a_hit 8 g_hit, caI G a_lead 8 g_lead, caI G a_defeat 8 g_defeat, caI G a_defeater 8 g_defeater, caI G a_order 8 g_order]) (va_runV (As := []) (rest := [.int v4]) ⟨hx, hb, hml, hown, hts⟩ (c_X11_found l G h0 a_w a_kept a_laid a_refusals a_row a_letters a_hit a_lead a_defeat a_defeater a_order a_is a_was a_depths a_ways H.size s_hasImage s_rows s_lettered s_ins s_outs s_ordered s_reading s_isWell s_z g_is _ h) (cwV 0 hts gX11_lots_X11_found rfl rfl rfl (by decide +kernel) ⟨Nat.le_of_ble_eq_true rfl, Nat.le_of_ble_eq_true rfl⟩) (hc_pV hK hP hD [0, 9] rfl rfl (ci := 9) 0 rfl rfl) rfl rfl hl.1 rfl (lv_room (Nat.le_of_ble_eq_true rfl)) dX11_lots_102 ⟨Nat.le_refl _, Nat.le_refl _⟩) hP hD hS hA [0, 9] [1, 2, 3, 4, 5, 6, 7, 8] rfl rfl rfl (by decide) (fun r102 u H locs h hP hD hS => ?_)
      try dsimp only at h
      have hP : va_P G.1 vwCl [caI G a_w 43 g_w, caI G a_laid 43 g_laid, caI G a_refusals 7 g_refusals, caI G a_hit 8 g_hit, caI G a_lead 8 g_lead, caI G a_defeat 8 g_defeat, caI G a_defeater 8 g_defeater, caI G a_order 8 g_order, ceX11 h0 a_w a_kept a_laid s_hasImage a_refusals a_row s_rows a_letters s_lettered a_hit a_lead a_defeat a_defeater s_ins s_outs a_order s_ordered a_is a_was s_reading s_isWell a_depths a_ways s_z, caZ G a_is 256 g_is] H := hP
      have hD : va_D A [caI G a_w 43 g_w, caI G a_laid 43 g_laid, caI G a_refusals 7 g_refusals, caI G a_hit 8 g_hit, caI G a_lead 8 g_lead, caI G a_defeat 8 g_defeat, caI G a_defeater 8 g_defeater, caI G a_order 8 g_order, ceX11 h0 a_w a_kept a_laid s_hasImage a_refusals a_row s_rows a_letters s_lettered a_hit a_lead a_defeat a_defeater s_ins s_outs a_order s_ordered a_is a_was s_reading s_isWell a_depths a_ways s_z, caZ G a_is 256 g_is] := hD
      refine lv_iadd hx hb dX11_lots_105 ?_
      refine lv_istore (lv' := [(4, .int (v4 + r102)), (0, .ref h0), (1, .int x1), (3, .int x3), (5, .int v5)]) hx hb dX11_lots_106 hl (by decide) rfl (fun ls hl => ?_)
      refine lv_iinc (v := v5 + nI 1) (lv' := [(5, .int (v5 + nI 1)), (4, .int (v4 + r102)), (0, .ref h0), (1, .int x1), (3, .int x3)]) hx hb dX11_lots_108 hl (k := 4) rfl (congrArg (fun q => v5 + q) kc_1) (by decide) rfl (fun ls hl => ?_)
      refine lv_goto (tgt := 61) hx hb dX11_lots_111 (by decide) ?_
      exact hK61 (v4 + r102) (v5 + nI 1) g_w g_laid g_refusals g_hit g_lead g_defeat g_defeater s_ins s_outs g_order s_ordered g_is s_z h _ _ _ (hP.sub [8, 0, 1, 2, 3, 4, 5, 6, 7, 9] rfl) (hD.sub [8, 0, 1, 2, 3, 4, 5, 6, 7, 9] (by decide) rfl) hS (lv_sub hl [2, 3, 4, 1, 0] rfl)
    · replace h := h.2 c
      refine lv_aload_n hx hb dX11_lots_91 rfl (lv_at hl 0 rfl) ?_
      refine va_get (D := G.1) (ci := 9) (v := .int s_ins) (C := RX11) (T := TX11) (N := 24) hx hb hts ki_X11 hown hK.1 hP 0 rfl rfl 13 (by decide) kf2 (fun _ h9 => h9) rfl dX11_lots_92 ?_
      refine hc_ki (wr := [ceX11 h0 a_w a_kept a_laid s_hasImage a_refusals a_row s_rows a_letters s_lettered a_hit a_lead a_defeat a_defeater s_ins s_outs a_order s_ordered a_is a_was s_reading s_isWell a_depths a_ways s_z, caI G a_w 43 g_w, caI G a_laid 43 g_laid, caI G a_refusals 7 g_refusals, caI G a_hit 8 g_hit, caI G a_lead 8 g_lead, caI G a_defeat 8 g_defeat, caI G a_defeater 8 g_defeater, caI G a_order 8 g_order, caZ G a_is 256 g_is]) (va_runS (As := [.int s_ins]) (rest := [.int v4]) ⟨hx, hb, hml, hown, hts⟩ (c_X11_ones l G H.size s_ins _ h) (va_cwS 1 hts gX11_lots_X11_ones rfl rfl rfl (by decide +kernel) ⟨Nat.le_of_ble_eq_true rfl, Nat.le_of_ble_eq_true rfl⟩) (hc_pS hK hP hD [] rfl rfl) rfl rfl hl.1 rfl (lv_room (Nat.le_of_ble_eq_true rfl)) dX11_lots_95 ⟨Nat.le_refl _, Nat.le_refl _⟩) hP hD hS hA [] [0, 1, 2, 3, 4, 5, 6, 7, 8, 9] rfl rfl rfl (by decide) (fun r95 u H locs h hP hD hS => ?_)
      try dsimp only at h
      have hP : va_P G.1 vwCl [ceX11 h0 a_w a_kept a_laid s_hasImage a_refusals a_row s_rows a_letters s_lettered a_hit a_lead a_defeat a_defeater s_ins s_outs a_order s_ordered a_is a_was s_reading s_isWell a_depths a_ways s_z, caI G a_w 43 g_w, caI G a_laid 43 g_laid, caI G a_refusals 7 g_refusals, caI G a_hit 8 g_hit, caI G a_lead 8 g_lead, caI G a_defeat 8 g_defeat, caI G a_defeater 8 g_defeater, caI G a_order 8 g_order, caZ G a_is 256 g_is] H := hP
      have hD : va_D A [ceX11 h0 a_w a_kept a_laid s_hasImage a_refusals a_row s_rows a_letters s_lettered a_hit a_lead a_defeat a_defeater s_ins s_outs a_order s_ordered a_is a_was s_reading s_isWell a_depths a_ways s_z, caI G a_w 43 g_w, caI G a_laid 43 g_laid, caI G a_refusals 7 g_refusals, caI G a_hit 8 g_hit, caI G a_lead 8 g_lead, caI G a_defeat 8 g_defeat, caI G a_defeater 8 g_defeater, caI G a_order 8 g_order, caZ G a_is 256 g_is] := hD
      refine lv_goto (tgt := 105) hx hb dX11_lots_98 (by decide) ?_
      refine lv_iadd hx hb dX11_lots_105 ?_
      refine lv_istore (lv' := [(4, .int (v4 + r95)), (0, .ref h0), (1, .int x1), (3, .int x3), (5, .int v5)]) hx hb dX11_lots_106 hl (by decide) rfl (fun ls hl => ?_)
      refine lv_iinc (v := v5 + nI 1) (lv' := [(5, .int (v5 + nI 1)), (4, .int (v4 + r95)), (0, .ref h0), (1, .int x1), (3, .int x3)]) hx hb dX11_lots_108 hl (k := 4) rfl (congrArg (fun q => v5 + q) kc_1) (by decide) rfl (fun ls hl => ?_)
      refine lv_goto (tgt := 61) hx hb dX11_lots_111 (by decide) ?_
      exact hK61 (v4 + r95) (v5 + nI 1) g_w g_laid g_refusals g_hit g_lead g_defeat g_defeater s_ins s_outs g_order s_ordered g_is s_z h _ _ _ hP hD hS (lv_sub hl [2, 3, 4, 1, 0] rfl)
  have w61 : ∀ (n : Nat) (v4 : Int32) (v5 : Int32) (g_w : Nat → Int32) (g_laid : Nat → Int32) (g_refusals : Nat → Int32) (g_hit : Nat → Int32) (g_lead : Nat → Int32) (g_defeat : Nat → Int32) (g_defeater : Nat → Int32) (s_ins : Int32) (s_outs : Int32) (g_order : Nat → Int32) (s_ordered : Int32) (g_is : Nat → Int32) (s_z : Int32) , wp_X11_lots_61 post x1 x2 x3 n v4 v5 g_w g_laid g_refusals g_hit g_lead g_defeat g_defeater s_ins s_outs g_order s_ordered g_is s_z → ∀ (H : Heap) (locs : List Loc) (ls : Array Slot), va_P G.1 vwCl [ceX11 h0 a_w a_kept a_laid s_hasImage a_refusals a_row s_rows a_letters s_lettered a_hit a_lead a_defeat a_defeater s_ins s_outs a_order s_ordered a_is a_was s_reading s_isWell a_depths a_ways s_z, caI G a_w 43 g_w, caI G a_laid 43 g_laid, caI G a_refusals 7 g_refusals, caI G a_hit 8 g_hit, caI G a_lead 8 g_lead, caI G a_defeat 8 g_defeat, caI G a_defeater 8 g_defeater, caI G a_order 8 g_order, caZ G a_is 256 g_is] H → va_D A [ceX11 h0 a_w a_kept a_laid s_hasImage a_refusals a_row s_rows a_letters s_lettered a_hit a_lead a_defeat a_defeater s_ins s_outs a_order s_ordered a_is a_was s_reading s_isWell a_depths a_ways s_z, caI G a_w 43 g_w, caI G a_laid 43 g_laid, caI G a_refusals 7 g_refusals, caI G a_hit 8 g_hit, caI G a_lead 8 g_lead, caI G a_defeat 8 g_defeat, caI G a_defeater 8 g_defeater, caI G a_order 8 g_order, caZ G a_is 256 g_is] → va_S A s.heap H locs → lv_has ls 6 [(0, .ref h0), (1, .int x1), (3, .int x3), (4, .int v4), (5, .int v5)] → W p l e (headSpec wsX11_lots ({ frames := 6, cells := 0, slots := 0, locals := 134 })).room s m ([.ref h0, .int x1, .int x2, .int x3] : List Value).toArray below meth c H locs 0 0 (MQ below (va_Qi (fun (r : Int32) (u : (Nat → Int32) × (Nat → Int32) × (Nat → Int32) × (Nat → Int32) × (Nat → Int32) × (Nat → Int32) × (Nat → Int32) × Int32 × Int32 × (Nat → Int32) × Int32 × (Nat → Int32) × Int32) => post r u.1 u.2.1 u.2.2.1 u.2.2.2.1 u.2.2.2.2.1 u.2.2.2.2.2.1 u.2.2.2.2.2.2.1 u.2.2.2.2.2.2.2.1 u.2.2.2.2.2.2.2.2.1 u.2.2.2.2.2.2.2.2.2.1 u.2.2.2.2.2.2.2.2.2.2.1 u.2.2.2.2.2.2.2.2.2.2.2.1 u.2.2.2.2.2.2.2.2.2.2.2.2) (hcB G A (fun u : (Nat → Int32) × (Nat → Int32) × (Nat → Int32) × (Nat → Int32) × (Nat → Int32) × (Nat → Int32) × (Nat → Int32) × Int32 × Int32 × (Nat → Int32) × Int32 × (Nat → Int32) × Int32 => [ceX11 h0 a_w a_kept a_laid s_hasImage a_refusals a_row s_rows a_letters s_lettered a_hit a_lead a_defeat a_defeater u.2.2.2.2.2.2.2.1 u.2.2.2.2.2.2.2.2.1 a_order u.2.2.2.2.2.2.2.2.2.2.1 a_is a_was s_reading s_isWell a_depths a_ways u.2.2.2.2.2.2.2.2.2.2.2.2, caI G a_w 43 u.1, caI G a_laid 43 u.2.1, caI G a_refusals 7 u.2.2.1, caI G a_hit 8 u.2.2.2.1, caI G a_lead 8 u.2.2.2.2.1, caI G a_defeat 8 u.2.2.2.2.2.1, caI G a_defeater 8 u.2.2.2.2.2.2.1, caI G a_order 8 u.2.2.2.2.2.2.2.2.2.1, caZ G a_is 256 u.2.2.2.2.2.2.2.2.2.2.2.1])) A) ([.ref h0, .int x1, .int x2, .int x3] : List Value).toArray s 0 0 A) (F0 m 61 ls []) := by
    intro n
    induction n with
    | zero => intro v4 v5 g_w g_laid g_refusals g_hit g_lead g_defeat g_defeater s_ins s_outs g_order s_ordered g_is s_z h; exact h.elim
    | succ n ih =>
      intro v4 v5 g_w g_laid g_refusals g_hit g_lead g_defeat g_defeater s_ins s_outs g_order s_ordered g_is s_z h H locs ls hP hD hS hl
      unfold wp_X11_lots_61 at h
      refine lv_iload hx hb dX11_lots_61 (lv_at hl 4 rfl) ?_
      refine lv_iload_n hx hb dX11_lots_63 rfl (lv_at hl 1 rfl) ?_
      refine lv_icmp_ge (tgt := 114) hx hb dX11_lots_64 (by decide) (fun c => ?_) (fun c => ?_)
      · replace h := h.1 c
        refine lv_aload_n hx hb dX11_lots_114 rfl (lv_at hl 0 rfl) ?_
        refine hc_kv (wr := [caI G a_refusals 7 g_refusals, caI G a_hit 8 g_hit, caI G a_lead 8 g_lead, caI G a_defeat 8 g_defeat, caI G a_defeater 8 g_defeater, caI G a_order 8 g_order, caZ G a_is 256 g_is]) (va_runV (As := []) (rest := []) ⟨hx, hb, hml, hown, hts⟩ (c_X11_forgets l G h0 a_w a_kept a_laid a_refusals a_row a_letters a_hit a_lead a_defeat a_defeater a_order a_is a_was a_depths a_ways H.size s_hasImage s_rows s_lettered s_ins s_outs s_ordered s_reading s_isWell s_z g_w g_laid _ h) (cwV 0 hts gX11_lots_X11_forgets rfl rfl rfl (by decide +kernel) ⟨Nat.le_of_ble_eq_true rfl, Nat.le_of_ble_eq_true rfl⟩) (hc_pV hK hP hD [0, 1, 2] rfl rfl (ci := 9) 0 rfl rfl) rfl rfl hl.1 rfl (lv_room (Nat.le_of_ble_eq_true rfl)) dX11_lots_115 ⟨Nat.le_refl _, Nat.le_refl _⟩) hP hD hS hA [0, 1, 2] [3, 4, 5, 6, 7, 8, 9] rfl rfl rfl (by decide) (fun u H locs h hP hD hS => ?_)
        obtain ⟨g_w_115, rfl⟩ : ∃ z, z = u := ⟨_, rfl⟩
        try dsimp only at h
        have hP : va_P G.1 vwCl [caI G a_refusals 7 g_refusals, caI G a_hit 8 g_hit, caI G a_lead 8 g_lead, caI G a_defeat 8 g_defeat, caI G a_defeater 8 g_defeater, caI G a_order 8 g_order, caZ G a_is 256 g_is, ceX11 h0 a_w a_kept a_laid s_hasImage a_refusals a_row s_rows a_letters s_lettered a_hit a_lead a_defeat a_defeater s_ins s_outs a_order s_ordered a_is a_was s_reading s_isWell a_depths a_ways s_z, caI G a_w 43 g_w_115, caI G a_laid 43 g_laid] H := hP
        have hD : va_D A [caI G a_refusals 7 g_refusals, caI G a_hit 8 g_hit, caI G a_lead 8 g_lead, caI G a_defeat 8 g_defeat, caI G a_defeater 8 g_defeater, caI G a_order 8 g_order, caZ G a_is 256 g_is, ceX11 h0 a_w a_kept a_laid s_hasImage a_refusals a_row s_rows a_letters s_lettered a_hit a_lead a_defeat a_defeater s_ins s_outs a_order s_ordered a_is a_was s_reading s_isWell a_depths a_ways s_z, caI G a_w 43 g_w_115, caI G a_laid 43 g_laid] := hD
        refine lv_iload hx hb dX11_lots_118 (lv_at hl 3 rfl) ?_
        exact W.iret (v := v4) hx hb hr (fun t ht hW => ⟨⟨_, ⟨g_w_115, g_laid, g_refusals, g_hit, g_lead, g_defeat, g_defeater, s_ins, s_outs, g_order, s_ordered, g_is, s_z⟩, rfl, h, ⟨by rw [ht]; exact (hP.sub [7, 8, 9, 0, 1, 2, 3, 4, 5, 6] rfl), (hD.sub [7, 8, 9, 0, 1, 2, 3, 4, 5, 6] (by decide) rfl)⟩⟩, hS.F ht⟩) hS.2.2 dX11_lots_120
      · replace h := h.2 c
        refine lv_aload_n hx hb dX11_lots_67 rfl (lv_at hl 0 rfl) ?_
        refine hc_kv (wr := [caI G a_laid 43 g_laid, caI G a_refusals 7 g_refusals, caI G a_hit 8 g_hit, caI G a_lead 8 g_lead, caI G a_defeat 8 g_defeat, caI G a_defeater 8 g_defeater, caI G a_order 8 g_order, caZ G a_is 256 g_is]) (va_runV (As := []) (rest := []) ⟨hx, hb, hml, hown, hts⟩ (c_X11_drawsAttacks l G h0 a_w a_kept a_laid a_refusals a_row a_letters a_hit a_lead a_defeat a_defeater a_order a_is a_was a_depths a_ways H.size s_hasImage s_rows s_lettered s_ins s_outs s_ordered s_reading s_isWell s_z g_w _ h) (cwV 0 hts gX11_lots_X11_drawsAttacks rfl rfl rfl (by decide +kernel) ⟨Nat.le_of_ble_eq_true rfl, Nat.le_of_ble_eq_true rfl⟩) (hc_pV hK hP hD [0, 1] rfl rfl (ci := 9) 0 rfl rfl) rfl rfl hl.1 rfl (lv_room (Nat.le_of_ble_eq_true rfl)) dX11_lots_68 ⟨Nat.le_refl _, Nat.le_refl _⟩) hP hD hS hA [0, 1] [2, 3, 4, 5, 6, 7, 8, 9] rfl rfl rfl (by decide) (fun u H locs h hP hD hS => ?_)
        obtain ⟨g_w_68, s_z_68⟩ := u
        try dsimp only at h
        have hP : va_P G.1 vwCl [caI G a_laid 43 g_laid, caI G a_refusals 7 g_refusals, caI G a_hit 8 g_hit, caI G a_lead 8 g_lead, caI G a_defeat 8 g_defeat, caI G a_defeater 8 g_defeater, caI G a_order 8 g_order, caZ G a_is 256 g_is, ceX11 h0 a_w a_kept a_laid s_hasImage a_refusals a_row s_rows a_letters s_lettered a_hit a_lead a_defeat a_defeater s_ins s_outs a_order s_ordered a_is a_was s_reading s_isWell a_depths a_ways s_z_68, caI G a_w 43 g_w_68] H := hP
        have hD : va_D A [caI G a_laid 43 g_laid, caI G a_refusals 7 g_refusals, caI G a_hit 8 g_hit, caI G a_lead 8 g_lead, caI G a_defeat 8 g_defeat, caI G a_defeater 8 g_defeater, caI G a_order 8 g_order, caZ G a_is 256 g_is, ceX11 h0 a_w a_kept a_laid s_hasImage a_refusals a_row s_rows a_letters s_lettered a_hit a_lead a_defeat a_defeater s_ins s_outs a_order s_ordered a_is a_was s_reading s_isWell a_depths a_ways s_z_68, caI G a_w 43 g_w_68] := hD
        refine lv_aload_n hx hb dX11_lots_71 rfl (lv_at hl 0 rfl) ?_
        refine hc_kv (wr := [caI G a_laid 43 g_laid, caI G a_refusals 7 g_refusals, caZ G a_is 256 g_is]) (va_runV (As := []) (rest := []) ⟨hx, hb, hml, hown, hts⟩ (c_X11_turnsAll l G h0 a_w a_kept a_laid a_refusals a_row a_letters a_hit a_lead a_defeat a_defeater a_order a_is a_was a_depths a_ways H.size s_hasImage s_rows s_lettered s_ins s_outs s_ordered s_reading s_isWell s_z_68 g_w_68 g_hit g_lead g_defeat g_defeater g_order _ h) (cwV 0 hts gX11_lots_X11_turnsAll rfl rfl rfl (by decide +kernel) ⟨Nat.le_of_ble_eq_true rfl, Nat.le_of_ble_eq_true rfl⟩) (hc_pV hK hP hD [8, 9, 2, 3, 4, 5, 6] rfl rfl (ci := 9) 8 rfl rfl) rfl rfl hl.1 rfl (lv_room (Nat.le_of_ble_eq_true rfl)) dX11_lots_72 ⟨Nat.le_refl _, Nat.le_refl _⟩) hP hD hS hA [8, 9, 2, 3, 4, 5, 6] [0, 1, 7] rfl rfl rfl (by decide) (fun u H locs h hP hD hS => ?_)
        obtain ⟨g_hit_72, g_lead_72, g_defeat_72, g_defeater_72, s_ins_72, s_outs_72, g_order_72, s_ordered_72⟩ := u
        try dsimp only at h
        have hP : va_P G.1 vwCl [caI G a_laid 43 g_laid, caI G a_refusals 7 g_refusals, caZ G a_is 256 g_is, ceX11 h0 a_w a_kept a_laid s_hasImage a_refusals a_row s_rows a_letters s_lettered a_hit a_lead a_defeat a_defeater s_ins_72 s_outs_72 a_order s_ordered_72 a_is a_was s_reading s_isWell a_depths a_ways s_z_68, caI G a_w 43 g_w_68, caI G a_hit 8 g_hit_72, caI G a_lead 8 g_lead_72, caI G a_defeat 8 g_defeat_72, caI G a_defeater 8 g_defeater_72, caI G a_order 8 g_order_72] H := hP
        have hD : va_D A [caI G a_laid 43 g_laid, caI G a_refusals 7 g_refusals, caZ G a_is 256 g_is, ceX11 h0 a_w a_kept a_laid s_hasImage a_refusals a_row s_rows a_letters s_lettered a_hit a_lead a_defeat a_defeater s_ins_72 s_outs_72 a_order s_ordered_72 a_is a_was s_reading s_isWell a_depths a_ways s_z_68, caI G a_w 43 g_w_68, caI G a_hit 8 g_hit_72, caI G a_lead 8 g_lead_72, caI G a_defeat 8 g_defeat_72, caI G a_defeater 8 g_defeater_72, caI G a_order 8 g_order_72] := hD
        refine lv_iload_n hx hb dX11_lots_75 rfl (lv_at hl 2 rfl) ?_
        refine lv_iconst (v := nI 1) hx hb dX11_lots_76 kc_1 ?_
        refine lv_icmp_ne (tgt := 85) hx hb dX11_lots_77 (by decide) (fun c => ?_) (fun c => ?_)
        · replace h := h.1 c
          exact w85 ((wp_X11_lots_61 post x1 x2 x3 n)) ih v4 v5 g_w_68 g_laid g_refusals g_hit_72 g_lead_72 g_defeat_72 g_defeater_72 s_ins_72 s_outs_72 g_order_72 s_ordered_72 g_is s_z_68 h _ _ _ (hP.sub [3, 4, 0, 1, 5, 6, 7, 8, 9, 2] rfl) (hD.sub [3, 4, 0, 1, 5, 6, 7, 8, 9, 2] (by decide) rfl) hS (lv_sub hl [0, 1, 2, 3, 4] rfl)
        · replace h := h.2 c
          refine lv_aload_n hx hb dX11_lots_80 rfl (lv_at hl 0 rfl) ?_
          refine lv_iconst (v := nI 4) hx hb dX11_lots_81 kc_4 ?_
          refine hc_kv (wr := [caI G a_laid 43 g_laid, caI G a_refusals 7 g_refusals, caI G a_hit 8 g_hit_72, caI G a_lead 8 g_lead_72, caI G a_order 8 g_order_72]) (va_runV (As := [.int (nI 4)]) (rest := []) ⟨hx, hb, hml, hown, hts⟩ (c_X11_findsPlain l G h0 a_w a_kept a_laid a_refusals a_row a_letters a_hit a_lead a_defeat a_defeater a_order a_is a_was a_depths a_ways H.size s_hasImage s_rows s_lettered s_ins_72 s_outs_72 s_ordered_72 s_reading s_isWell s_z_68 g_w_68 g_defeat_72 g_defeater_72 g_is (nI 4) _ h) (cwV 1 hts gX11_lots_X11_findsPlain rfl rfl rfl (by decide +kernel) ⟨Nat.le_of_ble_eq_true rfl, Nat.le_of_ble_eq_true rfl⟩) (hc_pV hK hP hD [3, 4, 7, 8, 2] rfl rfl (ci := 9) 3 rfl rfl) rfl rfl hl.1 rfl (lv_room (Nat.le_of_ble_eq_true rfl)) dX11_lots_82 ⟨Nat.le_refl _, Nat.le_refl _⟩) hP hD hS hA [3, 4, 7, 8, 2] [0, 1, 5, 6, 9] rfl rfl rfl (by decide) (fun u H locs h hP hD hS => ?_)
          obtain ⟨g_is_82, rfl⟩ : ∃ z, z = u := ⟨_, rfl⟩
          try dsimp only at h
          have hP : va_P G.1 vwCl [caI G a_laid 43 g_laid, caI G a_refusals 7 g_refusals, caI G a_hit 8 g_hit_72, caI G a_lead 8 g_lead_72, caI G a_order 8 g_order_72, ceX11 h0 a_w a_kept a_laid s_hasImage a_refusals a_row s_rows a_letters s_lettered a_hit a_lead a_defeat a_defeater s_ins_72 s_outs_72 a_order s_ordered_72 a_is a_was s_reading s_isWell a_depths a_ways s_z_68, caI G a_w 43 g_w_68, caI G a_defeat 8 g_defeat_72, caI G a_defeater 8 g_defeater_72, caZ G a_is 256 g_is_82] H := hP
          have hD : va_D A [caI G a_laid 43 g_laid, caI G a_refusals 7 g_refusals, caI G a_hit 8 g_hit_72, caI G a_lead 8 g_lead_72, caI G a_order 8 g_order_72, ceX11 h0 a_w a_kept a_laid s_hasImage a_refusals a_row s_rows a_letters s_lettered a_hit a_lead a_defeat a_defeater s_ins_72 s_outs_72 a_order s_ordered_72 a_is a_was s_reading s_isWell a_depths a_ways s_z_68, caI G a_w 43 g_w_68, caI G a_defeat 8 g_defeat_72, caI G a_defeater 8 g_defeater_72, caZ G a_is 256 g_is_82] := hD
          exact w85 ((wp_X11_lots_61 post x1 x2 x3 n)) ih v4 v5 g_w_68 g_laid g_refusals g_hit_72 g_lead_72 g_defeat_72 g_defeater_72 s_ins_72 s_outs_72 g_order_72 s_ordered_72 g_is_82 s_z_68 h _ _ _ (hP.sub [5, 6, 0, 1, 2, 3, 7, 8, 4, 9] rfl) (hD.sub [5, 6, 0, 1, 2, 3, 7, 8, 4, 9] (by decide) rfl) hS (lv_sub hl [0, 1, 2, 3, 4] rfl)
  unfold wp_X11_lots at h
  refine lv_iload_n hx hb dX11_lots_0 rfl (lv_at hl 1 rfl) ?_
  refine lv_i2l (v := x1.toInt64) hx hb dX11_lots_1 rfl ?_
  refine lv_lconst (v := lN 1) hx hb dX11_lots_2 kl_1 ?_
  refine lv_ldc2 (own := RX11) (v := 20) hx hb hown kf0 dX11_lots_3 ?_
  refine hc_ki (wr := [ceX11 h0 a_w a_kept a_laid s_hasImage a_refusals a_row s_rows a_letters s_lettered a_hit a_lead a_defeat a_defeater s_ins s_outs a_order s_ordered a_is a_was s_reading s_isWell a_depths a_ways s_z, caI G a_w 43 g_w, caI G a_laid 43 g_laid, caI G a_refusals 7 g_refusals, caI G a_hit 8 g_hit, caI G a_lead 8 g_lead, caI G a_defeat 8 g_defeat, caI G a_defeater 8 g_defeater, caI G a_order 8 g_order, caZ G a_is 256 g_is]) (va_runS (As := [.long x1.toInt64, .long (lN 1), .long ((20 : Int64))]) (rest := []) ⟨hx, hb, hml, hown, hts⟩ (c_X11_in l G s.heap.size x1.toInt64 (lN 1) ((20 : Int64)) _ h) (va_cwS 3 hts gX11_lots_X11_in rfl rfl rfl (by decide +kernel) ⟨Nat.le_of_ble_eq_true rfl, Nat.le_of_ble_eq_true rfl⟩) (hc_pS hK hP hD [] rfl rfl) rfl rfl hl.1 rfl (lv_room (Nat.le_of_ble_eq_true rfl)) dX11_lots_6 ⟨Nat.le_refl _, Nat.le_refl _⟩) hP hD hS hA [] [0, 1, 2, 3, 4, 5, 6, 7, 8, 9] rfl rfl rfl (by decide) (fun r6 u H locs h hP hD hS => ?_)
  try dsimp only at h
  have hP : va_P G.1 vwCl [ceX11 h0 a_w a_kept a_laid s_hasImage a_refusals a_row s_rows a_letters s_lettered a_hit a_lead a_defeat a_defeater s_ins s_outs a_order s_ordered a_is a_was s_reading s_isWell a_depths a_ways s_z, caI G a_w 43 g_w, caI G a_laid 43 g_laid, caI G a_refusals 7 g_refusals, caI G a_hit 8 g_hit, caI G a_lead 8 g_lead, caI G a_defeat 8 g_defeat, caI G a_defeater 8 g_defeater, caI G a_order 8 g_order, caZ G a_is 256 g_is] H := hP
  have hD : va_D A [ceX11 h0 a_w a_kept a_laid s_hasImage a_refusals a_row s_rows a_letters s_lettered a_hit a_lead a_defeat a_defeater s_ins s_outs a_order s_ordered a_is a_was s_reading s_isWell a_depths a_ways s_z, caI G a_w 43 g_w, caI G a_laid 43 g_laid, caI G a_refusals 7 g_refusals, caI G a_hit 8 g_hit, caI G a_lead 8 g_lead, caI G a_defeat 8 g_defeat, caI G a_defeater 8 g_defeater, caI G a_order 8 g_order, caZ G a_is 256 g_is] := hD
  refine lv_if_ne (tgt := 29) hx hb dX11_lots_9 (by decide) (fun c => ?_) (fun c => ?_)
  · replace h := h.1 c
    refine lv_iload_n hx hb dX11_lots_29 rfl (lv_at hl 3 rfl) ?_
    refine lv_i2l (v := x3.toInt64) hx hb dX11_lots_30 rfl ?_
    refine lv_lconst (v := lN 0) hx hb dX11_lots_31 kl_0 ?_
    refine lv_lconst (v := lN 1) hx hb dX11_lots_32 kl_1 ?_
    refine hc_ki (wr := [ceX11 h0 a_w a_kept a_laid s_hasImage a_refusals a_row s_rows a_letters s_lettered a_hit a_lead a_defeat a_defeater s_ins s_outs a_order s_ordered a_is a_was s_reading s_isWell a_depths a_ways s_z, caI G a_w 43 g_w, caI G a_laid 43 g_laid, caI G a_refusals 7 g_refusals, caI G a_hit 8 g_hit, caI G a_lead 8 g_lead, caI G a_defeat 8 g_defeat, caI G a_defeater 8 g_defeater, caI G a_order 8 g_order, caZ G a_is 256 g_is]) (va_runS (As := [.long x3.toInt64, .long (lN 0), .long (lN 1)]) (rest := []) ⟨hx, hb, hml, hown, hts⟩ (c_X11_in l G H.size x3.toInt64 (lN 0) (lN 1) _ h) (va_cwS 3 hts gX11_lots_X11_in rfl rfl rfl (by decide +kernel) ⟨Nat.le_of_ble_eq_true rfl, Nat.le_of_ble_eq_true rfl⟩) (hc_pS hK hP hD [] rfl rfl) rfl rfl hl.1 rfl (lv_room (Nat.le_of_ble_eq_true rfl)) dX11_lots_33 ⟨Nat.le_refl _, Nat.le_refl _⟩) hP hD hS hA [] [0, 1, 2, 3, 4, 5, 6, 7, 8, 9] rfl rfl rfl (by decide) (fun r33 u H locs h hP hD hS => ?_)
    try dsimp only at h
    have hP : va_P G.1 vwCl [ceX11 h0 a_w a_kept a_laid s_hasImage a_refusals a_row s_rows a_letters s_lettered a_hit a_lead a_defeat a_defeater s_ins s_outs a_order s_ordered a_is a_was s_reading s_isWell a_depths a_ways s_z, caI G a_w 43 g_w, caI G a_laid 43 g_laid, caI G a_refusals 7 g_refusals, caI G a_hit 8 g_hit, caI G a_lead 8 g_lead, caI G a_defeat 8 g_defeat, caI G a_defeater 8 g_defeater, caI G a_order 8 g_order, caZ G a_is 256 g_is] H := hP
    have hD : va_D A [ceX11 h0 a_w a_kept a_laid s_hasImage a_refusals a_row s_rows a_letters s_lettered a_hit a_lead a_defeat a_defeater s_ins s_outs a_order s_ordered a_is a_was s_reading s_isWell a_depths a_ways s_z, caI G a_w 43 g_w, caI G a_laid 43 g_laid, caI G a_refusals 7 g_refusals, caI G a_hit 8 g_hit, caI G a_lead 8 g_lead, caI G a_defeat 8 g_defeat, caI G a_defeater 8 g_defeater, caI G a_order 8 g_order, caZ G a_is 256 g_is] := hD
    refine lv_if_ne (tgt := 46) hx hb dX11_lots_36 (by decide) (fun c => ?_) (fun c => ?_)
    · replace h := h.1 c
      refine lv_aload_n hx hb dX11_lots_46 rfl (lv_at hl 0 rfl) ?_
      refine lv_iload_n hx hb dX11_lots_47 rfl (lv_at hl 2 rfl) ?_
      refine va_put (D := G.1) (ci := 9) (v := .int x2) (ty := .int) (C := RX11) (T := TX11) (N := 24) hx hb hts ki_X11 tyX11 tyX11_ok nmX11 hown hK.1 hP hD hS 0 rfl rfl 23 (by decide) kf1 (fun _ h9 => h9) rfl (by decide +kernel) rfl rfl (Nat.le_of_ble_eq_true rfl) dX11_lots_48 (fun H locs hP hD hS => ?_)
      have hP : va_P G.1 vwCl [ceX11 h0 a_w a_kept a_laid s_hasImage a_refusals a_row s_rows a_letters s_lettered a_hit a_lead a_defeat a_defeater s_ins s_outs a_order s_ordered a_is a_was s_reading s_isWell a_depths a_ways x2, caI G a_w 43 g_w, caI G a_laid 43 g_laid, caI G a_refusals 7 g_refusals, caI G a_hit 8 g_hit, caI G a_lead 8 g_lead, caI G a_defeat 8 g_defeat, caI G a_defeater 8 g_defeater, caI G a_order 8 g_order, caZ G a_is 256 g_is] H := hP
      have hD : va_D A [ceX11 h0 a_w a_kept a_laid s_hasImage a_refusals a_row s_rows a_letters s_lettered a_hit a_lead a_defeat a_defeater s_ins s_outs a_order s_ordered a_is a_was s_reading s_isWell a_depths a_ways x2, caI G a_w 43 g_w, caI G a_laid 43 g_laid, caI G a_refusals 7 g_refusals, caI G a_hit 8 g_hit, caI G a_lead 8 g_lead, caI G a_defeat 8 g_defeat, caI G a_defeater 8 g_defeater, caI G a_order 8 g_order, caZ G a_is 256 g_is] := hD
      refine lv_aload_n hx hb dX11_lots_51 rfl (lv_at hl 0 rfl) ?_
      refine hc_kv (wr := [caI G a_refusals 7 g_refusals, caI G a_hit 8 g_hit, caI G a_lead 8 g_lead, caI G a_defeat 8 g_defeat, caI G a_defeater 8 g_defeater, caI G a_order 8 g_order, caZ G a_is 256 g_is]) (va_runV (As := []) (rest := []) ⟨hx, hb, hml, hown, hts⟩ (c_X11_minds l G h0 a_w a_kept a_laid a_refusals a_row a_letters a_hit a_lead a_defeat a_defeater a_order a_is a_was a_depths a_ways H.size s_hasImage s_rows s_lettered s_ins s_outs s_ordered s_reading s_isWell x2 g_w g_laid _ h) (cwV 0 hts gX11_lots_X11_minds rfl rfl rfl (by decide +kernel) ⟨Nat.le_of_ble_eq_true rfl, Nat.le_of_ble_eq_true rfl⟩) (hc_pV hK hP hD [0, 1, 2] rfl rfl (ci := 9) 0 rfl rfl) rfl rfl hl.1 rfl (lv_room (Nat.le_of_ble_eq_true rfl)) dX11_lots_52 ⟨Nat.le_refl _, Nat.le_refl _⟩) hP hD hS hA [0, 1, 2] [3, 4, 5, 6, 7, 8, 9] rfl rfl rfl (by decide) (fun u H locs h hP hD hS => ?_)
      obtain ⟨g_laid_52, rfl⟩ : ∃ z, z = u := ⟨_, rfl⟩
      try dsimp only at h
      have hP : va_P G.1 vwCl [caI G a_refusals 7 g_refusals, caI G a_hit 8 g_hit, caI G a_lead 8 g_lead, caI G a_defeat 8 g_defeat, caI G a_defeater 8 g_defeater, caI G a_order 8 g_order, caZ G a_is 256 g_is, ceX11 h0 a_w a_kept a_laid s_hasImage a_refusals a_row s_rows a_letters s_lettered a_hit a_lead a_defeat a_defeater s_ins s_outs a_order s_ordered a_is a_was s_reading s_isWell a_depths a_ways x2, caI G a_w 43 g_w, caI G a_laid 43 g_laid_52] H := hP
      have hD : va_D A [caI G a_refusals 7 g_refusals, caI G a_hit 8 g_hit, caI G a_lead 8 g_lead, caI G a_defeat 8 g_defeat, caI G a_defeater 8 g_defeater, caI G a_order 8 g_order, caZ G a_is 256 g_is, ceX11 h0 a_w a_kept a_laid s_hasImage a_refusals a_row s_rows a_letters s_lettered a_hit a_lead a_defeat a_defeater s_ins s_outs a_order s_ordered a_is a_was s_reading s_isWell a_depths a_ways x2, caI G a_w 43 g_w, caI G a_laid 43 g_laid_52] := hD
      refine lv_iconst (v := nI 0) hx hb dX11_lots_55 kc_0 ?_
      refine lv_istore (lv' := [(4, .int (nI 0)), (0, .ref h0), (1, .int x1), (2, .int x2), (3, .int x3)]) hx hb dX11_lots_56 hl (by decide) rfl (fun ls hl => ?_)
      refine lv_iconst (v := nI 0) hx hb dX11_lots_58 kc_0 ?_
      refine lv_istore (lv' := [(5, .int (nI 0)), (4, .int (nI 0)), (0, .ref h0), (1, .int x1), (2, .int x2), (3, .int x3)]) hx hb dX11_lots_59 hl (by decide) rfl (fun ls hl => ?_)
      obtain ⟨n61, h⟩ := h
      exact w61  n61 (nI 0) (nI 0) g_w g_laid_52 g_refusals g_hit g_lead g_defeat g_defeater s_ins s_outs g_order s_ordered g_is x2 h _ _ _ (hP.sub [7, 8, 9, 0, 1, 2, 3, 4, 5, 6] rfl) (hD.sub [7, 8, 9, 0, 1, 2, 3, 4, 5, 6] (by decide) rfl) hS (lv_sub hl [2, 3, 5, 1, 0] rfl)
    · replace h := h.2 c
      refine lv_aload_n hx hb dX11_lots_39 rfl (lv_at hl 0 rfl) ?_
      refine lv_bipush (v := (-2 : Int32)) hx hb dX11_lots_40 kb_m2 ?_
      refine hc_ki (wr := [caI G a_w 43 g_w, caI G a_laid 43 g_laid, caI G a_hit 8 g_hit, caI G a_lead 8 g_lead, caI G a_defeat 8 g_defeat, caI G a_defeater 8 g_defeater, caI G a_order 8 g_order, caZ G a_is 256 g_is]) (va_runV (As := [.int ((-2 : Int32))]) (rest := []) ⟨hx, hb, hml, hown, hts⟩ (c_X11_refused l G h0 a_w a_kept a_laid a_refusals a_row a_letters a_hit a_lead a_defeat a_defeater a_order a_is a_was a_depths a_ways H.size s_hasImage s_rows s_lettered s_ins s_outs s_ordered s_reading s_isWell s_z g_refusals ((-2 : Int32)) _ h) (cwV 1 hts gX11_lots_X11_refused rfl rfl rfl (by decide +kernel) ⟨Nat.le_of_ble_eq_true rfl, Nat.le_of_ble_eq_true rfl⟩) (hc_pV hK hP hD [0, 3] rfl rfl (ci := 9) 0 rfl rfl) rfl rfl hl.1 rfl (lv_room (Nat.le_of_ble_eq_true rfl)) dX11_lots_42 ⟨Nat.le_refl _, Nat.le_refl _⟩) hP hD hS hA [0, 3] [1, 2, 4, 5, 6, 7, 8, 9] rfl rfl rfl (by decide) (fun r42 u H locs h hP hD hS => ?_)
      obtain ⟨g_refusals_42, rfl⟩ : ∃ z, z = u := ⟨_, rfl⟩
      try dsimp only at h
      have hP : va_P G.1 vwCl [caI G a_w 43 g_w, caI G a_laid 43 g_laid, caI G a_hit 8 g_hit, caI G a_lead 8 g_lead, caI G a_defeat 8 g_defeat, caI G a_defeater 8 g_defeater, caI G a_order 8 g_order, caZ G a_is 256 g_is, ceX11 h0 a_w a_kept a_laid s_hasImage a_refusals a_row s_rows a_letters s_lettered a_hit a_lead a_defeat a_defeater s_ins s_outs a_order s_ordered a_is a_was s_reading s_isWell a_depths a_ways s_z, caI G a_refusals 7 g_refusals_42] H := hP
      have hD : va_D A [caI G a_w 43 g_w, caI G a_laid 43 g_laid, caI G a_hit 8 g_hit, caI G a_lead 8 g_lead, caI G a_defeat 8 g_defeat, caI G a_defeater 8 g_defeater, caI G a_order 8 g_order, caZ G a_is 256 g_is, ceX11 h0 a_w a_kept a_laid s_hasImage a_refusals a_row s_rows a_letters s_lettered a_hit a_lead a_defeat a_defeater s_ins s_outs a_order s_ordered a_is a_was s_reading s_isWell a_depths a_ways s_z, caI G a_refusals 7 g_refusals_42] := hD
      exact W.iret (v := r42) hx hb hr (fun t ht hW => ⟨⟨_, ⟨g_w, g_laid, g_refusals_42, g_hit, g_lead, g_defeat, g_defeater, s_ins, s_outs, g_order, s_ordered, g_is, s_z⟩, rfl, h, ⟨by rw [ht]; exact (hP.sub [8, 0, 1, 9, 2, 3, 4, 5, 6, 7] rfl), (hD.sub [8, 0, 1, 9, 2, 3, 4, 5, 6, 7] (by decide) rfl)⟩⟩, hS.F ht⟩) hS.2.2 dX11_lots_45
  · replace h := h.2 c
    refine lv_aload_n hx hb dX11_lots_12 rfl (lv_at hl 0 rfl) ?_
    refine lv_iload_n hx hb dX11_lots_13 rfl (lv_at hl 1 rfl) ?_
    refine lv_iconst (v := nI 1) hx hb dX11_lots_14 kc_1 ?_
    refine lv_icmp_ge (tgt := 23) hx hb dX11_lots_15 (by decide) (fun c => ?_) (fun c => ?_)
    · replace h := h.1 c
      refine lv_bipush (v := (-6 : Int32)) hx hb dX11_lots_23 kb_m6 ?_
      refine hc_ki (wr := [caI G a_w 43 g_w, caI G a_laid 43 g_laid, caI G a_hit 8 g_hit, caI G a_lead 8 g_lead, caI G a_defeat 8 g_defeat, caI G a_defeater 8 g_defeater, caI G a_order 8 g_order, caZ G a_is 256 g_is]) (va_runV (As := [.int ((-6 : Int32))]) (rest := []) ⟨hx, hb, hml, hown, hts⟩ (c_X11_refused l G h0 a_w a_kept a_laid a_refusals a_row a_letters a_hit a_lead a_defeat a_defeater a_order a_is a_was a_depths a_ways H.size s_hasImage s_rows s_lettered s_ins s_outs s_ordered s_reading s_isWell s_z g_refusals ((-6 : Int32)) _ h) (cwV 1 hts gX11_lots_X11_refused rfl rfl rfl (by decide +kernel) ⟨Nat.le_of_ble_eq_true rfl, Nat.le_of_ble_eq_true rfl⟩) (hc_pV hK hP hD [0, 3] rfl rfl (ci := 9) 0 rfl rfl) rfl rfl hl.1 rfl (lv_room (Nat.le_of_ble_eq_true rfl)) dX11_lots_25 ⟨Nat.le_refl _, Nat.le_refl _⟩) hP hD hS hA [0, 3] [1, 2, 4, 5, 6, 7, 8, 9] rfl rfl rfl (by decide) (fun r25 u H locs h hP hD hS => ?_)
      obtain ⟨g_refusals_25, rfl⟩ : ∃ z, z = u := ⟨_, rfl⟩
      try dsimp only at h
      have hP : va_P G.1 vwCl [caI G a_w 43 g_w, caI G a_laid 43 g_laid, caI G a_hit 8 g_hit, caI G a_lead 8 g_lead, caI G a_defeat 8 g_defeat, caI G a_defeater 8 g_defeater, caI G a_order 8 g_order, caZ G a_is 256 g_is, ceX11 h0 a_w a_kept a_laid s_hasImage a_refusals a_row s_rows a_letters s_lettered a_hit a_lead a_defeat a_defeater s_ins s_outs a_order s_ordered a_is a_was s_reading s_isWell a_depths a_ways s_z, caI G a_refusals 7 g_refusals_25] H := hP
      have hD : va_D A [caI G a_w 43 g_w, caI G a_laid 43 g_laid, caI G a_hit 8 g_hit, caI G a_lead 8 g_lead, caI G a_defeat 8 g_defeat, caI G a_defeater 8 g_defeater, caI G a_order 8 g_order, caZ G a_is 256 g_is, ceX11 h0 a_w a_kept a_laid s_hasImage a_refusals a_row s_rows a_letters s_lettered a_hit a_lead a_defeat a_defeater s_ins s_outs a_order s_ordered a_is a_was s_reading s_isWell a_depths a_ways s_z, caI G a_refusals 7 g_refusals_25] := hD
      exact W.iret (v := r25) hx hb hr (fun t ht hW => ⟨⟨_, ⟨g_w, g_laid, g_refusals_25, g_hit, g_lead, g_defeat, g_defeater, s_ins, s_outs, g_order, s_ordered, g_is, s_z⟩, rfl, h, ⟨by rw [ht]; exact (hP.sub [8, 0, 1, 9, 2, 3, 4, 5, 6, 7] rfl), (hD.sub [8, 0, 1, 9, 2, 3, 4, 5, 6, 7] (by decide) rfl)⟩⟩, hS.F ht⟩) hS.2.2 dX11_lots_28
    · replace h := h.2 c
      refine lv_bipush (v := (-4 : Int32)) hx hb dX11_lots_18 kb_m4 ?_
      refine lv_goto (tgt := 25) hx hb dX11_lots_20 (by decide) ?_
      refine hc_ki (wr := [caI G a_w 43 g_w, caI G a_laid 43 g_laid, caI G a_hit 8 g_hit, caI G a_lead 8 g_lead, caI G a_defeat 8 g_defeat, caI G a_defeater 8 g_defeater, caI G a_order 8 g_order, caZ G a_is 256 g_is]) (va_runV (As := [.int ((-4 : Int32))]) (rest := []) ⟨hx, hb, hml, hown, hts⟩ (c_X11_refused l G h0 a_w a_kept a_laid a_refusals a_row a_letters a_hit a_lead a_defeat a_defeater a_order a_is a_was a_depths a_ways H.size s_hasImage s_rows s_lettered s_ins s_outs s_ordered s_reading s_isWell s_z g_refusals ((-4 : Int32)) _ h) (cwV 1 hts gX11_lots_X11_refused rfl rfl rfl (by decide +kernel) ⟨Nat.le_of_ble_eq_true rfl, Nat.le_of_ble_eq_true rfl⟩) (hc_pV hK hP hD [0, 3] rfl rfl (ci := 9) 0 rfl rfl) rfl rfl hl.1 rfl (lv_room (Nat.le_of_ble_eq_true rfl)) dX11_lots_25 ⟨Nat.le_refl _, Nat.le_refl _⟩) hP hD hS hA [0, 3] [1, 2, 4, 5, 6, 7, 8, 9] rfl rfl rfl (by decide) (fun r25 u H locs h hP hD hS => ?_)
      obtain ⟨g_refusals_25, rfl⟩ : ∃ z, z = u := ⟨_, rfl⟩
      try dsimp only at h
      have hP : va_P G.1 vwCl [caI G a_w 43 g_w, caI G a_laid 43 g_laid, caI G a_hit 8 g_hit, caI G a_lead 8 g_lead, caI G a_defeat 8 g_defeat, caI G a_defeater 8 g_defeater, caI G a_order 8 g_order, caZ G a_is 256 g_is, ceX11 h0 a_w a_kept a_laid s_hasImage a_refusals a_row s_rows a_letters s_lettered a_hit a_lead a_defeat a_defeater s_ins s_outs a_order s_ordered a_is a_was s_reading s_isWell a_depths a_ways s_z, caI G a_refusals 7 g_refusals_25] H := hP
      have hD : va_D A [caI G a_w 43 g_w, caI G a_laid 43 g_laid, caI G a_hit 8 g_hit, caI G a_lead 8 g_lead, caI G a_defeat 8 g_defeat, caI G a_defeater 8 g_defeater, caI G a_order 8 g_order, caZ G a_is 256 g_is, ceX11 h0 a_w a_kept a_laid s_hasImage a_refusals a_row s_rows a_letters s_lettered a_hit a_lead a_defeat a_defeater s_ins s_outs a_order s_ordered a_is a_was s_reading s_isWell a_depths a_ways s_z, caI G a_refusals 7 g_refusals_25] := hD
      exact W.iret (v := r25) hx hb hr (fun t ht hW => ⟨⟨_, ⟨g_w, g_laid, g_refusals_25, g_hit, g_lead, g_defeat, g_defeater, s_ins, s_outs, g_order, s_ordered, g_is, s_z⟩, rfl, h, ⟨by rw [ht]; exact (hP.sub [8, 0, 1, 9, 2, 3, 4, 5, 6, 7] rfl), (hD.sub [8, 0, 1, 9, 2, 3, 4, 5, 6, 7] (by decide) rfl)⟩⟩, hS.F ht⟩) hS.2.2 dX11_lots_28
set_option maxHeartbeats 4000000 in
set_option maxRecDepth 100000 in
theorem c_X11_image (l : Launch) (G : hcG) (h0 : Nat) (a_w : Nat) (a_kept : Nat) (a_laid : Nat) (a_refusals : Nat) (a_row : Nat) (a_letters : Nat) (a_hit : Nat) (a_lead : Nat) (a_defeat : Nat) (a_defeater : Nat) (a_order : Nat) (a_is : Nat) (a_was : Nat) (a_depths : Nat) (a_ways : Nat) (sz : Nat) (s_hasImage : Int32) (s_rows : Int32) (s_lettered : Int32) (s_ins : Int32) (s_outs : Int32) (s_ordered : Int32) (s_reading : Int32) (s_isWell : Int32) (s_z : Int32) (g_w : Nat → Int32) (g_kept : Nat → Int32) (post : Int32 → (Nat → Int32) → Int32 → Prop) (h : wp_X11_image post g_w g_kept s_hasImage) : Met l yX11_image wsX11_image ({ frames := 1, cells := 0, slots := 0, locals := 22 }) (hcPc G [.ref h0] [ceX11 h0 a_w a_kept a_laid s_hasImage a_refusals a_row s_rows a_letters s_lettered a_hit a_lead a_defeat a_defeater s_ins s_outs a_order s_ordered a_is a_was s_reading s_isWell a_depths a_ways s_z, caI G a_w 43 g_w, caI G a_kept 43 g_kept] sz) (va_Qi (fun (r : Int32) (u : (Nat → Int32) × Int32) => post r u.1 u.2) (hcB G (va_A [ceX11 h0 a_w a_kept a_laid s_hasImage a_refusals a_row s_rows a_letters s_lettered a_hit a_lead a_defeat a_defeater s_ins s_outs a_order s_ordered a_is a_was s_reading s_isWell a_depths a_ways s_z, caI G a_w 43 g_w, caI G a_kept 43 g_kept] sz) (fun u : (Nat → Int32) × Int32 => [ceX11 h0 a_w a_kept a_laid u.2 a_refusals a_row s_rows a_letters s_lettered a_hit a_lead a_defeat a_defeater s_ins s_outs a_order s_ordered a_is a_was s_reading s_isWell a_depths a_ways s_z, caI G a_w 43 g_w, caI G a_kept 43 u.1])) (va_A [ceX11 h0 a_w a_kept a_laid s_hasImage a_refusals a_row s_rows a_letters s_lettered a_hit a_lead a_defeat a_defeater s_ins s_outs a_order s_ordered a_is a_was s_reading s_isWell a_depths a_ways s_z, caI G a_w 43 g_w, caI G a_kept 43 g_kept] sz)) 0 0 (va_A [ceX11 h0 a_w a_kept a_laid s_hasImage a_refusals a_row s_rows a_letters s_lettered a_hit a_lead a_defeat a_defeater s_ins s_outs a_order s_ordered a_is a_was s_reading s_isWell a_depths a_ways s_z, caI G a_w 43 g_w, caI G a_kept 43 g_kept] sz) := by
  refine Met.ofW (cc := cX11_image) (maxL := 1) (ret := (some .int)) (by decide) rfl ?_
  intro p e s m args below meth c s₁ B hml hv
  obtain ⟨rfl, hsz, hP, hK, hD0⟩ := hv
  have hx := B.exec
  have hb := B.bytes
  have hr := B.returns
  have hts := atoms_spec (ws := wsX11_image) B.pre
  have hown : s.vm.findClass RX11 = some m.cls := findClass_of_methodNamed B.named
  have hlocks := B.notSynchronized
  subst hsz
  have hD := hD0.self (sz := s.heap.size)
  generalize hAe : va_A [ceX11 h0 a_w a_kept a_laid s_hasImage a_refusals a_row s_rows a_letters s_lettered a_hit a_lead a_defeat a_defeater s_ins s_outs a_order s_ordered a_is a_was s_reading s_isWell a_depths a_ways s_z, caI G a_w 43 g_w, caI G a_kept 43 g_kept] s.heap.size = A at hD ⊢
  have hA : ∀ q : Nat, s.heap.size ≤ q → A q := fun q h => by rw [← hAe]; exact Or.inr h
  have hS : va_S A s.heap s.heap [] := va_S.rf
  have hP : va_P G.1 vwCl [ceX11 h0 a_w a_kept a_laid s_hasImage a_refusals a_row s_rows a_letters s_lettered a_hit a_lead a_defeat a_defeater s_ins s_outs a_order s_ordered a_is a_was s_reading s_isWell a_depths a_ways s_z, caI G a_w 43 g_w, caI G a_kept 43 g_kept] s.heap := hP
  have hl := lv_entry ([.ref h0]) (n := 1) (Nat.le_of_ble_eq_true rfl)
  rw [lg_entry_eq]
  generalize (lg_sl ([.ref h0]) ++ List.replicate (1 - (lg_sl ([.ref h0])).length) Slot.unset).toArray = ls at hl ⊢
  have hl : lv_has ls 1 [(0, .ref h0)] := hl
  have kf0 := hts (.fieldLink RX11 308 "HallOfClaimsModel" "hasImage" "Z") (List.mem_of_getElem? (i := 1) (by decide +kernel))
  have kf1 := hts (.fieldLink RX11 9 "HallOfClaimsModel" "w" "[I") (List.mem_of_getElem? (i := 2) (by decide +kernel))
  have kf2 := hts (.fieldLink RX11 13 "HallOfClaimsModel" "kept" "[I") (List.mem_of_getElem? (i := 3) (by decide +kernel))
  have ki_X11 : ∀ w ∈ u_ws RX11 TX11 24, w ∈ wsX11_image := by decide +kernel
  unfold wp_X11_image at h
  refine lv_aload_n hx hb dX11_image_0 rfl (lv_at hl 0 rfl) ?_
  refine lv_iconst (v := nI 1) hx hb dX11_image_1 kc_1 ?_
  refine va_put (D := G.1) (ci := 9) (v := .int (nI 1)) (ty := .boolean) (C := RX11) (T := TX11) (N := 24) hx hb hts ki_X11 tyX11 tyX11_ok nmX11 hown hK.1 hP hD hS 0 rfl rfl 3 (by decide) kf0 (fun _ h9 => h9) rfl (by decide +kernel) rfl rfl (Nat.le_of_ble_eq_true rfl) dX11_image_2 (fun H locs hP hD hS => ?_)
  have hP : va_P G.1 vwCl [ceX11 h0 a_w a_kept a_laid (nI 1) a_refusals a_row s_rows a_letters s_lettered a_hit a_lead a_defeat a_defeater s_ins s_outs a_order s_ordered a_is a_was s_reading s_isWell a_depths a_ways s_z, caI G a_w 43 g_w, caI G a_kept 43 g_kept] H := hP
  have hD : va_D A [ceX11 h0 a_w a_kept a_laid (nI 1) a_refusals a_row s_rows a_letters s_lettered a_hit a_lead a_defeat a_defeater s_ins s_outs a_order s_ordered a_is a_was s_reading s_isWell a_depths a_ways s_z, caI G a_w 43 g_w, caI G a_kept 43 g_kept] := hD
  refine lv_aload_n hx hb dX11_image_5 rfl (lv_at hl 0 rfl) ?_
  refine va_get (D := G.1) (ci := 9) (v := .ref a_w) (C := RX11) (T := TX11) (N := 24) hx hb hts ki_X11 hown hK.1 hP 0 rfl rfl 0 (by decide) kf1 (fun _ h9 => h9) rfl dX11_image_6 ?_
  refine lv_aload_n hx hb dX11_image_9 rfl (lv_at hl 0 rfl) ?_
  refine va_get (D := G.1) (ci := 9) (v := .ref a_kept) (C := RX11) (T := TX11) (N := 24) hx hb hts ki_X11 hown hK.1 hP 0 rfl rfl 1 (by decide) kf2 (fun _ h9 => h9) rfl dX11_image_10 ?_
  refine hc_kv (wr := [ceX11 h0 a_w a_kept a_laid (nI 1) a_refusals a_row s_rows a_letters s_lettered a_hit a_lead a_defeat a_defeater s_ins s_outs a_order s_ordered a_is a_was s_reading s_isWell a_depths a_ways s_z]) (va_runS (As := [.ref a_w, .ref a_kept]) (rest := []) ⟨hx, hb, hml, hown, hts⟩ (c_X11_copies l G a_w a_kept H.size g_w g_kept _ h) (va_cwS 2 hts gX11_image_X11_copies rfl rfl rfl (by decide +kernel) ⟨Nat.le_of_ble_eq_true rfl, Nat.le_of_ble_eq_true rfl⟩) (hc_pS hK hP hD [1, 2] rfl rfl) rfl rfl hl.1 rfl (lv_room (Nat.le_of_ble_eq_true rfl)) dX11_image_13 ⟨Nat.le_refl _, Nat.le_refl _⟩) hP hD hS hA [1, 2] [0] rfl rfl rfl (by decide) (fun u H locs h hP hD hS => ?_)
  obtain ⟨g_kept_13, rfl⟩ : ∃ z, z = u := ⟨_, rfl⟩
  try dsimp only at h
  have hP : va_P G.1 vwCl [ceX11 h0 a_w a_kept a_laid (nI 1) a_refusals a_row s_rows a_letters s_lettered a_hit a_lead a_defeat a_defeater s_ins s_outs a_order s_ordered a_is a_was s_reading s_isWell a_depths a_ways s_z, caI G a_w 43 g_w, caI G a_kept 43 g_kept_13] H := hP
  have hD : va_D A [ceX11 h0 a_w a_kept a_laid (nI 1) a_refusals a_row s_rows a_letters s_lettered a_hit a_lead a_defeat a_defeater s_ins s_outs a_order s_ordered a_is a_was s_reading s_isWell a_depths a_ways s_z, caI G a_w 43 g_w, caI G a_kept 43 g_kept_13] := hD
  refine lv_aload_n hx hb dX11_image_16 rfl (lv_at hl 0 rfl) ?_
  refine va_get (D := G.1) (ci := 9) (v := .ref a_w) (C := RX11) (T := TX11) (N := 24) hx hb hts ki_X11 hown hK.1 hP 0 rfl rfl 0 (by decide) kf1 (fun _ h9 => h9) rfl dX11_image_17 ?_
  refine lv_bipush (v := nI 42) hx hb dX11_image_20 kb_42 ?_
  have hin := h.1
  replace h := h.2
  refine va_iald hx hb hK.1 hP 1 0 rfl rfl hin dX11_image_22 ?_
  exact W.iret (v := g_w (nI 42).toNatClampNeg) hx hb hr (fun t ht hW => ⟨⟨_, ⟨g_kept_13, (nI 1)⟩, rfl, h, ⟨by rw [ht]; exact hP, hD⟩⟩, hS.F ht⟩) hS.2.2 dX11_image_23
set_option maxHeartbeats 4000000 in
set_option maxRecDepth 100000 in
theorem c_X11_on (l : Launch) (G : hcG) (h0 : Nat) (a_w : Nat) (a_kept : Nat) (a_laid : Nat) (a_refusals : Nat) (a_row : Nat) (a_letters : Nat) (a_hit : Nat) (a_lead : Nat) (a_defeat : Nat) (a_defeater : Nat) (a_order : Nat) (a_is : Nat) (a_was : Nat) (a_depths : Nat) (a_ways : Nat) (sz : Nat) (s_hasImage : Int32) (s_rows : Int32) (s_lettered : Int32) (s_ins : Int32) (s_outs : Int32) (s_ordered : Int32) (s_reading : Int32) (s_isWell : Int32) (s_z : Int32) (g_w : Nat → Int32) (g_kept : Nat → Int32) (g_refusals : Nat → Int32) (post : Int32 → (Nat → Int32) → (Nat → Int32) → Prop) (h : wp_X11_on post g_w g_kept s_hasImage g_refusals) : Met l yX11_on wsX11_on ({ frames := 1, cells := 0, slots := 0, locals := 22 }) (hcPc G [.ref h0] [ceX11 h0 a_w a_kept a_laid s_hasImage a_refusals a_row s_rows a_letters s_lettered a_hit a_lead a_defeat a_defeater s_ins s_outs a_order s_ordered a_is a_was s_reading s_isWell a_depths a_ways s_z, caI G a_w 43 g_w, caI G a_kept 43 g_kept, caI G a_refusals 7 g_refusals] sz) (va_Qi (fun (r : Int32) (u : (Nat → Int32) × (Nat → Int32)) => post r u.1 u.2) (hcB G (va_A [ceX11 h0 a_w a_kept a_laid s_hasImage a_refusals a_row s_rows a_letters s_lettered a_hit a_lead a_defeat a_defeater s_ins s_outs a_order s_ordered a_is a_was s_reading s_isWell a_depths a_ways s_z, caI G a_w 43 g_w, caI G a_kept 43 g_kept, caI G a_refusals 7 g_refusals] sz) (fun u : (Nat → Int32) × (Nat → Int32) => [ceX11 h0 a_w a_kept a_laid s_hasImage a_refusals a_row s_rows a_letters s_lettered a_hit a_lead a_defeat a_defeater s_ins s_outs a_order s_ordered a_is a_was s_reading s_isWell a_depths a_ways s_z, caI G a_w 43 u.1, caI G a_kept 43 g_kept, caI G a_refusals 7 u.2])) (va_A [ceX11 h0 a_w a_kept a_laid s_hasImage a_refusals a_row s_rows a_letters s_lettered a_hit a_lead a_defeat a_defeater s_ins s_outs a_order s_ordered a_is a_was s_reading s_isWell a_depths a_ways s_z, caI G a_w 43 g_w, caI G a_kept 43 g_kept, caI G a_refusals 7 g_refusals] sz)) 0 0 (va_A [ceX11 h0 a_w a_kept a_laid s_hasImage a_refusals a_row s_rows a_letters s_lettered a_hit a_lead a_defeat a_defeater s_ins s_outs a_order s_ordered a_is a_was s_reading s_isWell a_depths a_ways s_z, caI G a_w 43 g_w, caI G a_kept 43 g_kept, caI G a_refusals 7 g_refusals] sz) := by
  refine Met.ofW (cc := cX11_on) (maxL := 1) (ret := (some .int)) (by decide) rfl ?_
  intro p e s m args below meth c s₁ B hml hv
  obtain ⟨rfl, hsz, hP, hK, hD0⟩ := hv
  have hx := B.exec
  have hb := B.bytes
  have hr := B.returns
  have hts := atoms_spec (ws := wsX11_on) B.pre
  have hown : s.vm.findClass RX11 = some m.cls := findClass_of_methodNamed B.named
  have hlocks := B.notSynchronized
  subst hsz
  have hD := hD0.self (sz := s.heap.size)
  generalize hAe : va_A [ceX11 h0 a_w a_kept a_laid s_hasImage a_refusals a_row s_rows a_letters s_lettered a_hit a_lead a_defeat a_defeater s_ins s_outs a_order s_ordered a_is a_was s_reading s_isWell a_depths a_ways s_z, caI G a_w 43 g_w, caI G a_kept 43 g_kept, caI G a_refusals 7 g_refusals] s.heap.size = A at hD ⊢
  have hA : ∀ q : Nat, s.heap.size ≤ q → A q := fun q h => by rw [← hAe]; exact Or.inr h
  have hS : va_S A s.heap s.heap [] := va_S.rf
  have hP : va_P G.1 vwCl [ceX11 h0 a_w a_kept a_laid s_hasImage a_refusals a_row s_rows a_letters s_lettered a_hit a_lead a_defeat a_defeater s_ins s_outs a_order s_ordered a_is a_was s_reading s_isWell a_depths a_ways s_z, caI G a_w 43 g_w, caI G a_kept 43 g_kept, caI G a_refusals 7 g_refusals] s.heap := hP
  have hl := lv_entry ([.ref h0]) (n := 1) (Nat.le_of_ble_eq_true rfl)
  rw [lg_entry_eq]
  generalize (lg_sl ([.ref h0]) ++ List.replicate (1 - (lg_sl ([.ref h0])).length) Slot.unset).toArray = ls at hl ⊢
  have hl : lv_has ls 1 [(0, .ref h0)] := hl
  have kf0 := hts (.fieldLink RX11 308 "HallOfClaimsModel" "hasImage" "Z") (List.mem_of_getElem? (i := 1) (by decide +kernel))
  have kf1 := hts (.fieldLink RX11 13 "HallOfClaimsModel" "kept" "[I") (List.mem_of_getElem? (i := 2) (by decide +kernel))
  have kf2 := hts (.fieldLink RX11 9 "HallOfClaimsModel" "w" "[I") (List.mem_of_getElem? (i := 3) (by decide +kernel))
  have ki_X11 : ∀ w ∈ u_ws RX11 TX11 24, w ∈ wsX11_on := by decide +kernel
  unfold wp_X11_on at h
  refine lv_aload_n hx hb dX11_on_0 rfl (lv_at hl 0 rfl) ?_
  refine va_get (D := G.1) (ci := 9) (v := .int s_hasImage) (C := RX11) (T := TX11) (N := 24) hx hb hts ki_X11 hown hK.1 hP 0 rfl rfl 3 (by decide) kf0 (fun _ h9 => h9) rfl dX11_on_1 ?_
  refine lv_if_ne (tgt := 14) hx hb dX11_on_4 (by decide) (fun c => ?_) (fun c => ?_)
  · replace h := h.1 c
    refine lv_aload_n hx hb dX11_on_14 rfl (lv_at hl 0 rfl) ?_
    refine va_get (D := G.1) (ci := 9) (v := .ref a_kept) (C := RX11) (T := TX11) (N := 24) hx hb hts ki_X11 hown hK.1 hP 0 rfl rfl 1 (by decide) kf1 (fun _ h9 => h9) rfl dX11_on_15 ?_
    refine lv_aload_n hx hb dX11_on_18 rfl (lv_at hl 0 rfl) ?_
    refine va_get (D := G.1) (ci := 9) (v := .ref a_w) (C := RX11) (T := TX11) (N := 24) hx hb hts ki_X11 hown hK.1 hP 0 rfl rfl 0 (by decide) kf2 (fun _ h9 => h9) rfl dX11_on_19 ?_
    refine hc_kv (wr := [ceX11 h0 a_w a_kept a_laid s_hasImage a_refusals a_row s_rows a_letters s_lettered a_hit a_lead a_defeat a_defeater s_ins s_outs a_order s_ordered a_is a_was s_reading s_isWell a_depths a_ways s_z, caI G a_refusals 7 g_refusals]) (va_runS (As := [.ref a_kept, .ref a_w]) (rest := []) ⟨hx, hb, hml, hown, hts⟩ (c_X11_copies l G a_kept a_w s.heap.size g_kept g_w _ h) (va_cwS 2 hts gX11_on_X11_copies rfl rfl rfl (by decide +kernel) ⟨Nat.le_of_ble_eq_true rfl, Nat.le_of_ble_eq_true rfl⟩) (hc_pS hK hP hD [2, 1] rfl rfl) rfl rfl hl.1 rfl (lv_room (Nat.le_of_ble_eq_true rfl)) dX11_on_22 ⟨Nat.le_refl _, Nat.le_refl _⟩) hP hD hS hA [2, 1] [0, 3] rfl rfl rfl (by decide) (fun u H locs h hP hD hS => ?_)
    obtain ⟨g_w_22, rfl⟩ : ∃ z, z = u := ⟨_, rfl⟩
    try dsimp only at h
    have hP : va_P G.1 vwCl [ceX11 h0 a_w a_kept a_laid s_hasImage a_refusals a_row s_rows a_letters s_lettered a_hit a_lead a_defeat a_defeater s_ins s_outs a_order s_ordered a_is a_was s_reading s_isWell a_depths a_ways s_z, caI G a_refusals 7 g_refusals, caI G a_kept 43 g_kept, caI G a_w 43 g_w_22] H := hP
    have hD : va_D A [ceX11 h0 a_w a_kept a_laid s_hasImage a_refusals a_row s_rows a_letters s_lettered a_hit a_lead a_defeat a_defeater s_ins s_outs a_order s_ordered a_is a_was s_reading s_isWell a_depths a_ways s_z, caI G a_refusals 7 g_refusals, caI G a_kept 43 g_kept, caI G a_w 43 g_w_22] := hD
    refine lv_aload_n hx hb dX11_on_25 rfl (lv_at hl 0 rfl) ?_
    refine va_get (D := G.1) (ci := 9) (v := .ref a_w) (C := RX11) (T := TX11) (N := 24) hx hb hts ki_X11 hown hK.1 hP 0 rfl rfl 0 (by decide) kf2 (fun _ h9 => h9) rfl dX11_on_26 ?_
    refine lv_bipush (v := nI 42) hx hb dX11_on_29 kb_42 ?_
    have hin := h.1
    replace h := h.2
    refine va_iald hx hb hK.1 hP 3 0 rfl rfl hin dX11_on_31 ?_
    exact W.iret (v := g_w_22 (nI 42).toNatClampNeg) hx hb hr (fun t ht hW => ⟨⟨_, ⟨g_w_22, g_refusals⟩, rfl, h, ⟨by rw [ht]; exact (hP.sub [0, 3, 2, 1] rfl), (hD.sub [0, 3, 2, 1] (by decide) rfl)⟩⟩, hS.F ht⟩) hS.2.2 dX11_on_32
  · replace h := h.2 c
    refine lv_aload_n hx hb dX11_on_7 rfl (lv_at hl 0 rfl) ?_
    refine lv_bipush (v := (-3 : Int32)) hx hb dX11_on_8 kb_m3 ?_
    refine hc_ki (wr := [caI G a_w 43 g_w, caI G a_kept 43 g_kept]) (va_runV (As := [.int ((-3 : Int32))]) (rest := []) ⟨hx, hb, hml, hown, hts⟩ (c_X11_refused l G h0 a_w a_kept a_laid a_refusals a_row a_letters a_hit a_lead a_defeat a_defeater a_order a_is a_was a_depths a_ways s.heap.size s_hasImage s_rows s_lettered s_ins s_outs s_ordered s_reading s_isWell s_z g_refusals ((-3 : Int32)) _ h) (cwV 1 hts gX11_on_X11_refused rfl rfl rfl (by decide +kernel) ⟨Nat.le_of_ble_eq_true rfl, Nat.le_of_ble_eq_true rfl⟩) (hc_pV hK hP hD [0, 3] rfl rfl (ci := 9) 0 rfl rfl) rfl rfl hl.1 rfl (lv_room (Nat.le_of_ble_eq_true rfl)) dX11_on_10 ⟨Nat.le_refl _, Nat.le_refl _⟩) hP hD hS hA [0, 3] [1, 2] rfl rfl rfl (by decide) (fun r10 u H locs h hP hD hS => ?_)
    obtain ⟨g_refusals_10, rfl⟩ : ∃ z, z = u := ⟨_, rfl⟩
    try dsimp only at h
    have hP : va_P G.1 vwCl [caI G a_w 43 g_w, caI G a_kept 43 g_kept, ceX11 h0 a_w a_kept a_laid s_hasImage a_refusals a_row s_rows a_letters s_lettered a_hit a_lead a_defeat a_defeater s_ins s_outs a_order s_ordered a_is a_was s_reading s_isWell a_depths a_ways s_z, caI G a_refusals 7 g_refusals_10] H := hP
    have hD : va_D A [caI G a_w 43 g_w, caI G a_kept 43 g_kept, ceX11 h0 a_w a_kept a_laid s_hasImage a_refusals a_row s_rows a_letters s_lettered a_hit a_lead a_defeat a_defeater s_ins s_outs a_order s_ordered a_is a_was s_reading s_isWell a_depths a_ways s_z, caI G a_refusals 7 g_refusals_10] := hD
    exact W.iret (v := r10) hx hb hr (fun t ht hW => ⟨⟨_, ⟨g_w, g_refusals_10⟩, rfl, h, ⟨by rw [ht]; exact (hP.sub [2, 0, 1, 3] rfl), (hD.sub [2, 0, 1, 3] (by decide) rfl)⟩⟩, hS.F ht⟩) hS.2.2 dX11_on_13
set_option maxHeartbeats 4000000 in
set_option maxRecDepth 100000 in
theorem c_X11_onesIn (l : Launch) (G : hcG) (h0 : Nat) (a_w : Nat) (a_kept : Nat) (a_laid : Nat) (a_refusals : Nat) (a_row : Nat) (a_letters : Nat) (a_hit : Nat) (a_lead : Nat) (a_defeat : Nat) (a_defeater : Nat) (a_order : Nat) (a_is : Nat) (a_was : Nat) (a_depths : Nat) (a_ways : Nat) (sz : Nat) (s_hasImage : Int32) (s_rows : Int32) (s_lettered : Int32) (s_ins : Int32) (s_outs : Int32) (s_ordered : Int32) (s_reading : Int32) (s_isWell : Int32) (s_z : Int32) (g_w : Nat → Int32) (x1 : Int32) (post : Int32 → Prop) (h : wp_X11_onesIn post g_w x1) : Met l yX11_onesIn wsX11_onesIn ({ frames := 1, cells := 0, slots := 0, locals := 22 }) (hcPc G [.ref h0, .int x1] [ceX11 h0 a_w a_kept a_laid s_hasImage a_refusals a_row s_rows a_letters s_lettered a_hit a_lead a_defeat a_defeater s_ins s_outs a_order s_ordered a_is a_was s_reading s_isWell a_depths a_ways s_z, caI G a_w 43 g_w] sz) (va_Qi (fun (r : Int32) (u : Unit) => post r) (hcB G (va_A [ceX11 h0 a_w a_kept a_laid s_hasImage a_refusals a_row s_rows a_letters s_lettered a_hit a_lead a_defeat a_defeater s_ins s_outs a_order s_ordered a_is a_was s_reading s_isWell a_depths a_ways s_z, caI G a_w 43 g_w] sz) (fun u : Unit => [ceX11 h0 a_w a_kept a_laid s_hasImage a_refusals a_row s_rows a_letters s_lettered a_hit a_lead a_defeat a_defeater s_ins s_outs a_order s_ordered a_is a_was s_reading s_isWell a_depths a_ways s_z, caI G a_w 43 g_w])) (va_A [ceX11 h0 a_w a_kept a_laid s_hasImage a_refusals a_row s_rows a_letters s_lettered a_hit a_lead a_defeat a_defeater s_ins s_outs a_order s_ordered a_is a_was s_reading s_isWell a_depths a_ways s_z, caI G a_w 43 g_w] sz)) 0 0 (va_A [ceX11 h0 a_w a_kept a_laid s_hasImage a_refusals a_row s_rows a_letters s_lettered a_hit a_lead a_defeat a_defeater s_ins s_outs a_order s_ordered a_is a_was s_reading s_isWell a_depths a_ways s_z, caI G a_w 43 g_w] sz) := by
  refine Met.ofW (cc := cX11_onesIn) (maxL := 4) (ret := (some .int)) (by decide) rfl ?_
  intro p e s m args below meth c s₁ B hml hv
  obtain ⟨rfl, hsz, hP, hK, hD0⟩ := hv
  have hx := B.exec
  have hb := B.bytes
  have hr := B.returns
  have hts := atoms_spec (ws := wsX11_onesIn) B.pre
  have hown : s.vm.findClass RX11 = some m.cls := findClass_of_methodNamed B.named
  have hlocks := B.notSynchronized
  subst hsz
  have hD := hD0.self (sz := s.heap.size)
  generalize hAe : va_A [ceX11 h0 a_w a_kept a_laid s_hasImage a_refusals a_row s_rows a_letters s_lettered a_hit a_lead a_defeat a_defeater s_ins s_outs a_order s_ordered a_is a_was s_reading s_isWell a_depths a_ways s_z, caI G a_w 43 g_w] s.heap.size = A at hD ⊢
  have hA : ∀ q : Nat, s.heap.size ≤ q → A q := fun q h => by rw [← hAe]; exact Or.inr h
  have hS : va_S A s.heap s.heap [] := va_S.rf
  have hP : va_P G.1 vwCl [ceX11 h0 a_w a_kept a_laid s_hasImage a_refusals a_row s_rows a_letters s_lettered a_hit a_lead a_defeat a_defeater s_ins s_outs a_order s_ordered a_is a_was s_reading s_isWell a_depths a_ways s_z, caI G a_w 43 g_w] s.heap := hP
  have hl := lv_entry ([.ref h0, .int x1]) (n := 4) (Nat.le_of_ble_eq_true rfl)
  rw [lg_entry_eq]
  generalize (lg_sl ([.ref h0, .int x1]) ++ List.replicate (4 - (lg_sl ([.ref h0, .int x1])).length) Slot.unset).toArray = ls at hl ⊢
  have hl : lv_has ls 4 [(0, .ref h0), (1, .int x1)] := hl
  have kf0 := hts (.fieldLink RX11 9 "HallOfClaimsModel" "w" "[I") (List.mem_of_getElem? (i := 1) (by decide +kernel))
  have ki_X11 : ∀ w ∈ u_ws RX11 TX11 24, w ∈ wsX11_onesIn := by decide +kernel
  have w4 : ∀ (n : Nat) (v2 : Int32) (v3 : Int32) , wp_X11_onesIn_4 post g_w x1 n v2 v3 → ∀ (H : Heap) (locs : List Loc) (ls : Array Slot), va_P G.1 vwCl [ceX11 h0 a_w a_kept a_laid s_hasImage a_refusals a_row s_rows a_letters s_lettered a_hit a_lead a_defeat a_defeater s_ins s_outs a_order s_ordered a_is a_was s_reading s_isWell a_depths a_ways s_z, caI G a_w 43 g_w] H → va_D A [ceX11 h0 a_w a_kept a_laid s_hasImage a_refusals a_row s_rows a_letters s_lettered a_hit a_lead a_defeat a_defeater s_ins s_outs a_order s_ordered a_is a_was s_reading s_isWell a_depths a_ways s_z, caI G a_w 43 g_w] → va_S A s.heap H locs → lv_has ls 4 [(0, .ref h0), (1, .int x1), (2, .int v2), (3, .int v3)] → W p l e (headSpec wsX11_onesIn ({ frames := 1, cells := 0, slots := 0, locals := 22 })).room s m ([.ref h0, .int x1] : List Value).toArray below meth c H locs 0 0 (MQ below (va_Qi (fun (r : Int32) (u : Unit) => post r) (hcB G A (fun u : Unit => [ceX11 h0 a_w a_kept a_laid s_hasImage a_refusals a_row s_rows a_letters s_lettered a_hit a_lead a_defeat a_defeater s_ins s_outs a_order s_ordered a_is a_was s_reading s_isWell a_depths a_ways s_z, caI G a_w 43 g_w])) A) ([.ref h0, .int x1] : List Value).toArray s 0 0 A) (F0 m 4 ls []) := by
    intro n
    induction n with
    | zero => intro v2 v3 h; exact h.elim
    | succ n ih =>
      intro v2 v3 h H locs ls hP hD hS hl
      unfold wp_X11_onesIn_4 at h
      refine lv_iload_n hx hb dX11_onesIn_4 rfl (lv_at hl 3 rfl) ?_
      refine lv_aload_n hx hb dX11_onesIn_5 rfl (lv_at hl 0 rfl) ?_
      refine va_get (D := G.1) (ci := 9) (v := .ref a_w) (C := RX11) (T := TX11) (N := 24) hx hb hts ki_X11 hown hK.1 hP 0 rfl rfl 0 (by decide) kf0 (fun _ h9 => h9) rfl dX11_onesIn_6 ?_
      refine lv_bipush (v := nI 42) hx hb dX11_onesIn_9 kb_42 ?_
      have hin := h.1
      replace h := h.2
      refine va_iald hx hb hK.1 hP 1 0 rfl rfl hin dX11_onesIn_11 ?_
      refine lv_icmp_ge (tgt := 35) hx hb dX11_onesIn_12 (by decide) (fun c => ?_) (fun c => ?_)
      · replace h := h.1 c
        refine lv_iload_n hx hb dX11_onesIn_35 rfl (lv_at hl 2 rfl) ?_
        exact W.iret (v := v2) hx hb hr (fun t ht hW => ⟨⟨_, (), rfl, h, ⟨by rw [ht]; exact hP, hD⟩⟩, hS.F ht⟩) hS.2.2 dX11_onesIn_36
      · replace h := h.2 c
        refine lv_iload_n hx hb dX11_onesIn_15 rfl (lv_at hl 2 rfl) ?_
        refine lv_aload_n hx hb dX11_onesIn_16 rfl (lv_at hl 0 rfl) ?_
        refine va_get (D := G.1) (ci := 9) (v := .ref a_w) (C := RX11) (T := TX11) (N := 24) hx hb hts ki_X11 hown hK.1 hP 0 rfl rfl 0 (by decide) kf0 (fun _ h9 => h9) rfl dX11_onesIn_17 ?_
        refine lv_iload_n hx hb dX11_onesIn_20 rfl (lv_at hl 1 rfl) ?_
        refine lv_iload_n hx hb dX11_onesIn_21 rfl (lv_at hl 3 rfl) ?_
        refine lv_iadd hx hb dX11_onesIn_22 ?_
        have hin := h.1
        replace h := h.2
        refine va_iald hx hb hK.1 hP 1 0 rfl rfl hin dX11_onesIn_23 ?_
        refine hc_ki (wr := [ceX11 h0 a_w a_kept a_laid s_hasImage a_refusals a_row s_rows a_letters s_lettered a_hit a_lead a_defeat a_defeater s_ins s_outs a_order s_ordered a_is a_was s_reading s_isWell a_depths a_ways s_z, caI G a_w 43 g_w]) (va_runS (As := [.int (g_w (x1 + v3).toNatClampNeg)]) (rest := [.int v2]) ⟨hx, hb, hml, hown, hts⟩ (c_X11_ones l G H.size (g_w (x1 + v3).toNatClampNeg) _ h) (va_cwS 1 hts gX11_onesIn_X11_ones rfl rfl rfl (by decide +kernel) ⟨Nat.le_of_ble_eq_true rfl, Nat.le_of_ble_eq_true rfl⟩) (hc_pS hK hP hD [] rfl rfl) rfl rfl hl.1 rfl (lv_room (Nat.le_of_ble_eq_true rfl)) dX11_onesIn_24 ⟨Nat.le_refl _, Nat.le_refl _⟩) hP hD hS hA [] [0, 1] rfl rfl rfl (by decide) (fun r24 u H locs h hP hD hS => ?_)
        try dsimp only at h
        have hP : va_P G.1 vwCl [ceX11 h0 a_w a_kept a_laid s_hasImage a_refusals a_row s_rows a_letters s_lettered a_hit a_lead a_defeat a_defeater s_ins s_outs a_order s_ordered a_is a_was s_reading s_isWell a_depths a_ways s_z, caI G a_w 43 g_w] H := hP
        have hD : va_D A [ceX11 h0 a_w a_kept a_laid s_hasImage a_refusals a_row s_rows a_letters s_lettered a_hit a_lead a_defeat a_defeater s_ins s_outs a_order s_ordered a_is a_was s_reading s_isWell a_depths a_ways s_z, caI G a_w 43 g_w] := hD
        refine lv_iadd hx hb dX11_onesIn_27 ?_
        refine lv_istore_n (lv' := [(2, .int (v2 + r24)), (0, .ref h0), (1, .int x1), (3, .int v3)]) hx hb dX11_onesIn_28 rfl hl (by decide) rfl (fun ls hl => ?_)
        refine lv_iinc (v := v3 + nI 1) (lv' := [(3, .int (v3 + nI 1)), (2, .int (v2 + r24)), (0, .ref h0), (1, .int x1)]) hx hb dX11_onesIn_29 hl (k := 3) rfl (congrArg (fun q => v3 + q) kc_1) (by decide) rfl (fun ls hl => ?_)
        refine lv_goto (tgt := 4) hx hb dX11_onesIn_32 (by decide) ?_
        exact ih (v2 + r24) (v3 + nI 1) h _ _ _ hP hD hS (lv_sub hl [2, 3, 1, 0] rfl)
  unfold wp_X11_onesIn at h
  refine lv_iconst (v := nI 0) hx hb dX11_onesIn_0 kc_0 ?_
  refine lv_istore_n (lv' := [(2, .int (nI 0)), (0, .ref h0), (1, .int x1)]) hx hb dX11_onesIn_1 rfl hl (by decide) rfl (fun ls hl => ?_)
  refine lv_iconst (v := nI 0) hx hb dX11_onesIn_2 kc_0 ?_
  refine lv_istore_n (lv' := [(3, .int (nI 0)), (2, .int (nI 0)), (0, .ref h0), (1, .int x1)]) hx hb dX11_onesIn_3 rfl hl (by decide) rfl (fun ls hl => ?_)
  obtain ⟨n4, h⟩ := h
  exact w4  n4 (nI 0) (nI 0) h _ _ _ hP hD hS (lv_sub hl [2, 3, 1, 0] rfl)
set_option maxHeartbeats 4000000 in
set_option maxRecDepth 100000 in
theorem c_X11_count (l : Launch) (G : hcG) (h0 : Nat) (a_w : Nat) (a_kept : Nat) (a_laid : Nat) (a_refusals : Nat) (a_row : Nat) (a_letters : Nat) (a_hit : Nat) (a_lead : Nat) (a_defeat : Nat) (a_defeater : Nat) (a_order : Nat) (a_is : Nat) (a_was : Nat) (a_depths : Nat) (a_ways : Nat) (sz : Nat) (s_hasImage : Int32) (s_rows : Int32) (s_lettered : Int32) (s_ins : Int32) (s_outs : Int32) (s_ordered : Int32) (s_reading : Int32) (s_isWell : Int32) (s_z : Int32) (g_w : Nat → Int32) (g_refusals : Nat → Int32) (x1 : Int32) (post : Int32 → Prop) (h : wp_X11_count post g_w g_refusals s_rows s_lettered x1) : Met l yX11_count wsX11_count ({ frames := 2, cells := 0, slots := 0, locals := 45 }) (hcPc G [.ref h0, .int x1] [ceX11 h0 a_w a_kept a_laid s_hasImage a_refusals a_row s_rows a_letters s_lettered a_hit a_lead a_defeat a_defeater s_ins s_outs a_order s_ordered a_is a_was s_reading s_isWell a_depths a_ways s_z, caI G a_w 43 g_w, caI G a_refusals 7 g_refusals] sz) (va_Qi (fun (r : Int32) (u : Unit) => post r) (hcB G (va_A [ceX11 h0 a_w a_kept a_laid s_hasImage a_refusals a_row s_rows a_letters s_lettered a_hit a_lead a_defeat a_defeater s_ins s_outs a_order s_ordered a_is a_was s_reading s_isWell a_depths a_ways s_z, caI G a_w 43 g_w, caI G a_refusals 7 g_refusals] sz) (fun u : Unit => [ceX11 h0 a_w a_kept a_laid s_hasImage a_refusals a_row s_rows a_letters s_lettered a_hit a_lead a_defeat a_defeater s_ins s_outs a_order s_ordered a_is a_was s_reading s_isWell a_depths a_ways s_z, caI G a_w 43 g_w, caI G a_refusals 7 g_refusals])) (va_A [ceX11 h0 a_w a_kept a_laid s_hasImage a_refusals a_row s_rows a_letters s_lettered a_hit a_lead a_defeat a_defeater s_ins s_outs a_order s_ordered a_is a_was s_reading s_isWell a_depths a_ways s_z, caI G a_w 43 g_w, caI G a_refusals 7 g_refusals] sz)) 0 0 (va_A [ceX11 h0 a_w a_kept a_laid s_hasImage a_refusals a_row s_rows a_letters s_lettered a_hit a_lead a_defeat a_defeater s_ins s_outs a_order s_ordered a_is a_was s_reading s_isWell a_depths a_ways s_z, caI G a_w 43 g_w, caI G a_refusals 7 g_refusals] sz) := by
  refine Met.ofW (cc := cX11_count) (maxL := 2) (ret := (some .int)) (by decide) rfl ?_
  intro p e s m args below meth c s₁ B hml hv
  obtain ⟨rfl, hsz, hP, hK, hD0⟩ := hv
  have hx := B.exec
  have hb := B.bytes
  have hr := B.returns
  have hts := atoms_spec (ws := wsX11_count) B.pre
  have hown : s.vm.findClass RX11 = some m.cls := findClass_of_methodNamed B.named
  have hlocks := B.notSynchronized
  subst hsz
  have hD := hD0.self (sz := s.heap.size)
  generalize hAe : va_A [ceX11 h0 a_w a_kept a_laid s_hasImage a_refusals a_row s_rows a_letters s_lettered a_hit a_lead a_defeat a_defeater s_ins s_outs a_order s_ordered a_is a_was s_reading s_isWell a_depths a_ways s_z, caI G a_w 43 g_w, caI G a_refusals 7 g_refusals] s.heap.size = A at hD ⊢
  have hA : ∀ q : Nat, s.heap.size ≤ q → A q := fun q h => by rw [← hAe]; exact Or.inr h
  have hS : va_S A s.heap s.heap [] := va_S.rf
  have hP : va_P G.1 vwCl [ceX11 h0 a_w a_kept a_laid s_hasImage a_refusals a_row s_rows a_letters s_lettered a_hit a_lead a_defeat a_defeater s_ins s_outs a_order s_ordered a_is a_was s_reading s_isWell a_depths a_ways s_z, caI G a_w 43 g_w, caI G a_refusals 7 g_refusals] s.heap := hP
  have hl := lv_entry ([.ref h0, .int x1]) (n := 2) (Nat.le_of_ble_eq_true rfl)
  rw [lg_entry_eq]
  generalize (lg_sl ([.ref h0, .int x1]) ++ List.replicate (2 - (lg_sl ([.ref h0, .int x1])).length) Slot.unset).toArray = ls at hl ⊢
  have hl : lv_has ls 2 [(0, .ref h0), (1, .int x1)] := hl
  have kf0 := hts (.constantLong RX11 314 (11)) (List.mem_of_getElem? (i := 4) (by decide +kernel))
  have kf1 := hts (.constantLong RX11 316 (16)) (List.mem_of_getElem? (i := 5) (by decide +kernel))
  have kf2 := hts (.fieldLink RX11 19 "HallOfClaimsModel" "refusals" "[I") (List.mem_of_getElem? (i := 6) (by decide +kernel))
  have kf3 := hts (.fieldLink RX11 9 "HallOfClaimsModel" "w" "[I") (List.mem_of_getElem? (i := 1) (by decide +kernel))
  have kf4 := hts (.fieldLink RX11 269 "HallOfClaimsModel" "rows" "I") (List.mem_of_getElem? (i := 2) (by decide +kernel))
  have kf5 := hts (.fieldLink RX11 130 "HallOfClaimsModel" "lettered" "I") (List.mem_of_getElem? (i := 3) (by decide +kernel))
  have ki_X11 : ∀ w ∈ u_ws RX11 TX11 24, w ∈ wsX11_count := by decide +kernel
  unfold wp_X11_count at h
  refine lv_iload_n hx hb dX11_count_0 rfl (lv_at hl 1 rfl) ?_
  rcases hc_sw6 x1 with c | c | c | c | c | c | c | c
  · refine lv_tableOut (tgt := 92) hx hb dX11_count_1 c (by decide) ?_
    replace h := h.1 c
    refine lv_iload_n hx hb dX11_count_92 rfl (lv_at hl 1 rfl) ?_
    refine lv_i2l (v := x1.toInt64) hx hb dX11_count_93 rfl ?_
    refine lv_ldc2 (own := RX11) (v := 11) hx hb hown kf0 dX11_count_94 ?_
    refine lv_ldc2 (own := RX11) (v := 16) hx hb hown kf1 dX11_count_97 ?_
    refine hc_ki (wr := [ceX11 h0 a_w a_kept a_laid s_hasImage a_refusals a_row s_rows a_letters s_lettered a_hit a_lead a_defeat a_defeater s_ins s_outs a_order s_ordered a_is a_was s_reading s_isWell a_depths a_ways s_z, caI G a_w 43 g_w, caI G a_refusals 7 g_refusals]) (va_runS (As := [.long x1.toInt64, .long ((11 : Int64)), .long ((16 : Int64))]) (rest := []) ⟨hx, hb, hml, hown, hts⟩ (c_X11_in l G s.heap.size x1.toInt64 ((11 : Int64)) ((16 : Int64)) _ h) (va_cwS 3 hts gX11_count_X11_in rfl rfl rfl (by decide +kernel) ⟨Nat.le_of_ble_eq_true rfl, Nat.le_of_ble_eq_true rfl⟩) (hc_pS hK hP hD [] rfl rfl) rfl rfl hl.1 rfl (lv_room (Nat.le_of_ble_eq_true rfl)) dX11_count_100 ⟨Nat.le_refl _, Nat.le_refl _⟩) hP hD hS hA [] [0, 1, 2] rfl rfl rfl (by decide) (fun r100 u H locs h hP hD hS => ?_)
    try dsimp only at h
    have hP : va_P G.1 vwCl [ceX11 h0 a_w a_kept a_laid s_hasImage a_refusals a_row s_rows a_letters s_lettered a_hit a_lead a_defeat a_defeater s_ins s_outs a_order s_ordered a_is a_was s_reading s_isWell a_depths a_ways s_z, caI G a_w 43 g_w, caI G a_refusals 7 g_refusals] H := hP
    have hD : va_D A [ceX11 h0 a_w a_kept a_laid s_hasImage a_refusals a_row s_rows a_letters s_lettered a_hit a_lead a_defeat a_defeater s_ins s_outs a_order s_ordered a_is a_was s_reading s_isWell a_depths a_ways s_z, caI G a_w 43 g_w, caI G a_refusals 7 g_refusals] := hD
    refine lv_if_eq (tgt := 118) hx hb dX11_count_103 (by decide) (fun c => ?_) (fun c => ?_)
    · replace h := h.1 c
      refine lv_bipush (v := (-9 : Int32)) hx hb dX11_count_118 kb_m9 ?_
      exact W.iret (v := (-9 : Int32)) hx hb hr (fun t ht hW => ⟨⟨_, (), rfl, h, ⟨by rw [ht]; exact hP, hD⟩⟩, hS.F ht⟩) hS.2.2 dX11_count_120
    · replace h := h.2 c
      refine lv_aload_n hx hb dX11_count_106 rfl (lv_at hl 0 rfl) ?_
      refine va_get (D := G.1) (ci := 9) (v := .ref a_refusals) (C := RX11) (T := TX11) (N := 24) hx hb hts ki_X11 hown hK.1 hP 0 rfl rfl 4 (by decide) kf2 (fun _ h9 => h9) rfl dX11_count_107 ?_
      refine lv_iload_n hx hb dX11_count_110 rfl (lv_at hl 1 rfl) ?_
      refine lv_bipush (v := nI 10) hx hb dX11_count_111 kb_10 ?_
      refine lv_isub hx hb dX11_count_113 ?_
      have hin := h.1
      replace h := h.2
      refine va_iald hx hb hK.1 hP 2 0 rfl rfl hin dX11_count_114 ?_
      refine lv_goto (tgt := 120) hx hb dX11_count_115 (by decide) ?_
      exact W.iret (v := g_refusals (x1 - (nI 10)).toNatClampNeg) hx hb hr (fun t ht hW => ⟨⟨_, (), rfl, h, ⟨by rw [ht]; exact hP, hD⟩⟩, hS.F ht⟩) hS.2.2 dX11_count_120
  · refine lv_tableIn (tgt := 44) (off := 43) hx hb dX11_count_1 (by rw [c]; decide) (by rw [c]; decide) (by rw [c]; decide +kernel) (by decide) ?_
    replace h := h.2.1 c
    refine lv_aload_n hx hb dX11_count_44 rfl (lv_at hl 0 rfl) ?_
    refine va_get (D := G.1) (ci := 9) (v := .ref a_w) (C := RX11) (T := TX11) (N := 24) hx hb hts ki_X11 hown hK.1 hP 0 rfl rfl 0 (by decide) kf3 (fun _ h9 => h9) rfl dX11_count_45 ?_
    refine lv_bipush (v := nI 42) hx hb dX11_count_48 kb_42 ?_
    have hin := h.1
    replace h := h.2
    refine va_iald hx hb hK.1 hP 1 0 rfl rfl hin dX11_count_50 ?_
    exact W.iret (v := g_w (nI 42).toNatClampNeg) hx hb hr (fun t ht hW => ⟨⟨_, (), rfl, h, ⟨by rw [ht]; exact hP, hD⟩⟩, hS.F ht⟩) hS.2.2 dX11_count_51
  · refine lv_tableIn (tgt := 52) (off := 51) hx hb dX11_count_1 (by rw [c]; decide) (by rw [c]; decide) (by rw [c]; decide +kernel) (by decide) ?_
    replace h := h.2.2.1 c
    refine lv_aload_n hx hb dX11_count_52 rfl (lv_at hl 0 rfl) ?_
    refine va_get (D := G.1) (ci := 9) (v := .ref a_w) (C := RX11) (T := TX11) (N := 24) hx hb hts ki_X11 hown hK.1 hP 0 rfl rfl 0 (by decide) kf3 (fun _ h9 => h9) rfl dX11_count_53 ?_
    refine lv_bipush (v := nI 40) hx hb dX11_count_56 kb_40 ?_
    have hin := h.1
    replace h := h.2
    refine va_iald hx hb hK.1 hP 1 0 rfl rfl hin dX11_count_58 ?_
    exact W.iret (v := g_w (nI 40).toNatClampNeg) hx hb hr (fun t ht hW => ⟨⟨_, (), rfl, h, ⟨by rw [ht]; exact hP, hD⟩⟩, hS.F ht⟩) hS.2.2 dX11_count_59
  · refine lv_tableIn (tgt := 60) (off := 59) hx hb dX11_count_1 (by rw [c]; decide) (by rw [c]; decide) (by rw [c]; decide +kernel) (by decide) ?_
    replace h := h.2.2.2.1 c
    refine lv_aload_n hx hb dX11_count_60 rfl (lv_at hl 0 rfl) ?_
    refine lv_bipush (v := nI 24) hx hb dX11_count_61 kb_24 ?_
    refine hc_ki (wr := [caI G a_refusals 7 g_refusals]) (va_runV (As := [.int (nI 24)]) (rest := []) ⟨hx, hb, hml, hown, hts⟩ (c_X11_onesIn l G h0 a_w a_kept a_laid a_refusals a_row a_letters a_hit a_lead a_defeat a_defeater a_order a_is a_was a_depths a_ways s.heap.size s_hasImage s_rows s_lettered s_ins s_outs s_ordered s_reading s_isWell s_z g_w (nI 24) _ h) (cwV 1 hts gX11_count_X11_onesIn rfl rfl rfl (by decide +kernel) ⟨Nat.le_of_ble_eq_true rfl, Nat.le_of_ble_eq_true rfl⟩) (hc_pV hK hP hD [0, 1] rfl rfl (ci := 9) 0 rfl rfl) rfl rfl hl.1 rfl (lv_room (Nat.le_of_ble_eq_true rfl)) dX11_count_63 ⟨Nat.le_refl _, Nat.le_refl _⟩) hP hD hS hA [0, 1] [2] rfl rfl rfl (by decide) (fun r63 u H locs h hP hD hS => ?_)
    try dsimp only at h
    have hP : va_P G.1 vwCl [caI G a_refusals 7 g_refusals, ceX11 h0 a_w a_kept a_laid s_hasImage a_refusals a_row s_rows a_letters s_lettered a_hit a_lead a_defeat a_defeater s_ins s_outs a_order s_ordered a_is a_was s_reading s_isWell a_depths a_ways s_z, caI G a_w 43 g_w] H := hP
    have hD : va_D A [caI G a_refusals 7 g_refusals, ceX11 h0 a_w a_kept a_laid s_hasImage a_refusals a_row s_rows a_letters s_lettered a_hit a_lead a_defeat a_defeater s_ins s_outs a_order s_ordered a_is a_was s_reading s_isWell a_depths a_ways s_z, caI G a_w 43 g_w] := hD
    exact W.iret (v := r63) hx hb hr (fun t ht hW => ⟨⟨_, (), rfl, h, ⟨by rw [ht]; exact (hP.sub [1, 2, 0] rfl), (hD.sub [1, 2, 0] (by decide) rfl)⟩⟩, hS.F ht⟩) hS.2.2 dX11_count_66
  · refine lv_tableIn (tgt := 67) (off := 66) hx hb dX11_count_1 (by rw [c]; decide) (by rw [c]; decide) (by rw [c]; decide +kernel) (by decide) ?_
    replace h := h.2.2.2.2.1 c
    refine lv_aload_n hx hb dX11_count_67 rfl (lv_at hl 0 rfl) ?_
    refine lv_bipush (v := nI 32) hx hb dX11_count_68 kb_32 ?_
    refine hc_ki (wr := [caI G a_refusals 7 g_refusals]) (va_runV (As := [.int (nI 32)]) (rest := []) ⟨hx, hb, hml, hown, hts⟩ (c_X11_onesIn l G h0 a_w a_kept a_laid a_refusals a_row a_letters a_hit a_lead a_defeat a_defeater a_order a_is a_was a_depths a_ways s.heap.size s_hasImage s_rows s_lettered s_ins s_outs s_ordered s_reading s_isWell s_z g_w (nI 32) _ h) (cwV 1 hts gX11_count_X11_onesIn rfl rfl rfl (by decide +kernel) ⟨Nat.le_of_ble_eq_true rfl, Nat.le_of_ble_eq_true rfl⟩) (hc_pV hK hP hD [0, 1] rfl rfl (ci := 9) 0 rfl rfl) rfl rfl hl.1 rfl (lv_room (Nat.le_of_ble_eq_true rfl)) dX11_count_70 ⟨Nat.le_refl _, Nat.le_refl _⟩) hP hD hS hA [0, 1] [2] rfl rfl rfl (by decide) (fun r70 u H locs h hP hD hS => ?_)
    try dsimp only at h
    have hP : va_P G.1 vwCl [caI G a_refusals 7 g_refusals, ceX11 h0 a_w a_kept a_laid s_hasImage a_refusals a_row s_rows a_letters s_lettered a_hit a_lead a_defeat a_defeater s_ins s_outs a_order s_ordered a_is a_was s_reading s_isWell a_depths a_ways s_z, caI G a_w 43 g_w] H := hP
    have hD : va_D A [caI G a_refusals 7 g_refusals, ceX11 h0 a_w a_kept a_laid s_hasImage a_refusals a_row s_rows a_letters s_lettered a_hit a_lead a_defeat a_defeater s_ins s_outs a_order s_ordered a_is a_was s_reading s_isWell a_depths a_ways s_z, caI G a_w 43 g_w] := hD
    exact W.iret (v := r70) hx hb hr (fun t ht hW => ⟨⟨_, (), rfl, h, ⟨by rw [ht]; exact (hP.sub [1, 2, 0] rfl), (hD.sub [1, 2, 0] (by decide) rfl)⟩⟩, hS.F ht⟩) hS.2.2 dX11_count_73
  · refine lv_tableIn (tgt := 74) (off := 73) hx hb dX11_count_1 (by rw [c]; decide) (by rw [c]; decide) (by rw [c]; decide +kernel) (by decide) ?_
    replace h := h.2.2.2.2.2.1 c
    refine lv_aload_n hx hb dX11_count_74 rfl (lv_at hl 0 rfl) ?_
    refine va_get (D := G.1) (ci := 9) (v := .ref a_w) (C := RX11) (T := TX11) (N := 24) hx hb hts ki_X11 hown hK.1 hP 0 rfl rfl 0 (by decide) kf3 (fun _ h9 => h9) rfl dX11_count_75 ?_
    refine lv_bipush (v := nI 41) hx hb dX11_count_78 kb_41 ?_
    have hin := h.1
    replace h := h.2
    refine va_iald hx hb hK.1 hP 1 0 rfl rfl hin dX11_count_80 ?_
    exact W.iret (v := g_w (nI 41).toNatClampNeg) hx hb hr (fun t ht hW => ⟨⟨_, (), rfl, h, ⟨by rw [ht]; exact hP, hD⟩⟩, hS.F ht⟩) hS.2.2 dX11_count_81
  · refine lv_tableIn (tgt := 82) (off := 81) hx hb dX11_count_1 (by rw [c]; decide) (by rw [c]; decide) (by rw [c]; decide +kernel) (by decide) ?_
    replace h := h.2.2.2.2.2.2.1 c
    refine lv_aload_n hx hb dX11_count_82 rfl (lv_at hl 0 rfl) ?_
    refine va_get (D := G.1) (ci := 9) (v := .int s_rows) (C := RX11) (T := TX11) (N := 24) hx hb hts ki_X11 hown hK.1 hP 0 rfl rfl 6 (by decide) kf4 (fun _ h9 => h9) rfl dX11_count_83 ?_
    exact W.iret (v := s_rows) hx hb hr (fun t ht hW => ⟨⟨_, (), rfl, h, ⟨by rw [ht]; exact hP, hD⟩⟩, hS.F ht⟩) hS.2.2 dX11_count_86
  · refine lv_tableIn (tgt := 87) (off := 86) hx hb dX11_count_1 (by rw [c]; decide) (by rw [c]; decide) (by rw [c]; decide +kernel) (by decide) ?_
    replace h := h.2.2.2.2.2.2.2 c
    refine lv_aload_n hx hb dX11_count_87 rfl (lv_at hl 0 rfl) ?_
    refine va_get (D := G.1) (ci := 9) (v := .int s_lettered) (C := RX11) (T := TX11) (N := 24) hx hb hts ki_X11 hown hK.1 hP 0 rfl rfl 8 (by decide) kf5 (fun _ h9 => h9) rfl dX11_count_88 ?_
    exact W.iret (v := s_lettered) hx hb hr (fun t ht hW => ⟨⟨_, (), rfl, h, ⟨by rw [ht]; exact hP, hD⟩⟩, hS.F ht⟩) hS.2.2 dX11_count_91
