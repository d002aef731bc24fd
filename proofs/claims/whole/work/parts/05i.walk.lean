set_option maxHeartbeats 4000000 in
set_option maxRecDepth 100000 in
theorem c_X11_findsPlain (l : Launch) (G : hcG) (h0 : Nat) (a_w : Nat) (a_kept : Nat) (a_laid : Nat) (a_refusals : Nat) (a_row : Nat) (a_letters : Nat) (a_hit : Nat) (a_lead : Nat) (a_defeat : Nat) (a_defeater : Nat) (a_order : Nat) (a_is : Nat) (a_was : Nat) (a_depths : Nat) (a_ways : Nat) (sz : Nat) (s_hasImage : Int32) (s_rows : Int32) (s_lettered : Int32) (s_ins : Int32) (s_outs : Int32) (s_ordered : Int32) (s_reading : Int32) (s_isWell : Int32) (s_z : Int32) (g_w : Nat → Int32) (g_defeat : Nat → Int32) (g_defeater : Nat → Int32) (g_is : Nat → Int32) (x1 : Int32) (post : (Nat → Int32) → Prop) (h : wp_X11_findsPlain post g_w g_defeat g_defeater g_is x1) : Met l yX11_findsPlain wsX11_findsPlain ({ frames := 5, cells := 0, slots := 0, locals := 112 }) (hcPc G [.ref h0, .int x1] [ceX11 h0 a_w a_kept a_laid s_hasImage a_refusals a_row s_rows a_letters s_lettered a_hit a_lead a_defeat a_defeater s_ins s_outs a_order s_ordered a_is a_was s_reading s_isWell a_depths a_ways s_z, caI G a_w 43 g_w, caI G a_defeat 8 g_defeat, caI G a_defeater 8 g_defeater, caZ G a_is 256 g_is] sz) (va_Qv (fun u : (Nat → Int32) => post u) (hcB G (va_A [ceX11 h0 a_w a_kept a_laid s_hasImage a_refusals a_row s_rows a_letters s_lettered a_hit a_lead a_defeat a_defeater s_ins s_outs a_order s_ordered a_is a_was s_reading s_isWell a_depths a_ways s_z, caI G a_w 43 g_w, caI G a_defeat 8 g_defeat, caI G a_defeater 8 g_defeater, caZ G a_is 256 g_is] sz) (fun u : (Nat → Int32) => [ceX11 h0 a_w a_kept a_laid s_hasImage a_refusals a_row s_rows a_letters s_lettered a_hit a_lead a_defeat a_defeater s_ins s_outs a_order s_ordered a_is a_was s_reading s_isWell a_depths a_ways s_z, caI G a_w 43 g_w, caI G a_defeat 8 g_defeat, caI G a_defeater 8 g_defeater, caZ G a_is 256 u])) (va_A [ceX11 h0 a_w a_kept a_laid s_hasImage a_refusals a_row s_rows a_letters s_lettered a_hit a_lead a_defeat a_defeater s_ins s_outs a_order s_ordered a_is a_was s_reading s_isWell a_depths a_ways s_z, caI G a_w 43 g_w, caI G a_defeat 8 g_defeat, caI G a_defeater 8 g_defeater, caZ G a_is 256 g_is] sz)) 0 0 (va_A [ceX11 h0 a_w a_kept a_laid s_hasImage a_refusals a_row s_rows a_letters s_lettered a_hit a_lead a_defeat a_defeater s_ins s_outs a_order s_ordered a_is a_was s_reading s_isWell a_depths a_ways s_z, caI G a_w 43 g_w, caI G a_defeat 8 g_defeat, caI G a_defeater 8 g_defeater, caZ G a_is 256 g_is] sz) := by
  refine Met.ofW (cc := cX11_findsPlain) (maxL := 3) (ret := none) (by decide) rfl ?_
  intro p e s m args below meth c s₁ B hml hv
  obtain ⟨rfl, hsz, hP, hK, hD0⟩ := hv
  have hx := B.exec
  have hb := B.bytes
  have hr := B.returns
  have hts := atoms_spec (ws := wsX11_findsPlain) B.pre
  have hown : s.vm.findClass RX11 = some m.cls := findClass_of_methodNamed B.named
  have hlocks := B.notSynchronized
  subst hsz
  have hD := hD0.self (sz := s.heap.size)
  generalize hAe : va_A [ceX11 h0 a_w a_kept a_laid s_hasImage a_refusals a_row s_rows a_letters s_lettered a_hit a_lead a_defeat a_defeater s_ins s_outs a_order s_ordered a_is a_was s_reading s_isWell a_depths a_ways s_z, caI G a_w 43 g_w, caI G a_defeat 8 g_defeat, caI G a_defeater 8 g_defeater, caZ G a_is 256 g_is] s.heap.size = A at hD ⊢
  have hA : ∀ q : Nat, s.heap.size ≤ q → A q := fun q h => by rw [← hAe]; exact Or.inr h
  have hS : va_S A s.heap s.heap [] := va_S.rf
  have hP : va_P G.1 vwCl [ceX11 h0 a_w a_kept a_laid s_hasImage a_refusals a_row s_rows a_letters s_lettered a_hit a_lead a_defeat a_defeater s_ins s_outs a_order s_ordered a_is a_was s_reading s_isWell a_depths a_ways s_z, caI G a_w 43 g_w, caI G a_defeat 8 g_defeat, caI G a_defeater 8 g_defeater, caZ G a_is 256 g_is] s.heap := hP
  have hl := lv_entry ([.ref h0, .int x1]) (n := 3) (Nat.le_of_ble_eq_true rfl)
  rw [lg_entry_eq]
  generalize (lg_sl ([.ref h0, .int x1]) ++ List.replicate (3 - (lg_sl ([.ref h0, .int x1])).length) Slot.unset).toArray = ls at hl ⊢
  have hl : lv_has ls 3 [(0, .ref h0), (1, .int x1)] := hl
  have kf0 := hts (.fieldLink RX11 43 "HallOfClaimsModel" "is" "[Z") (List.mem_of_getElem? (i := 1) (by decide +kernel))
  have ki_X11 : ∀ w ∈ u_ws RX11 TX11 24, w ∈ wsX11_findsPlain := by decide +kernel
  have w2 : ∀ (n : Nat) (v2 : Int32) (g_is : Nat → Int32) , wp_X11_findsPlain_2 post g_w g_defeat g_defeater x1 n v2 g_is → ∀ (H : Heap) (locs : List Loc) (ls : Array Slot), va_P G.1 vwCl [ceX11 h0 a_w a_kept a_laid s_hasImage a_refusals a_row s_rows a_letters s_lettered a_hit a_lead a_defeat a_defeater s_ins s_outs a_order s_ordered a_is a_was s_reading s_isWell a_depths a_ways s_z, caI G a_w 43 g_w, caI G a_defeat 8 g_defeat, caI G a_defeater 8 g_defeater, caZ G a_is 256 g_is] H → va_D A [ceX11 h0 a_w a_kept a_laid s_hasImage a_refusals a_row s_rows a_letters s_lettered a_hit a_lead a_defeat a_defeater s_ins s_outs a_order s_ordered a_is a_was s_reading s_isWell a_depths a_ways s_z, caI G a_w 43 g_w, caI G a_defeat 8 g_defeat, caI G a_defeater 8 g_defeater, caZ G a_is 256 g_is] → va_S A s.heap H locs → lv_has ls 3 [(0, .ref h0), (1, .int x1), (2, .int v2)] → W p l e (headSpec wsX11_findsPlain ({ frames := 5, cells := 0, slots := 0, locals := 112 })).room s m ([.ref h0, .int x1] : List Value).toArray below meth c H locs 0 0 (MQ below (va_Qv (fun u : (Nat → Int32) => post u) (hcB G A (fun u : (Nat → Int32) => [ceX11 h0 a_w a_kept a_laid s_hasImage a_refusals a_row s_rows a_letters s_lettered a_hit a_lead a_defeat a_defeater s_ins s_outs a_order s_ordered a_is a_was s_reading s_isWell a_depths a_ways s_z, caI G a_w 43 g_w, caI G a_defeat 8 g_defeat, caI G a_defeater 8 g_defeater, caZ G a_is 256 u])) A) ([.ref h0, .int x1] : List Value).toArray s 0 0 A) (F0 m 2 ls []) := by
    intro n
    induction n with
    | zero => intro v2 g_is h; exact h.elim
    | succ n ih =>
      intro v2 g_is h H locs ls hP hD hS hl
      unfold wp_X11_findsPlain_2 at h
      refine lv_iload_n hx hb dX11_findsPlain_2 rfl (lv_at hl 2 rfl) ?_
      refine lv_sipush (v := nI 256) hx hb dX11_findsPlain_3 ks_256 ?_
      refine lv_icmp_ge (tgt := 64) hx hb dX11_findsPlain_6 (by decide) (fun c => ?_) (fun c => ?_)
      · replace h := h.1 c
        exact W.vret hx hb hr (fun t ht hW => ⟨⟨g_is, rfl, h, ⟨by rw [ht]; exact hP, hD⟩⟩, hS.F ht⟩) hS.2.2 dX11_findsPlain_64
      · replace h := h.2 c
        refine lv_aload_n hx hb dX11_findsPlain_9 rfl (lv_at hl 0 rfl) ?_
        refine va_get (D := G.1) (ci := 9) (v := .ref a_is) (C := RX11) (T := TX11) (N := 24) hx hb hts ki_X11 hown hK.1 hP 0 rfl rfl 17 (by decide) kf0 (fun _ h9 => h9) rfl dX11_findsPlain_10 ?_
        refine lv_iload_n hx hb dX11_findsPlain_13 rfl (lv_at hl 2 rfl) ?_
        refine lv_iload_n hx hb dX11_findsPlain_14 rfl (lv_at hl 1 rfl) ?_
        refine lv_if_ne (tgt := 26) hx hb dX11_findsPlain_15 (by decide) (fun c => ?_) (fun c => ?_)
        · replace h := h.1 c
          refine lv_iload_n hx hb dX11_findsPlain_26 rfl (lv_at hl 1 rfl) ?_
          refine lv_iconst (v := nI 4) hx hb dX11_findsPlain_27 kc_4 ?_
          refine lv_icmp_ne (tgt := 39) hx hb dX11_findsPlain_28 (by decide) (fun c => ?_) (fun c => ?_)
          · replace h := h.1 c
            refine lv_iload_n hx hb dX11_findsPlain_39 rfl (lv_at hl 1 rfl) ?_
            refine lv_iconst (v := nI 1) hx hb dX11_findsPlain_40 kc_1 ?_
            refine lv_icmp_ne (tgt := 52) hx hb dX11_findsPlain_41 (by decide) (fun c => ?_) (fun c => ?_)
            · replace h := h.1 c
              refine lv_aload_n hx hb dX11_findsPlain_52 rfl (lv_at hl 0 rfl) ?_
              refine lv_iload_n hx hb dX11_findsPlain_53 rfl (lv_at hl 2 rfl) ?_
              refine hc_ki (wr := [caZ G a_is 256 g_is]) (va_runV (As := [.int v2]) (rest := [.int v2, .ref a_is]) ⟨hx, hb, hml, hown, hts⟩ (c_X11_isComplete l G h0 a_w a_kept a_laid a_refusals a_row a_letters a_hit a_lead a_defeat a_defeater a_order a_is a_was a_depths a_ways H.size s_hasImage s_rows s_lettered s_ins s_outs s_ordered s_reading s_isWell s_z g_w g_defeat g_defeater v2 _ h) (cwV 1 hts gX11_findsPlain_X11_isComplete rfl rfl rfl (by decide +kernel) ⟨Nat.le_of_ble_eq_true rfl, Nat.le_of_ble_eq_true rfl⟩) (hc_pV hK hP hD [0, 1, 2, 3] rfl rfl (ci := 9) 0 rfl rfl) rfl rfl hl.1 rfl (lv_room (Nat.le_of_ble_eq_true rfl)) dX11_findsPlain_54 ⟨Nat.le_refl _, Nat.le_refl _⟩) hP hD hS hA [0, 1, 2, 3] [4] rfl rfl rfl (by decide) (fun r54 u H locs h hP hD hS => ?_)
              try dsimp only at h
              have hP : va_P G.1 vwCl [caZ G a_is 256 g_is, ceX11 h0 a_w a_kept a_laid s_hasImage a_refusals a_row s_rows a_letters s_lettered a_hit a_lead a_defeat a_defeater s_ins s_outs a_order s_ordered a_is a_was s_reading s_isWell a_depths a_ways s_z, caI G a_w 43 g_w, caI G a_defeat 8 g_defeat, caI G a_defeater 8 g_defeater] H := hP
              have hD : va_D A [caZ G a_is 256 g_is, ceX11 h0 a_w a_kept a_laid s_hasImage a_refusals a_row s_rows a_letters s_lettered a_hit a_lead a_defeat a_defeater s_ins s_outs a_order s_ordered a_is a_was s_reading s_isWell a_depths a_ways s_z, caI G a_w 43 g_w, caI G a_defeat 8 g_defeat, caI G a_defeater 8 g_defeater] := hD
              have hin := h.1
              replace h := h.2
              refine va_zast hx hb hK.1 hP hD hS 0 2 rfl rfl hin dX11_findsPlain_57 (fun H locs hP hD hS => ?_)
              have hP : va_P G.1 vwCl [caZ G a_is 256 (upd g_is v2.toNatClampNeg (vp_nar .boolean r54)), ceX11 h0 a_w a_kept a_laid s_hasImage a_refusals a_row s_rows a_letters s_lettered a_hit a_lead a_defeat a_defeater s_ins s_outs a_order s_ordered a_is a_was s_reading s_isWell a_depths a_ways s_z, caI G a_w 43 g_w, caI G a_defeat 8 g_defeat, caI G a_defeater 8 g_defeater] H := hP
              have hD : va_D A [caZ G a_is 256 (upd g_is v2.toNatClampNeg (vp_nar .boolean r54)), ceX11 h0 a_w a_kept a_laid s_hasImage a_refusals a_row s_rows a_letters s_lettered a_hit a_lead a_defeat a_defeater s_ins s_outs a_order s_ordered a_is a_was s_reading s_isWell a_depths a_ways s_z, caI G a_w 43 g_w, caI G a_defeat 8 g_defeat, caI G a_defeater 8 g_defeater] := hD
              refine lv_iinc (v := v2 + nI 1) (lv' := [(2, .int (v2 + nI 1)), (0, .ref h0), (1, .int x1)]) hx hb dX11_findsPlain_58 hl (k := 2) rfl (congrArg (fun q => v2 + q) kc_1) (by decide) rfl (fun ls hl => ?_)
              refine lv_goto (tgt := 2) hx hb dX11_findsPlain_61 (by decide) ?_
              exact ih (v2 + nI 1) (upd g_is v2.toNatClampNeg (vp_nar .boolean r54)) h _ _ _ (hP.sub [1, 2, 3, 4, 0] rfl) (hD.sub [1, 2, 3, 4, 0] (by decide) rfl) hS (lv_sub hl [1, 2, 0] rfl)
            · replace h := h.2 c
              refine lv_aload_n hx hb dX11_findsPlain_44 rfl (lv_at hl 0 rfl) ?_
              refine lv_iload_n hx hb dX11_findsPlain_45 rfl (lv_at hl 2 rfl) ?_
              refine hc_ki (wr := [caZ G a_is 256 g_is]) (va_runV (As := [.int v2]) (rest := [.int v2, .ref a_is]) ⟨hx, hb, hml, hown, hts⟩ (c_X11_isAdmissible l G h0 a_w a_kept a_laid a_refusals a_row a_letters a_hit a_lead a_defeat a_defeater a_order a_is a_was a_depths a_ways H.size s_hasImage s_rows s_lettered s_ins s_outs s_ordered s_reading s_isWell s_z g_w g_defeat g_defeater v2 _ h) (cwV 1 hts gX11_findsPlain_X11_isAdmissible rfl rfl rfl (by decide +kernel) ⟨Nat.le_of_ble_eq_true rfl, Nat.le_of_ble_eq_true rfl⟩) (hc_pV hK hP hD [0, 1, 2, 3] rfl rfl (ci := 9) 0 rfl rfl) rfl rfl hl.1 rfl (lv_room (Nat.le_of_ble_eq_true rfl)) dX11_findsPlain_46 ⟨Nat.le_refl _, Nat.le_refl _⟩) hP hD hS hA [0, 1, 2, 3] [4] rfl rfl rfl (by decide) (fun r46 u H locs h hP hD hS => ?_)
              try dsimp only at h
              have hP : va_P G.1 vwCl [caZ G a_is 256 g_is, ceX11 h0 a_w a_kept a_laid s_hasImage a_refusals a_row s_rows a_letters s_lettered a_hit a_lead a_defeat a_defeater s_ins s_outs a_order s_ordered a_is a_was s_reading s_isWell a_depths a_ways s_z, caI G a_w 43 g_w, caI G a_defeat 8 g_defeat, caI G a_defeater 8 g_defeater] H := hP
              have hD : va_D A [caZ G a_is 256 g_is, ceX11 h0 a_w a_kept a_laid s_hasImage a_refusals a_row s_rows a_letters s_lettered a_hit a_lead a_defeat a_defeater s_ins s_outs a_order s_ordered a_is a_was s_reading s_isWell a_depths a_ways s_z, caI G a_w 43 g_w, caI G a_defeat 8 g_defeat, caI G a_defeater 8 g_defeater] := hD
              refine lv_goto (tgt := 57) hx hb dX11_findsPlain_49 (by decide) ?_
              have hin := h.1
              replace h := h.2
              refine va_zast hx hb hK.1 hP hD hS 0 2 rfl rfl hin dX11_findsPlain_57 (fun H locs hP hD hS => ?_)
              have hP : va_P G.1 vwCl [caZ G a_is 256 (upd g_is v2.toNatClampNeg (vp_nar .boolean r46)), ceX11 h0 a_w a_kept a_laid s_hasImage a_refusals a_row s_rows a_letters s_lettered a_hit a_lead a_defeat a_defeater s_ins s_outs a_order s_ordered a_is a_was s_reading s_isWell a_depths a_ways s_z, caI G a_w 43 g_w, caI G a_defeat 8 g_defeat, caI G a_defeater 8 g_defeater] H := hP
              have hD : va_D A [caZ G a_is 256 (upd g_is v2.toNatClampNeg (vp_nar .boolean r46)), ceX11 h0 a_w a_kept a_laid s_hasImage a_refusals a_row s_rows a_letters s_lettered a_hit a_lead a_defeat a_defeater s_ins s_outs a_order s_ordered a_is a_was s_reading s_isWell a_depths a_ways s_z, caI G a_w 43 g_w, caI G a_defeat 8 g_defeat, caI G a_defeater 8 g_defeater] := hD
              refine lv_iinc (v := v2 + nI 1) (lv' := [(2, .int (v2 + nI 1)), (0, .ref h0), (1, .int x1)]) hx hb dX11_findsPlain_58 hl (k := 2) rfl (congrArg (fun q => v2 + q) kc_1) (by decide) rfl (fun ls hl => ?_)
              refine lv_goto (tgt := 2) hx hb dX11_findsPlain_61 (by decide) ?_
              exact ih (v2 + nI 1) (upd g_is v2.toNatClampNeg (vp_nar .boolean r46)) h _ _ _ (hP.sub [1, 2, 3, 4, 0] rfl) (hD.sub [1, 2, 3, 4, 0] (by decide) rfl) hS (lv_sub hl [1, 2, 0] rfl)
          · replace h := h.2 c
            refine lv_aload_n hx hb dX11_findsPlain_31 rfl (lv_at hl 0 rfl) ?_
            refine lv_iload_n hx hb dX11_findsPlain_32 rfl (lv_at hl 2 rfl) ?_
            refine hc_ki (wr := [caI G a_defeater 8 g_defeater, caZ G a_is 256 g_is]) (va_runV (As := [.int v2]) (rest := [.int v2, .ref a_is]) ⟨hx, hb, hml, hown, hts⟩ (c_X11_isStable l G h0 a_w a_kept a_laid a_refusals a_row a_letters a_hit a_lead a_defeat a_defeater a_order a_is a_was a_depths a_ways H.size s_hasImage s_rows s_lettered s_ins s_outs s_ordered s_reading s_isWell s_z g_w g_defeat v2 _ h) (cwV 1 hts gX11_findsPlain_X11_isStable rfl rfl rfl (by decide +kernel) ⟨Nat.le_of_ble_eq_true rfl, Nat.le_of_ble_eq_true rfl⟩) (hc_pV hK hP hD [0, 1, 2] rfl rfl (ci := 9) 0 rfl rfl) rfl rfl hl.1 rfl (lv_room (Nat.le_of_ble_eq_true rfl)) dX11_findsPlain_33 ⟨Nat.le_refl _, Nat.le_refl _⟩) hP hD hS hA [0, 1, 2] [3, 4] rfl rfl rfl (by decide) (fun r33 u H locs h hP hD hS => ?_)
            try dsimp only at h
            have hP : va_P G.1 vwCl [caI G a_defeater 8 g_defeater, caZ G a_is 256 g_is, ceX11 h0 a_w a_kept a_laid s_hasImage a_refusals a_row s_rows a_letters s_lettered a_hit a_lead a_defeat a_defeater s_ins s_outs a_order s_ordered a_is a_was s_reading s_isWell a_depths a_ways s_z, caI G a_w 43 g_w, caI G a_defeat 8 g_defeat] H := hP
            have hD : va_D A [caI G a_defeater 8 g_defeater, caZ G a_is 256 g_is, ceX11 h0 a_w a_kept a_laid s_hasImage a_refusals a_row s_rows a_letters s_lettered a_hit a_lead a_defeat a_defeater s_ins s_outs a_order s_ordered a_is a_was s_reading s_isWell a_depths a_ways s_z, caI G a_w 43 g_w, caI G a_defeat 8 g_defeat] := hD
            refine lv_goto (tgt := 57) hx hb dX11_findsPlain_36 (by decide) ?_
            have hin := h.1
            replace h := h.2
            refine va_zast hx hb hK.1 hP hD hS 1 2 rfl rfl hin dX11_findsPlain_57 (fun H locs hP hD hS => ?_)
            have hP : va_P G.1 vwCl [caI G a_defeater 8 g_defeater, caZ G a_is 256 (upd g_is v2.toNatClampNeg (vp_nar .boolean r33)), ceX11 h0 a_w a_kept a_laid s_hasImage a_refusals a_row s_rows a_letters s_lettered a_hit a_lead a_defeat a_defeater s_ins s_outs a_order s_ordered a_is a_was s_reading s_isWell a_depths a_ways s_z, caI G a_w 43 g_w, caI G a_defeat 8 g_defeat] H := hP
            have hD : va_D A [caI G a_defeater 8 g_defeater, caZ G a_is 256 (upd g_is v2.toNatClampNeg (vp_nar .boolean r33)), ceX11 h0 a_w a_kept a_laid s_hasImage a_refusals a_row s_rows a_letters s_lettered a_hit a_lead a_defeat a_defeater s_ins s_outs a_order s_ordered a_is a_was s_reading s_isWell a_depths a_ways s_z, caI G a_w 43 g_w, caI G a_defeat 8 g_defeat] := hD
            refine lv_iinc (v := v2 + nI 1) (lv' := [(2, .int (v2 + nI 1)), (0, .ref h0), (1, .int x1)]) hx hb dX11_findsPlain_58 hl (k := 2) rfl (congrArg (fun q => v2 + q) kc_1) (by decide) rfl (fun ls hl => ?_)
            refine lv_goto (tgt := 2) hx hb dX11_findsPlain_61 (by decide) ?_
            exact ih (v2 + nI 1) (upd g_is v2.toNatClampNeg (vp_nar .boolean r33)) h _ _ _ (hP.sub [2, 3, 4, 0, 1] rfl) (hD.sub [2, 3, 4, 0, 1] (by decide) rfl) hS (lv_sub hl [1, 2, 0] rfl)
        · replace h := h.2 c
          refine lv_aload_n hx hb dX11_findsPlain_18 rfl (lv_at hl 0 rfl) ?_
          refine lv_iload_n hx hb dX11_findsPlain_19 rfl (lv_at hl 2 rfl) ?_
          refine hc_ki (wr := [caI G a_defeater 8 g_defeater, caZ G a_is 256 g_is]) (va_runV (As := [.int v2]) (rest := [.int v2, .ref a_is]) ⟨hx, hb, hml, hown, hts⟩ (c_X11_isFree l G h0 a_w a_kept a_laid a_refusals a_row a_letters a_hit a_lead a_defeat a_defeater a_order a_is a_was a_depths a_ways H.size s_hasImage s_rows s_lettered s_ins s_outs s_ordered s_reading s_isWell s_z g_w g_defeat v2 _ h) (cwV 1 hts gX11_findsPlain_X11_isFree rfl rfl rfl (by decide +kernel) ⟨Nat.le_of_ble_eq_true rfl, Nat.le_of_ble_eq_true rfl⟩) (hc_pV hK hP hD [0, 1, 2] rfl rfl (ci := 9) 0 rfl rfl) rfl rfl hl.1 rfl (lv_room (Nat.le_of_ble_eq_true rfl)) dX11_findsPlain_20 ⟨Nat.le_refl _, Nat.le_refl _⟩) hP hD hS hA [0, 1, 2] [3, 4] rfl rfl rfl (by decide) (fun r20 u H locs h hP hD hS => ?_)
          try dsimp only at h
          have hP : va_P G.1 vwCl [caI G a_defeater 8 g_defeater, caZ G a_is 256 g_is, ceX11 h0 a_w a_kept a_laid s_hasImage a_refusals a_row s_rows a_letters s_lettered a_hit a_lead a_defeat a_defeater s_ins s_outs a_order s_ordered a_is a_was s_reading s_isWell a_depths a_ways s_z, caI G a_w 43 g_w, caI G a_defeat 8 g_defeat] H := hP
          have hD : va_D A [caI G a_defeater 8 g_defeater, caZ G a_is 256 g_is, ceX11 h0 a_w a_kept a_laid s_hasImage a_refusals a_row s_rows a_letters s_lettered a_hit a_lead a_defeat a_defeater s_ins s_outs a_order s_ordered a_is a_was s_reading s_isWell a_depths a_ways s_z, caI G a_w 43 g_w, caI G a_defeat 8 g_defeat] := hD
          refine lv_goto (tgt := 57) hx hb dX11_findsPlain_23 (by decide) ?_
          have hin := h.1
          replace h := h.2
          refine va_zast hx hb hK.1 hP hD hS 1 2 rfl rfl hin dX11_findsPlain_57 (fun H locs hP hD hS => ?_)
          have hP : va_P G.1 vwCl [caI G a_defeater 8 g_defeater, caZ G a_is 256 (upd g_is v2.toNatClampNeg (vp_nar .boolean r20)), ceX11 h0 a_w a_kept a_laid s_hasImage a_refusals a_row s_rows a_letters s_lettered a_hit a_lead a_defeat a_defeater s_ins s_outs a_order s_ordered a_is a_was s_reading s_isWell a_depths a_ways s_z, caI G a_w 43 g_w, caI G a_defeat 8 g_defeat] H := hP
          have hD : va_D A [caI G a_defeater 8 g_defeater, caZ G a_is 256 (upd g_is v2.toNatClampNeg (vp_nar .boolean r20)), ceX11 h0 a_w a_kept a_laid s_hasImage a_refusals a_row s_rows a_letters s_lettered a_hit a_lead a_defeat a_defeater s_ins s_outs a_order s_ordered a_is a_was s_reading s_isWell a_depths a_ways s_z, caI G a_w 43 g_w, caI G a_defeat 8 g_defeat] := hD
          refine lv_iinc (v := v2 + nI 1) (lv' := [(2, .int (v2 + nI 1)), (0, .ref h0), (1, .int x1)]) hx hb dX11_findsPlain_58 hl (k := 2) rfl (congrArg (fun q => v2 + q) kc_1) (by decide) rfl (fun ls hl => ?_)
          refine lv_goto (tgt := 2) hx hb dX11_findsPlain_61 (by decide) ?_
          exact ih (v2 + nI 1) (upd g_is v2.toNatClampNeg (vp_nar .boolean r20)) h _ _ _ (hP.sub [2, 3, 4, 0, 1] rfl) (hD.sub [2, 3, 4, 0, 1] (by decide) rfl) hS (lv_sub hl [1, 2, 0] rfl)
  unfold wp_X11_findsPlain at h
  refine lv_iconst (v := nI 0) hx hb dX11_findsPlain_0 kc_0 ?_
  refine lv_istore_n (lv' := [(2, .int (nI 0)), (0, .ref h0), (1, .int x1)]) hx hb dX11_findsPlain_1 rfl hl (by decide) rfl (fun ls hl => ?_)
  obtain ⟨n2, h⟩ := h
  exact w2  n2 (nI 0) g_is h _ _ _ hP hD hS (lv_sub hl [1, 2, 0] rfl)
set_option maxHeartbeats 4000000 in
set_option maxRecDepth 100000 in
theorem c_X11_rangeOf (l : Launch) (G : hcG) (h0 : Nat) (a_w : Nat) (a_kept : Nat) (a_laid : Nat) (a_refusals : Nat) (a_row : Nat) (a_letters : Nat) (a_hit : Nat) (a_lead : Nat) (a_defeat : Nat) (a_defeater : Nat) (a_order : Nat) (a_is : Nat) (a_was : Nat) (a_depths : Nat) (a_ways : Nat) (sz : Nat) (s_hasImage : Int32) (s_rows : Int32) (s_lettered : Int32) (s_ins : Int32) (s_outs : Int32) (s_ordered : Int32) (s_reading : Int32) (s_isWell : Int32) (s_z : Int32) (g_w : Nat → Int32) (g_defeat : Nat → Int32) (x1 : Int32) (x2 : Int32) (post : Int32 → Prop) (h : wp_X11_rangeOf post g_w g_defeat x1 x2) : Met l yX11_rangeOf wsX11_rangeOf ({ frames := 2, cells := 0, slots := 0, locals := 44 }) (hcPc G [.ref h0, .int x1, .int x2] [ceX11 h0 a_w a_kept a_laid s_hasImage a_refusals a_row s_rows a_letters s_lettered a_hit a_lead a_defeat a_defeater s_ins s_outs a_order s_ordered a_is a_was s_reading s_isWell a_depths a_ways s_z, caI G a_w 43 g_w, caI G a_defeat 8 g_defeat] sz) (va_Qi (fun (r : Int32) (u : Unit) => post r) (hcB G (va_A [ceX11 h0 a_w a_kept a_laid s_hasImage a_refusals a_row s_rows a_letters s_lettered a_hit a_lead a_defeat a_defeater s_ins s_outs a_order s_ordered a_is a_was s_reading s_isWell a_depths a_ways s_z, caI G a_w 43 g_w, caI G a_defeat 8 g_defeat] sz) (fun u : Unit => [ceX11 h0 a_w a_kept a_laid s_hasImage a_refusals a_row s_rows a_letters s_lettered a_hit a_lead a_defeat a_defeater s_ins s_outs a_order s_ordered a_is a_was s_reading s_isWell a_depths a_ways s_z, caI G a_w 43 g_w, caI G a_defeat 8 g_defeat])) (va_A [ceX11 h0 a_w a_kept a_laid s_hasImage a_refusals a_row s_rows a_letters s_lettered a_hit a_lead a_defeat a_defeater s_ins s_outs a_order s_ordered a_is a_was s_reading s_isWell a_depths a_ways s_z, caI G a_w 43 g_w, caI G a_defeat 8 g_defeat] sz)) 0 0 (va_A [ceX11 h0 a_w a_kept a_laid s_hasImage a_refusals a_row s_rows a_letters s_lettered a_hit a_lead a_defeat a_defeater s_ins s_outs a_order s_ordered a_is a_was s_reading s_isWell a_depths a_ways s_z, caI G a_w 43 g_w, caI G a_defeat 8 g_defeat] sz) := by
  refine Met.ofW (cc := cX11_rangeOf) (maxL := 3) (ret := (some .int)) (by decide) rfl ?_
  intro p e s m args below meth c s₁ B hml hv
  obtain ⟨rfl, hsz, hP, hK, hD0⟩ := hv
  have hx := B.exec
  have hb := B.bytes
  have hr := B.returns
  have hts := atoms_spec (ws := wsX11_rangeOf) B.pre
  have hown : s.vm.findClass RX11 = some m.cls := findClass_of_methodNamed B.named
  have hlocks := B.notSynchronized
  subst hsz
  have hD := hD0.self (sz := s.heap.size)
  generalize hAe : va_A [ceX11 h0 a_w a_kept a_laid s_hasImage a_refusals a_row s_rows a_letters s_lettered a_hit a_lead a_defeat a_defeater s_ins s_outs a_order s_ordered a_is a_was s_reading s_isWell a_depths a_ways s_z, caI G a_w 43 g_w, caI G a_defeat 8 g_defeat] s.heap.size = A at hD ⊢
  have hA : ∀ q : Nat, s.heap.size ≤ q → A q := fun q h => by rw [← hAe]; exact Or.inr h
  have hS : va_S A s.heap s.heap [] := va_S.rf
  have hP : va_P G.1 vwCl [ceX11 h0 a_w a_kept a_laid s_hasImage a_refusals a_row s_rows a_letters s_lettered a_hit a_lead a_defeat a_defeater s_ins s_outs a_order s_ordered a_is a_was s_reading s_isWell a_depths a_ways s_z, caI G a_w 43 g_w, caI G a_defeat 8 g_defeat] s.heap := hP
  have hl := lv_entry ([.ref h0, .int x1, .int x2]) (n := 3) (Nat.le_of_ble_eq_true rfl)
  rw [lg_entry_eq]
  generalize (lg_sl ([.ref h0, .int x1, .int x2]) ++ List.replicate (3 - (lg_sl ([.ref h0, .int x1, .int x2])).length) Slot.unset).toArray = ls at hl ⊢
  have hl : lv_has ls 3 [(0, .ref h0), (1, .int x1), (2, .int x2)] := hl
  unfold wp_X11_rangeOf at h
  refine lv_iload_n hx hb dX11_rangeOf_0 rfl (lv_at hl 2 rfl) ?_
  refine lv_if_eq (tgt := 14) hx hb dX11_rangeOf_1 (by decide) (fun c => ?_) (fun c => ?_)
  · replace h := h.1 c
    refine lv_iload_n hx hb dX11_rangeOf_14 rfl (lv_at hl 1 rfl) ?_
    exact W.iret (v := x1) hx hb hr (fun t ht hW => ⟨⟨_, (), rfl, h, ⟨by rw [ht]; exact hP, hD⟩⟩, hS.F ht⟩) hS.2.2 dX11_rangeOf_15
  · replace h := h.2 c
    refine lv_iload_n hx hb dX11_rangeOf_4 rfl (lv_at hl 1 rfl) ?_
    refine lv_aload_n hx hb dX11_rangeOf_5 rfl (lv_at hl 0 rfl) ?_
    refine lv_iload_n hx hb dX11_rangeOf_6 rfl (lv_at hl 1 rfl) ?_
    refine hc_ki (wr := []) (va_runV (As := [.int x1]) (rest := [.int x1]) ⟨hx, hb, hml, hown, hts⟩ (c_X11_defeatedBy l G h0 a_w a_kept a_laid a_refusals a_row a_letters a_hit a_lead a_defeat a_defeater a_order a_is a_was a_depths a_ways s.heap.size s_hasImage s_rows s_lettered s_ins s_outs s_ordered s_reading s_isWell s_z g_w g_defeat x1 _ h) (cwV 1 hts gX11_rangeOf_X11_defeatedBy rfl rfl rfl (by decide +kernel) ⟨Nat.le_of_ble_eq_true rfl, Nat.le_of_ble_eq_true rfl⟩) (hc_pV hK hP hD [0, 1, 2] rfl rfl (ci := 9) 0 rfl rfl) rfl rfl hl.1 rfl (lv_room (Nat.le_of_ble_eq_true rfl)) dX11_rangeOf_7 ⟨Nat.le_refl _, Nat.le_refl _⟩) hP hD hS hA [0, 1, 2] [] rfl rfl rfl (by decide) (fun r7 u H locs h hP hD hS => ?_)
    try dsimp only at h
    have hP : va_P G.1 vwCl [ceX11 h0 a_w a_kept a_laid s_hasImage a_refusals a_row s_rows a_letters s_lettered a_hit a_lead a_defeat a_defeater s_ins s_outs a_order s_ordered a_is a_was s_reading s_isWell a_depths a_ways s_z, caI G a_w 43 g_w, caI G a_defeat 8 g_defeat] H := hP
    have hD : va_D A [ceX11 h0 a_w a_kept a_laid s_hasImage a_refusals a_row s_rows a_letters s_lettered a_hit a_lead a_defeat a_defeater s_ins s_outs a_order s_ordered a_is a_was s_reading s_isWell a_depths a_ways s_z, caI G a_w 43 g_w, caI G a_defeat 8 g_defeat] := hD
    refine lv_ior hx hb dX11_rangeOf_10 ?_
    refine lv_goto (tgt := 15) hx hb dX11_rangeOf_11 (by decide) ?_
    exact W.iret (v := x1 ||| r7) hx hb hr (fun t ht hW => ⟨⟨_, (), rfl, h, ⟨by rw [ht]; exact hP, hD⟩⟩, hS.F ht⟩) hS.2.2 dX11_rangeOf_15
set_option maxHeartbeats 4000000 in
set_option maxRecDepth 100000 in
theorem c_X11_isBehind (l : Launch) (G : hcG) (h0 : Nat) (a_w : Nat) (a_kept : Nat) (a_laid : Nat) (a_refusals : Nat) (a_row : Nat) (a_letters : Nat) (a_hit : Nat) (a_lead : Nat) (a_defeat : Nat) (a_defeater : Nat) (a_order : Nat) (a_is : Nat) (a_was : Nat) (a_depths : Nat) (a_ways : Nat) (sz : Nat) (s_hasImage : Int32) (s_rows : Int32) (s_lettered : Int32) (s_ins : Int32) (s_outs : Int32) (s_ordered : Int32) (s_reading : Int32) (s_isWell : Int32) (s_z : Int32) (g_w : Nat → Int32) (g_defeat : Nat → Int32) (g_was : Nat → Int32) (x1 : Int32) (x2 : Int32) (post : Int32 → Prop) (h : wp_X11_isBehind post g_w g_defeat g_was x1 x2) : Met l yX11_isBehind wsX11_isBehind ({ frames := 3, cells := 0, slots := 0, locals := 66 }) (hcPc G [.ref h0, .int x1, .int x2] [ceX11 h0 a_w a_kept a_laid s_hasImage a_refusals a_row s_rows a_letters s_lettered a_hit a_lead a_defeat a_defeater s_ins s_outs a_order s_ordered a_is a_was s_reading s_isWell a_depths a_ways s_z, caI G a_w 43 g_w, caI G a_defeat 8 g_defeat, caZ G a_was 256 g_was] sz) (va_Qi (fun (r : Int32) (u : Unit) => post r) (hcB G (va_A [ceX11 h0 a_w a_kept a_laid s_hasImage a_refusals a_row s_rows a_letters s_lettered a_hit a_lead a_defeat a_defeater s_ins s_outs a_order s_ordered a_is a_was s_reading s_isWell a_depths a_ways s_z, caI G a_w 43 g_w, caI G a_defeat 8 g_defeat, caZ G a_was 256 g_was] sz) (fun u : Unit => [ceX11 h0 a_w a_kept a_laid s_hasImage a_refusals a_row s_rows a_letters s_lettered a_hit a_lead a_defeat a_defeater s_ins s_outs a_order s_ordered a_is a_was s_reading s_isWell a_depths a_ways s_z, caI G a_w 43 g_w, caI G a_defeat 8 g_defeat, caZ G a_was 256 g_was])) (va_A [ceX11 h0 a_w a_kept a_laid s_hasImage a_refusals a_row s_rows a_letters s_lettered a_hit a_lead a_defeat a_defeater s_ins s_outs a_order s_ordered a_is a_was s_reading s_isWell a_depths a_ways s_z, caI G a_w 43 g_w, caI G a_defeat 8 g_defeat, caZ G a_was 256 g_was] sz)) 0 0 (va_A [ceX11 h0 a_w a_kept a_laid s_hasImage a_refusals a_row s_rows a_letters s_lettered a_hit a_lead a_defeat a_defeater s_ins s_outs a_order s_ordered a_is a_was s_reading s_isWell a_depths a_ways s_z, caI G a_w 43 g_w, caI G a_defeat 8 g_defeat, caZ G a_was 256 g_was] sz) := by
  refine Met.ofW (cc := cX11_isBehind) (maxL := 5) (ret := (some .boolean)) (by decide) rfl ?_
  intro p e s m args below meth c s₁ B hml hv
  obtain ⟨rfl, hsz, hP, hK, hD0⟩ := hv
  have hx := B.exec
  have hb := B.bytes
  have hr := B.returns
  have hts := atoms_spec (ws := wsX11_isBehind) B.pre
  have hown : s.vm.findClass RX11 = some m.cls := findClass_of_methodNamed B.named
  have hlocks := B.notSynchronized
  subst hsz
  have hD := hD0.self (sz := s.heap.size)
  generalize hAe : va_A [ceX11 h0 a_w a_kept a_laid s_hasImage a_refusals a_row s_rows a_letters s_lettered a_hit a_lead a_defeat a_defeater s_ins s_outs a_order s_ordered a_is a_was s_reading s_isWell a_depths a_ways s_z, caI G a_w 43 g_w, caI G a_defeat 8 g_defeat, caZ G a_was 256 g_was] s.heap.size = A at hD ⊢
  have hA : ∀ q : Nat, s.heap.size ≤ q → A q := fun q h => by rw [← hAe]; exact Or.inr h
  have hS : va_S A s.heap s.heap [] := va_S.rf
  have hP : va_P G.1 vwCl [ceX11 h0 a_w a_kept a_laid s_hasImage a_refusals a_row s_rows a_letters s_lettered a_hit a_lead a_defeat a_defeater s_ins s_outs a_order s_ordered a_is a_was s_reading s_isWell a_depths a_ways s_z, caI G a_w 43 g_w, caI G a_defeat 8 g_defeat, caZ G a_was 256 g_was] s.heap := hP
  have hl := lv_entry ([.ref h0, .int x1, .int x2]) (n := 5) (Nat.le_of_ble_eq_true rfl)
  rw [lg_entry_eq]
  generalize (lg_sl ([.ref h0, .int x1, .int x2]) ++ List.replicate (5 - (lg_sl ([.ref h0, .int x1, .int x2])).length) Slot.unset).toArray = ls at hl ⊢
  have hl : lv_has ls 5 [(0, .ref h0), (1, .int x1), (2, .int x2)] := hl
  have kf0 := hts (.fieldLink RX11 47 "HallOfClaimsModel" "was" "[Z") (List.mem_of_getElem? (i := 1) (by decide +kernel))
  have ki_X11 : ∀ w ∈ u_ws RX11 TX11 24, w ∈ wsX11_isBehind := by decide +kernel
  have w10 : ∀ (n : Nat) (v3 : Int32) (v4 : Int32) , wp_X11_isBehind_10 post g_w g_defeat g_was x1 x2 n v3 v4 → ∀ (H : Heap) (locs : List Loc) (ls : Array Slot), va_P G.1 vwCl [ceX11 h0 a_w a_kept a_laid s_hasImage a_refusals a_row s_rows a_letters s_lettered a_hit a_lead a_defeat a_defeater s_ins s_outs a_order s_ordered a_is a_was s_reading s_isWell a_depths a_ways s_z, caI G a_w 43 g_w, caI G a_defeat 8 g_defeat, caZ G a_was 256 g_was] H → va_D A [ceX11 h0 a_w a_kept a_laid s_hasImage a_refusals a_row s_rows a_letters s_lettered a_hit a_lead a_defeat a_defeater s_ins s_outs a_order s_ordered a_is a_was s_reading s_isWell a_depths a_ways s_z, caI G a_w 43 g_w, caI G a_defeat 8 g_defeat, caZ G a_was 256 g_was] → va_S A s.heap H locs → lv_has ls 5 [(0, .ref h0), (2, .int x2), (3, .int v3), (4, .int v4)] → W p l e (headSpec wsX11_isBehind ({ frames := 3, cells := 0, slots := 0, locals := 66 })).room s m ([.ref h0, .int x1, .int x2] : List Value).toArray below meth c H locs 0 0 (MQ below (va_Qi (fun (r : Int32) (u : Unit) => post r) (hcB G A (fun u : Unit => [ceX11 h0 a_w a_kept a_laid s_hasImage a_refusals a_row s_rows a_letters s_lettered a_hit a_lead a_defeat a_defeater s_ins s_outs a_order s_ordered a_is a_was s_reading s_isWell a_depths a_ways s_z, caI G a_w 43 g_w, caI G a_defeat 8 g_defeat, caZ G a_was 256 g_was])) A) ([.ref h0, .int x1, .int x2] : List Value).toArray s 0 0 A) (F0 m 10 ls []) := by
    intro n
    induction n with
    | zero => intro v3 v4 h; exact h.elim
    | succ n ih =>
      intro v3 v4 h H locs ls hP hD hS hl
      unfold wp_X11_isBehind_10 at h
      refine lv_iload hx hb dX11_isBehind_10 (lv_at hl 3 rfl) ?_
      refine lv_sipush (v := nI 256) hx hb dX11_isBehind_12 ks_256 ?_
      refine lv_icmp_ge (tgt := 61) hx hb dX11_isBehind_15 (by decide) (fun c => ?_) (fun c => ?_)
      · replace h := h.1 c
        refine lv_iconst (v := nI 0) hx hb dX11_isBehind_61 kc_0 ?_
        exact W.zret (v := nI 0) hx hb hr rfl (fun t ht hW => ⟨⟨_, (), rfl, h, ⟨by rw [ht]; exact hP, hD⟩⟩, hS.F ht⟩) hS.2.2 dX11_isBehind_62
      · replace h := h.2 c
        refine lv_aload_n hx hb dX11_isBehind_18 rfl (lv_at hl 0 rfl) ?_
        refine va_get (D := G.1) (ci := 9) (v := .ref a_was) (C := RX11) (T := TX11) (N := 24) hx hb hts ki_X11 hown hK.1 hP 0 rfl rfl 18 (by decide) kf0 (fun _ h9 => h9) rfl dX11_isBehind_19 ?_
        refine lv_iload hx hb dX11_isBehind_22 (lv_at hl 3 rfl) ?_
        have hin := h.1
        replace h := h.2
        refine va_zald hx hb hK.1 hP 3 2 rfl rfl hin dX11_isBehind_24 ?_
        refine lv_if_eq (tgt := 55) hx hb dX11_isBehind_25 (by decide) (fun c => ?_) (fun c => ?_)
        · replace h := h.1 c
          refine lv_iinc (v := v4 + nI 1) (lv' := [(4, .int (v4 + nI 1)), (0, .ref h0), (2, .int x2), (3, .int v3)]) hx hb dX11_isBehind_55 hl (k := 3) rfl (congrArg (fun q => v4 + q) kc_1) (by decide) rfl (fun ls hl => ?_)
          refine lv_goto (tgt := 10) hx hb dX11_isBehind_58 (by decide) ?_
          exact ih v3 (v4 + nI 1) h _ _ _ hP hD hS (lv_sub hl [1, 2, 3, 0] rfl)
        · replace h := h.2 c
          refine lv_iload_n hx hb dX11_isBehind_28 rfl (lv_at hl 2 rfl) ?_
          refine lv_aload_n hx hb dX11_isBehind_29 rfl (lv_at hl 0 rfl) ?_
          refine lv_iload hx hb dX11_isBehind_30 (lv_at hl 3 rfl) ?_
          refine lv_iload_n hx hb dX11_isBehind_32 rfl (lv_at hl 1 rfl) ?_
          refine hc_ki (wr := [caZ G a_was 256 g_was]) (va_runV (As := [.int v4, .int x2]) (rest := [.int v3]) ⟨hx, hb, hml, hown, hts⟩ (c_X11_rangeOf l G h0 a_w a_kept a_laid a_refusals a_row a_letters a_hit a_lead a_defeat a_defeater a_order a_is a_was a_depths a_ways H.size s_hasImage s_rows s_lettered s_ins s_outs s_ordered s_reading s_isWell s_z g_w g_defeat v4 x2 _ h) (cwV 2 hts gX11_isBehind_X11_rangeOf rfl rfl rfl (by decide +kernel) ⟨Nat.le_of_ble_eq_true rfl, Nat.le_of_ble_eq_true rfl⟩) (hc_pV hK hP hD [0, 1, 2] rfl rfl (ci := 9) 0 rfl rfl) rfl rfl hl.1 rfl (lv_room (Nat.le_of_ble_eq_true rfl)) dX11_isBehind_33 ⟨Nat.le_refl _, Nat.le_refl _⟩) hP hD hS hA [0, 1, 2] [3] rfl rfl rfl (by decide) (fun r33 u H locs h hP hD hS => ?_)
          try dsimp only at h
          have hP : va_P G.1 vwCl [caZ G a_was 256 g_was, ceX11 h0 a_w a_kept a_laid s_hasImage a_refusals a_row s_rows a_letters s_lettered a_hit a_lead a_defeat a_defeater s_ins s_outs a_order s_ordered a_is a_was s_reading s_isWell a_depths a_ways s_z, caI G a_w 43 g_w, caI G a_defeat 8 g_defeat] H := hP
          have hD : va_D A [caZ G a_was 256 g_was, ceX11 h0 a_w a_kept a_laid s_hasImage a_refusals a_row s_rows a_letters s_lettered a_hit a_lead a_defeat a_defeater s_ins s_outs a_order s_ordered a_is a_was s_reading s_isWell a_depths a_ways s_z, caI G a_w 43 g_w, caI G a_defeat 8 g_defeat] := hD
          refine lv_iconst (v := (-1 : Int32)) hx hb dX11_isBehind_36 kc_m1 ?_
          refine lv_ixor hx hb dX11_isBehind_37 ?_
          refine lv_iand hx hb dX11_isBehind_38 ?_
          refine lv_if_ne (tgt := 55) hx hb dX11_isBehind_39 (by decide) (fun c => ?_) (fun c => ?_)
          · replace h := h.1 c
            refine lv_iinc (v := v4 + nI 1) (lv' := [(4, .int (v4 + nI 1)), (0, .ref h0), (2, .int x2), (3, .int v3)]) hx hb dX11_isBehind_55 hl (k := 3) rfl (congrArg (fun q => v4 + q) kc_1) (by decide) rfl (fun ls hl => ?_)
            refine lv_goto (tgt := 10) hx hb dX11_isBehind_58 (by decide) ?_
            exact ih v3 (v4 + nI 1) h _ _ _ (hP.sub [1, 2, 3, 0] rfl) (hD.sub [1, 2, 3, 0] (by decide) rfl) hS (lv_sub hl [1, 2, 3, 0] rfl)
          · replace h := h.2 c
            refine lv_iload_n hx hb dX11_isBehind_42 rfl (lv_at hl 2 rfl) ?_
            refine lv_aload_n hx hb dX11_isBehind_43 rfl (lv_at hl 0 rfl) ?_
            refine lv_iload hx hb dX11_isBehind_44 (lv_at hl 3 rfl) ?_
            refine lv_iload_n hx hb dX11_isBehind_46 rfl (lv_at hl 1 rfl) ?_
            refine hc_ki (wr := [caZ G a_was 256 g_was]) (va_runV (As := [.int v4, .int x2]) (rest := [.int v3]) ⟨hx, hb, hml, hown, hts⟩ (c_X11_rangeOf l G h0 a_w a_kept a_laid a_refusals a_row a_letters a_hit a_lead a_defeat a_defeater a_order a_is a_was a_depths a_ways H.size s_hasImage s_rows s_lettered s_ins s_outs s_ordered s_reading s_isWell s_z g_w g_defeat v4 x2 _ h) (cwV 2 hts gX11_isBehind_X11_rangeOf rfl rfl rfl (by decide +kernel) ⟨Nat.le_of_ble_eq_true rfl, Nat.le_of_ble_eq_true rfl⟩) (hc_pV hK hP hD [1, 2, 3] rfl rfl (ci := 9) 1 rfl rfl) rfl rfl hl.1 rfl (lv_room (Nat.le_of_ble_eq_true rfl)) dX11_isBehind_47 ⟨Nat.le_refl _, Nat.le_refl _⟩) hP hD hS hA [1, 2, 3] [0] rfl rfl rfl (by decide) (fun r47 u H locs h hP hD hS => ?_)
            try dsimp only at h
            have hP : va_P G.1 vwCl [caZ G a_was 256 g_was, ceX11 h0 a_w a_kept a_laid s_hasImage a_refusals a_row s_rows a_letters s_lettered a_hit a_lead a_defeat a_defeater s_ins s_outs a_order s_ordered a_is a_was s_reading s_isWell a_depths a_ways s_z, caI G a_w 43 g_w, caI G a_defeat 8 g_defeat] H := hP
            have hD : va_D A [caZ G a_was 256 g_was, ceX11 h0 a_w a_kept a_laid s_hasImage a_refusals a_row s_rows a_letters s_lettered a_hit a_lead a_defeat a_defeater s_ins s_outs a_order s_ordered a_is a_was s_reading s_isWell a_depths a_ways s_z, caI G a_w 43 g_w, caI G a_defeat 8 g_defeat] := hD
            refine lv_icmp_eq (tgt := 55) hx hb dX11_isBehind_50 (by decide) (fun c => ?_) (fun c => ?_)
            · replace h := h.1 c
              refine lv_iinc (v := v4 + nI 1) (lv' := [(4, .int (v4 + nI 1)), (0, .ref h0), (2, .int x2), (3, .int v3)]) hx hb dX11_isBehind_55 hl (k := 3) rfl (congrArg (fun q => v4 + q) kc_1) (by decide) rfl (fun ls hl => ?_)
              refine lv_goto (tgt := 10) hx hb dX11_isBehind_58 (by decide) ?_
              exact ih v3 (v4 + nI 1) h _ _ _ (hP.sub [1, 2, 3, 0] rfl) (hD.sub [1, 2, 3, 0] (by decide) rfl) hS (lv_sub hl [1, 2, 3, 0] rfl)
            · replace h := h.2 c
              refine lv_iconst (v := nI 1) hx hb dX11_isBehind_53 kc_1 ?_
              exact W.zret (v := nI 1) hx hb hr rfl (fun t ht hW => ⟨⟨_, (), rfl, h, ⟨by rw [ht]; exact (hP.sub [1, 2, 3, 0] rfl), (hD.sub [1, 2, 3, 0] (by decide) rfl)⟩⟩, hS.F ht⟩) hS.2.2 dX11_isBehind_54
  unfold wp_X11_isBehind at h
  refine lv_aload_n hx hb dX11_isBehind_0 rfl (lv_at hl 0 rfl) ?_
  refine lv_iload_n hx hb dX11_isBehind_1 rfl (lv_at hl 1 rfl) ?_
  refine lv_iload_n hx hb dX11_isBehind_2 rfl (lv_at hl 2 rfl) ?_
  refine hc_ki (wr := [caZ G a_was 256 g_was]) (va_runV (As := [.int x1, .int x2]) (rest := []) ⟨hx, hb, hml, hown, hts⟩ (c_X11_rangeOf l G h0 a_w a_kept a_laid a_refusals a_row a_letters a_hit a_lead a_defeat a_defeater a_order a_is a_was a_depths a_ways s.heap.size s_hasImage s_rows s_lettered s_ins s_outs s_ordered s_reading s_isWell s_z g_w g_defeat x1 x2 _ h) (cwV 2 hts gX11_isBehind_X11_rangeOf rfl rfl rfl (by decide +kernel) ⟨Nat.le_of_ble_eq_true rfl, Nat.le_of_ble_eq_true rfl⟩) (hc_pV hK hP hD [0, 1, 2] rfl rfl (ci := 9) 0 rfl rfl) rfl rfl hl.1 rfl (lv_room (Nat.le_of_ble_eq_true rfl)) dX11_isBehind_3 ⟨Nat.le_refl _, Nat.le_refl _⟩) hP hD hS hA [0, 1, 2] [3] rfl rfl rfl (by decide) (fun r3 u H locs h hP hD hS => ?_)
  try dsimp only at h
  have hP : va_P G.1 vwCl [caZ G a_was 256 g_was, ceX11 h0 a_w a_kept a_laid s_hasImage a_refusals a_row s_rows a_letters s_lettered a_hit a_lead a_defeat a_defeater s_ins s_outs a_order s_ordered a_is a_was s_reading s_isWell a_depths a_ways s_z, caI G a_w 43 g_w, caI G a_defeat 8 g_defeat] H := hP
  have hD : va_D A [caZ G a_was 256 g_was, ceX11 h0 a_w a_kept a_laid s_hasImage a_refusals a_row s_rows a_letters s_lettered a_hit a_lead a_defeat a_defeater s_ins s_outs a_order s_ordered a_is a_was s_reading s_isWell a_depths a_ways s_z, caI G a_w 43 g_w, caI G a_defeat 8 g_defeat] := hD
  refine lv_istore_n (lv' := [(3, .int r3), (0, .ref h0), (1, .int x1), (2, .int x2)]) hx hb dX11_isBehind_6 rfl hl (by decide) rfl (fun ls hl => ?_)
  refine lv_iconst (v := nI 0) hx hb dX11_isBehind_7 kc_0 ?_
  refine lv_istore (lv' := [(4, .int (nI 0)), (3, .int r3), (0, .ref h0), (1, .int x1), (2, .int x2)]) hx hb dX11_isBehind_8 hl (by decide) rfl (fun ls hl => ?_)
  obtain ⟨n10, h⟩ := h
  exact w10  n10 r3 (nI 0) h _ _ _ (hP.sub [1, 2, 3, 0] rfl) (hD.sub [1, 2, 3, 0] (by decide) rfl) hS (lv_sub hl [2, 4, 1, 0] rfl)
set_option maxHeartbeats 4000000 in
set_option maxRecDepth 100000 in
theorem c_X11_finds (l : Launch) (G : hcG) (h0 : Nat) (a_w : Nat) (a_kept : Nat) (a_laid : Nat) (a_refusals : Nat) (a_row : Nat) (a_letters : Nat) (a_hit : Nat) (a_lead : Nat) (a_defeat : Nat) (a_defeater : Nat) (a_order : Nat) (a_is : Nat) (a_was : Nat) (a_depths : Nat) (a_ways : Nat) (sz : Nat) (s_hasImage : Int32) (s_rows : Int32) (s_lettered : Int32) (s_ins : Int32) (s_outs : Int32) (s_ordered : Int32) (s_reading : Int32) (s_isWell : Int32) (s_z : Int32) (g_w : Nat → Int32) (g_defeat : Nat → Int32) (g_defeater : Nat → Int32) (g_is : Nat → Int32) (g_was : Nat → Int32) (x1 : Int32) (post : (Nat → Int32) → (Nat → Int32) → Prop) (h : wp_X11_finds post g_w g_defeat g_defeater g_is g_was x1) : Met l yX11_finds wsX11_finds ({ frames := 6, cells := 0, slots := 0, locals := 134 }) (hcPc G [.ref h0, .int x1] [ceX11 h0 a_w a_kept a_laid s_hasImage a_refusals a_row s_rows a_letters s_lettered a_hit a_lead a_defeat a_defeater s_ins s_outs a_order s_ordered a_is a_was s_reading s_isWell a_depths a_ways s_z, caI G a_w 43 g_w, caI G a_defeat 8 g_defeat, caI G a_defeater 8 g_defeater, caZ G a_is 256 g_is, caZ G a_was 256 g_was] sz) (va_Qv (fun u : (Nat → Int32) × (Nat → Int32) => post u.1 u.2) (hcB G (va_A [ceX11 h0 a_w a_kept a_laid s_hasImage a_refusals a_row s_rows a_letters s_lettered a_hit a_lead a_defeat a_defeater s_ins s_outs a_order s_ordered a_is a_was s_reading s_isWell a_depths a_ways s_z, caI G a_w 43 g_w, caI G a_defeat 8 g_defeat, caI G a_defeater 8 g_defeater, caZ G a_is 256 g_is, caZ G a_was 256 g_was] sz) (fun u : (Nat → Int32) × (Nat → Int32) => [ceX11 h0 a_w a_kept a_laid s_hasImage a_refusals a_row s_rows a_letters s_lettered a_hit a_lead a_defeat a_defeater s_ins s_outs a_order s_ordered a_is a_was s_reading s_isWell a_depths a_ways s_z, caI G a_w 43 g_w, caI G a_defeat 8 g_defeat, caI G a_defeater 8 g_defeater, caZ G a_is 256 u.1, caZ G a_was 256 u.2])) (va_A [ceX11 h0 a_w a_kept a_laid s_hasImage a_refusals a_row s_rows a_letters s_lettered a_hit a_lead a_defeat a_defeater s_ins s_outs a_order s_ordered a_is a_was s_reading s_isWell a_depths a_ways s_z, caI G a_w 43 g_w, caI G a_defeat 8 g_defeat, caI G a_defeater 8 g_defeater, caZ G a_is 256 g_is, caZ G a_was 256 g_was] sz)) 0 0 (va_A [ceX11 h0 a_w a_kept a_laid s_hasImage a_refusals a_row s_rows a_letters s_lettered a_hit a_lead a_defeat a_defeater s_ins s_outs a_order s_ordered a_is a_was s_reading s_isWell a_depths a_ways s_z, caI G a_w 43 g_w, caI G a_defeat 8 g_defeat, caI G a_defeater 8 g_defeater, caZ G a_is 256 g_is, caZ G a_was 256 g_was] sz) := by
  refine Met.ofW (cc := cX11_finds) (maxL := 3) (ret := none) (by decide) rfl ?_
  intro p e s m args below meth c s₁ B hml hv
  obtain ⟨rfl, hsz, hP, hK, hD0⟩ := hv
  have hx := B.exec
  have hb := B.bytes
  have hr := B.returns
  have hts := atoms_spec (ws := wsX11_finds) B.pre
  have hown : s.vm.findClass RX11 = some m.cls := findClass_of_methodNamed B.named
  have hlocks := B.notSynchronized
  subst hsz
  have hD := hD0.self (sz := s.heap.size)
  generalize hAe : va_A [ceX11 h0 a_w a_kept a_laid s_hasImage a_refusals a_row s_rows a_letters s_lettered a_hit a_lead a_defeat a_defeater s_ins s_outs a_order s_ordered a_is a_was s_reading s_isWell a_depths a_ways s_z, caI G a_w 43 g_w, caI G a_defeat 8 g_defeat, caI G a_defeater 8 g_defeater, caZ G a_is 256 g_is, caZ G a_was 256 g_was] s.heap.size = A at hD ⊢
  have hA : ∀ q : Nat, s.heap.size ≤ q → A q := fun q h => by rw [← hAe]; exact Or.inr h
  have hS : va_S A s.heap s.heap [] := va_S.rf
  have hP : va_P G.1 vwCl [ceX11 h0 a_w a_kept a_laid s_hasImage a_refusals a_row s_rows a_letters s_lettered a_hit a_lead a_defeat a_defeater s_ins s_outs a_order s_ordered a_is a_was s_reading s_isWell a_depths a_ways s_z, caI G a_w 43 g_w, caI G a_defeat 8 g_defeat, caI G a_defeater 8 g_defeater, caZ G a_is 256 g_is, caZ G a_was 256 g_was] s.heap := hP
  have hl := lv_entry ([.ref h0, .int x1]) (n := 3) (Nat.le_of_ble_eq_true rfl)
  rw [lg_entry_eq]
  generalize (lg_sl ([.ref h0, .int x1]) ++ List.replicate (3 - (lg_sl ([.ref h0, .int x1])).length) Slot.unset).toArray = ls at hl ⊢
  have hl : lv_has ls 3 [(0, .ref h0), (1, .int x1)] := hl
  have kf0 := hts (.fieldLink RX11 43 "HallOfClaimsModel" "is" "[Z") (List.mem_of_getElem? (i := 2) (by decide +kernel))
  have kf1 := hts (.fieldLink RX11 47 "HallOfClaimsModel" "was" "[Z") (List.mem_of_getElem? (i := 1) (by decide +kernel))
  have ki_X11 : ∀ w ∈ u_ws RX11 TX11 24, w ∈ wsX11_finds := by decide +kernel
  have w96 : ∀ (K63 : Int32 → (Nat → Int32) → (Nat → Int32) → Prop), (∀ (v2 : Int32) (g_is : Nat → Int32) (g_was : Nat → Int32) , K63 v2 g_is g_was → ∀ (H : Heap) (locs : List Loc) (ls : Array Slot), va_P G.1 vwCl [ceX11 h0 a_w a_kept a_laid s_hasImage a_refusals a_row s_rows a_letters s_lettered a_hit a_lead a_defeat a_defeater s_ins s_outs a_order s_ordered a_is a_was s_reading s_isWell a_depths a_ways s_z, caI G a_w 43 g_w, caI G a_defeat 8 g_defeat, caI G a_defeater 8 g_defeater, caZ G a_is 256 g_is, caZ G a_was 256 g_was] H → va_D A [ceX11 h0 a_w a_kept a_laid s_hasImage a_refusals a_row s_rows a_letters s_lettered a_hit a_lead a_defeat a_defeater s_ins s_outs a_order s_ordered a_is a_was s_reading s_isWell a_depths a_ways s_z, caI G a_w 43 g_w, caI G a_defeat 8 g_defeat, caI G a_defeater 8 g_defeater, caZ G a_is 256 g_is, caZ G a_was 256 g_was] → va_S A s.heap H locs → lv_has ls 3 [(0, .ref h0), (1, .int x1), (2, .int v2)] → W p l e (headSpec wsX11_finds ({ frames := 6, cells := 0, slots := 0, locals := 134 })).room s m ([.ref h0, .int x1] : List Value).toArray below meth c H locs 0 0 (MQ below (va_Qv (fun u : (Nat → Int32) × (Nat → Int32) => post u.1 u.2) (hcB G A (fun u : (Nat → Int32) × (Nat → Int32) => [ceX11 h0 a_w a_kept a_laid s_hasImage a_refusals a_row s_rows a_letters s_lettered a_hit a_lead a_defeat a_defeater s_ins s_outs a_order s_ordered a_is a_was s_reading s_isWell a_depths a_ways s_z, caI G a_w 43 g_w, caI G a_defeat 8 g_defeat, caI G a_defeater 8 g_defeater, caZ G a_is 256 u.1, caZ G a_was 256 u.2])) A) ([.ref h0, .int x1] : List Value).toArray s 0 0 A) (F0 m 63 ls [])) → ∀ (v2 : Int32) (g_is : Nat → Int32) (g_was : Nat → Int32) (t0 : Int32) (t1 : Int32) (t3 : Int32) , wp_X11_finds_96 post g_w g_defeat g_defeater x1 K63 v2 g_is g_was t0 t1 t3 → ∀ (H : Heap) (locs : List Loc) (ls : Array Slot), va_P G.1 vwCl [ceX11 h0 a_w a_kept a_laid s_hasImage a_refusals a_row s_rows a_letters s_lettered a_hit a_lead a_defeat a_defeater s_ins s_outs a_order s_ordered a_is a_was s_reading s_isWell a_depths a_ways s_z, caI G a_w 43 g_w, caI G a_defeat 8 g_defeat, caI G a_defeater 8 g_defeater, caZ G a_is 256 g_is, caZ G a_was 256 g_was] H → va_D A [ceX11 h0 a_w a_kept a_laid s_hasImage a_refusals a_row s_rows a_letters s_lettered a_hit a_lead a_defeat a_defeater s_ins s_outs a_order s_ordered a_is a_was s_reading s_isWell a_depths a_ways s_z, caI G a_w 43 g_w, caI G a_defeat 8 g_defeat, caI G a_defeater 8 g_defeater, caZ G a_is 256 g_is, caZ G a_was 256 g_was] → va_S A s.heap H locs → lv_has ls 3 [(0, .ref h0), (1, .int x1), (2, .int v2)] → W p l e (headSpec wsX11_finds ({ frames := 6, cells := 0, slots := 0, locals := 134 })).room s m ([.ref h0, .int x1] : List Value).toArray below meth c H locs 0 0 (MQ below (va_Qv (fun u : (Nat → Int32) × (Nat → Int32) => post u.1 u.2) (hcB G A (fun u : (Nat → Int32) × (Nat → Int32) => [ceX11 h0 a_w a_kept a_laid s_hasImage a_refusals a_row s_rows a_letters s_lettered a_hit a_lead a_defeat a_defeater s_ins s_outs a_order s_ordered a_is a_was s_reading s_isWell a_depths a_ways s_z, caI G a_w 43 g_w, caI G a_defeat 8 g_defeat, caI G a_defeater 8 g_defeater, caZ G a_is 256 u.1, caZ G a_was 256 u.2])) A) ([.ref h0, .int x1] : List Value).toArray s 0 0 A) (F0 m 96 ls [.int t0, .int t1, .ref h0, .int t3, .ref a_is]) := by
    intro K63 hK63 v2 g_is g_was t0 t1 t3 h H locs ls hP hD hS hl
    unfold wp_X11_finds_96 at h
    refine hc_ki (wr := [caI G a_defeater 8 g_defeater, caZ G a_is 256 g_is]) (va_runV (As := [.int t1, .int t0]) (rest := [.int t3, .ref a_is]) ⟨hx, hb, hml, hown, hts⟩ (c_X11_isBehind l G h0 a_w a_kept a_laid a_refusals a_row a_letters a_hit a_lead a_defeat a_defeater a_order a_is a_was a_depths a_ways H.size s_hasImage s_rows s_lettered s_ins s_outs s_ordered s_reading s_isWell s_z g_w g_defeat g_was t1 t0 _ h) (cwV 2 hts gX11_finds_X11_isBehind rfl rfl rfl (by decide +kernel) ⟨Nat.le_of_ble_eq_true rfl, Nat.le_of_ble_eq_true rfl⟩) (hc_pV hK hP hD [0, 1, 2, 5] rfl rfl (ci := 9) 0 rfl rfl) rfl rfl hl.1 rfl (lv_room (Nat.le_of_ble_eq_true rfl)) dX11_finds_96 ⟨Nat.le_refl _, Nat.le_refl _⟩) hP hD hS hA [0, 1, 2, 5] [3, 4] rfl rfl rfl (by decide) (fun r96 u H locs h hP hD hS => ?_)
    try dsimp only at h
    have hP : va_P G.1 vwCl [caI G a_defeater 8 g_defeater, caZ G a_is 256 g_is, ceX11 h0 a_w a_kept a_laid s_hasImage a_refusals a_row s_rows a_letters s_lettered a_hit a_lead a_defeat a_defeater s_ins s_outs a_order s_ordered a_is a_was s_reading s_isWell a_depths a_ways s_z, caI G a_w 43 g_w, caI G a_defeat 8 g_defeat, caZ G a_was 256 g_was] H := hP
    have hD : va_D A [caI G a_defeater 8 g_defeater, caZ G a_is 256 g_is, ceX11 h0 a_w a_kept a_laid s_hasImage a_refusals a_row s_rows a_letters s_lettered a_hit a_lead a_defeat a_defeater s_ins s_outs a_order s_ordered a_is a_was s_reading s_isWell a_depths a_ways s_z, caI G a_w 43 g_w, caI G a_defeat 8 g_defeat, caZ G a_was 256 g_was] := hD
    refine lv_if_ne (tgt := 106) hx hb dX11_finds_99 (by decide) (fun c => ?_) (fun c => ?_)
    · replace h := h.1 c
      refine lv_iconst (v := nI 0) hx hb dX11_finds_106 kc_0 ?_
      have hin := h.1
      replace h := h.2
      refine va_zast hx hb hK.1 hP hD hS 1 2 rfl rfl hin dX11_finds_107 (fun H locs hP hD hS => ?_)
      have hP : va_P G.1 vwCl [caI G a_defeater 8 g_defeater, caZ G a_is 256 (upd g_is t3.toNatClampNeg (vp_nar .boolean (nI 0))), ceX11 h0 a_w a_kept a_laid s_hasImage a_refusals a_row s_rows a_letters s_lettered a_hit a_lead a_defeat a_defeater s_ins s_outs a_order s_ordered a_is a_was s_reading s_isWell a_depths a_ways s_z, caI G a_w 43 g_w, caI G a_defeat 8 g_defeat, caZ G a_was 256 g_was] H := hP
      have hD : va_D A [caI G a_defeater 8 g_defeater, caZ G a_is 256 (upd g_is t3.toNatClampNeg (vp_nar .boolean (nI 0))), ceX11 h0 a_w a_kept a_laid s_hasImage a_refusals a_row s_rows a_letters s_lettered a_hit a_lead a_defeat a_defeater s_ins s_outs a_order s_ordered a_is a_was s_reading s_isWell a_depths a_ways s_z, caI G a_w 43 g_w, caI G a_defeat 8 g_defeat, caZ G a_was 256 g_was] := hD
      refine lv_iinc (v := v2 + nI 1) (lv' := [(2, .int (v2 + nI 1)), (0, .ref h0), (1, .int x1)]) hx hb dX11_finds_108 hl (k := 2) rfl (congrArg (fun q => v2 + q) kc_1) (by decide) rfl (fun ls hl => ?_)
      refine lv_goto (tgt := 63) hx hb dX11_finds_111 (by decide) ?_
      exact hK63 (v2 + nI 1) (upd g_is t3.toNatClampNeg (vp_nar .boolean (nI 0))) g_was h _ _ _ (hP.sub [2, 3, 4, 0, 1, 5] rfl) (hD.sub [2, 3, 4, 0, 1, 5] (by decide) rfl) hS (lv_sub hl [1, 2, 0] rfl)
    · replace h := h.2 c
      refine lv_iconst (v := nI 1) hx hb dX11_finds_102 kc_1 ?_
      refine lv_goto (tgt := 107) hx hb dX11_finds_103 (by decide) ?_
      have hin := h.1
      replace h := h.2
      refine va_zast hx hb hK.1 hP hD hS 1 2 rfl rfl hin dX11_finds_107 (fun H locs hP hD hS => ?_)
      have hP : va_P G.1 vwCl [caI G a_defeater 8 g_defeater, caZ G a_is 256 (upd g_is t3.toNatClampNeg (vp_nar .boolean (nI 1))), ceX11 h0 a_w a_kept a_laid s_hasImage a_refusals a_row s_rows a_letters s_lettered a_hit a_lead a_defeat a_defeater s_ins s_outs a_order s_ordered a_is a_was s_reading s_isWell a_depths a_ways s_z, caI G a_w 43 g_w, caI G a_defeat 8 g_defeat, caZ G a_was 256 g_was] H := hP
      have hD : va_D A [caI G a_defeater 8 g_defeater, caZ G a_is 256 (upd g_is t3.toNatClampNeg (vp_nar .boolean (nI 1))), ceX11 h0 a_w a_kept a_laid s_hasImage a_refusals a_row s_rows a_letters s_lettered a_hit a_lead a_defeat a_defeater s_ins s_outs a_order s_ordered a_is a_was s_reading s_isWell a_depths a_ways s_z, caI G a_w 43 g_w, caI G a_defeat 8 g_defeat, caZ G a_was 256 g_was] := hD
      refine lv_iinc (v := v2 + nI 1) (lv' := [(2, .int (v2 + nI 1)), (0, .ref h0), (1, .int x1)]) hx hb dX11_finds_108 hl (k := 2) rfl (congrArg (fun q => v2 + q) kc_1) (by decide) rfl (fun ls hl => ?_)
      refine lv_goto (tgt := 63) hx hb dX11_finds_111 (by decide) ?_
      exact hK63 (v2 + nI 1) (upd g_is t3.toNatClampNeg (vp_nar .boolean (nI 1))) g_was h _ _ _ (hP.sub [2, 3, 4, 0, 1, 5] rfl) (hD.sub [2, 3, 4, 0, 1, 5] (by decide) rfl) hS (lv_sub hl [1, 2, 0] rfl)
  have w63 : ∀ (n : Nat) (v2 : Int32) (g_is : Nat → Int32) (g_was : Nat → Int32) , wp_X11_finds_63 post g_w g_defeat g_defeater x1 n v2 g_is g_was → ∀ (H : Heap) (locs : List Loc) (ls : Array Slot), va_P G.1 vwCl [ceX11 h0 a_w a_kept a_laid s_hasImage a_refusals a_row s_rows a_letters s_lettered a_hit a_lead a_defeat a_defeater s_ins s_outs a_order s_ordered a_is a_was s_reading s_isWell a_depths a_ways s_z, caI G a_w 43 g_w, caI G a_defeat 8 g_defeat, caI G a_defeater 8 g_defeater, caZ G a_is 256 g_is, caZ G a_was 256 g_was] H → va_D A [ceX11 h0 a_w a_kept a_laid s_hasImage a_refusals a_row s_rows a_letters s_lettered a_hit a_lead a_defeat a_defeater s_ins s_outs a_order s_ordered a_is a_was s_reading s_isWell a_depths a_ways s_z, caI G a_w 43 g_w, caI G a_defeat 8 g_defeat, caI G a_defeater 8 g_defeater, caZ G a_is 256 g_is, caZ G a_was 256 g_was] → va_S A s.heap H locs → lv_has ls 3 [(0, .ref h0), (1, .int x1), (2, .int v2)] → W p l e (headSpec wsX11_finds ({ frames := 6, cells := 0, slots := 0, locals := 134 })).room s m ([.ref h0, .int x1] : List Value).toArray below meth c H locs 0 0 (MQ below (va_Qv (fun u : (Nat → Int32) × (Nat → Int32) => post u.1 u.2) (hcB G A (fun u : (Nat → Int32) × (Nat → Int32) => [ceX11 h0 a_w a_kept a_laid s_hasImage a_refusals a_row s_rows a_letters s_lettered a_hit a_lead a_defeat a_defeater s_ins s_outs a_order s_ordered a_is a_was s_reading s_isWell a_depths a_ways s_z, caI G a_w 43 g_w, caI G a_defeat 8 g_defeat, caI G a_defeater 8 g_defeater, caZ G a_is 256 u.1, caZ G a_was 256 u.2])) A) ([.ref h0, .int x1] : List Value).toArray s 0 0 A) (F0 m 63 ls []) := by
    intro n
    induction n with
    | zero => intro v2 g_is g_was h; exact h.elim
    | succ n ih =>
      intro v2 g_is g_was h H locs ls hP hD hS hl
      unfold wp_X11_finds_63 at h
      refine lv_iload_n hx hb dX11_finds_63 rfl (lv_at hl 2 rfl) ?_
      refine lv_sipush (v := nI 256) hx hb dX11_finds_64 ks_256 ?_
      refine lv_icmp_ge (tgt := 114) hx hb dX11_finds_67 (by decide) (fun c => ?_) (fun c => ?_)
      · replace h := h.1 c
        exact W.vret hx hb hr (fun t ht hW => ⟨⟨⟨g_is, g_was⟩, rfl, h, ⟨by rw [ht]; exact hP, hD⟩⟩, hS.F ht⟩) hS.2.2 dX11_finds_114
      · replace h := h.2 c
        refine lv_aload_n hx hb dX11_finds_70 rfl (lv_at hl 0 rfl) ?_
        refine va_get (D := G.1) (ci := 9) (v := .ref a_is) (C := RX11) (T := TX11) (N := 24) hx hb hts ki_X11 hown hK.1 hP 0 rfl rfl 17 (by decide) kf0 (fun _ h9 => h9) rfl dX11_finds_71 ?_
        refine lv_iload_n hx hb dX11_finds_74 rfl (lv_at hl 2 rfl) ?_
        refine lv_aload_n hx hb dX11_finds_75 rfl (lv_at hl 0 rfl) ?_
        refine va_get (D := G.1) (ci := 9) (v := .ref a_was) (C := RX11) (T := TX11) (N := 24) hx hb hts ki_X11 hown hK.1 hP 0 rfl rfl 18 (by decide) kf1 (fun _ h9 => h9) rfl dX11_finds_76 ?_
        refine lv_iload_n hx hb dX11_finds_79 rfl (lv_at hl 2 rfl) ?_
        have hin := h.1
        replace h := h.2
        refine va_zald hx hb hK.1 hP 5 2 rfl rfl hin dX11_finds_80 ?_
        refine lv_if_eq (tgt := 106) hx hb dX11_finds_81 (by decide) (fun c => ?_) (fun c => ?_)
        · replace h := h.1 c
          refine lv_iconst (v := nI 0) hx hb dX11_finds_106 kc_0 ?_
          have hin := h.1
          replace h := h.2
          refine va_zast hx hb hK.1 hP hD hS 4 2 rfl rfl hin dX11_finds_107 (fun H locs hP hD hS => ?_)
          have hP : va_P G.1 vwCl [ceX11 h0 a_w a_kept a_laid s_hasImage a_refusals a_row s_rows a_letters s_lettered a_hit a_lead a_defeat a_defeater s_ins s_outs a_order s_ordered a_is a_was s_reading s_isWell a_depths a_ways s_z, caI G a_w 43 g_w, caI G a_defeat 8 g_defeat, caI G a_defeater 8 g_defeater, caZ G a_is 256 (upd g_is v2.toNatClampNeg (vp_nar .boolean (nI 0))), caZ G a_was 256 g_was] H := hP
          have hD : va_D A [ceX11 h0 a_w a_kept a_laid s_hasImage a_refusals a_row s_rows a_letters s_lettered a_hit a_lead a_defeat a_defeater s_ins s_outs a_order s_ordered a_is a_was s_reading s_isWell a_depths a_ways s_z, caI G a_w 43 g_w, caI G a_defeat 8 g_defeat, caI G a_defeater 8 g_defeater, caZ G a_is 256 (upd g_is v2.toNatClampNeg (vp_nar .boolean (nI 0))), caZ G a_was 256 g_was] := hD
          refine lv_iinc (v := v2 + nI 1) (lv' := [(2, .int (v2 + nI 1)), (0, .ref h0), (1, .int x1)]) hx hb dX11_finds_108 hl (k := 2) rfl (congrArg (fun q => v2 + q) kc_1) (by decide) rfl (fun ls hl => ?_)
          refine lv_goto (tgt := 63) hx hb dX11_finds_111 (by decide) ?_
          exact ih (v2 + nI 1) (upd g_is v2.toNatClampNeg (vp_nar .boolean (nI 0))) g_was h _ _ _ hP hD hS (lv_sub hl [1, 2, 0] rfl)
        · replace h := h.2 c
          refine lv_aload_n hx hb dX11_finds_84 rfl (lv_at hl 0 rfl) ?_
          refine lv_iload_n hx hb dX11_finds_85 rfl (lv_at hl 2 rfl) ?_
          refine lv_iload_n hx hb dX11_finds_86 rfl (lv_at hl 1 rfl) ?_
          refine lv_iconst (v := nI 5) hx hb dX11_finds_87 kc_5 ?_
          refine lv_icmp_ne (tgt := 95) hx hb dX11_finds_88 (by decide) (fun c => ?_) (fun c => ?_)
          · replace h := h.1 c
            refine lv_iconst (v := nI 0) hx hb dX11_finds_95 kc_0 ?_
            exact w96 ((wp_X11_finds_63 post g_w g_defeat g_defeater x1 n)) ih v2 g_is g_was (nI 0) v2 v2 h _ _ _ hP hD hS (lv_sub hl [0, 1, 2] rfl)
          · replace h := h.2 c
            refine lv_iconst (v := nI 1) hx hb dX11_finds_91 kc_1 ?_
            refine lv_goto (tgt := 96) hx hb dX11_finds_92 (by decide) ?_
            exact w96 ((wp_X11_finds_63 post g_w g_defeat g_defeater x1 n)) ih v2 g_is g_was (nI 1) v2 v2 h _ _ _ hP hD hS (lv_sub hl [0, 1, 2] rfl)
  have w36 : ∀ (n : Nat) (v2 : Int32) (g_is : Nat → Int32) (g_was : Nat → Int32) , wp_X11_finds_36 post g_w g_defeat g_defeater x1 n v2 g_is g_was → ∀ (H : Heap) (locs : List Loc) (ls : Array Slot), va_P G.1 vwCl [ceX11 h0 a_w a_kept a_laid s_hasImage a_refusals a_row s_rows a_letters s_lettered a_hit a_lead a_defeat a_defeater s_ins s_outs a_order s_ordered a_is a_was s_reading s_isWell a_depths a_ways s_z, caI G a_w 43 g_w, caI G a_defeat 8 g_defeat, caI G a_defeater 8 g_defeater, caZ G a_is 256 g_is, caZ G a_was 256 g_was] H → va_D A [ceX11 h0 a_w a_kept a_laid s_hasImage a_refusals a_row s_rows a_letters s_lettered a_hit a_lead a_defeat a_defeater s_ins s_outs a_order s_ordered a_is a_was s_reading s_isWell a_depths a_ways s_z, caI G a_w 43 g_w, caI G a_defeat 8 g_defeat, caI G a_defeater 8 g_defeater, caZ G a_is 256 g_is, caZ G a_was 256 g_was] → va_S A s.heap H locs → lv_has ls 3 [(0, .ref h0), (1, .int x1), (2, .int v2)] → W p l e (headSpec wsX11_finds ({ frames := 6, cells := 0, slots := 0, locals := 134 })).room s m ([.ref h0, .int x1] : List Value).toArray below meth c H locs 0 0 (MQ below (va_Qv (fun u : (Nat → Int32) × (Nat → Int32) => post u.1 u.2) (hcB G A (fun u : (Nat → Int32) × (Nat → Int32) => [ceX11 h0 a_w a_kept a_laid s_hasImage a_refusals a_row s_rows a_letters s_lettered a_hit a_lead a_defeat a_defeater s_ins s_outs a_order s_ordered a_is a_was s_reading s_isWell a_depths a_ways s_z, caI G a_w 43 g_w, caI G a_defeat 8 g_defeat, caI G a_defeater 8 g_defeater, caZ G a_is 256 u.1, caZ G a_was 256 u.2])) A) ([.ref h0, .int x1] : List Value).toArray s 0 0 A) (F0 m 36 ls []) := by
    intro n
    induction n with
    | zero => intro v2 g_is g_was h; exact h.elim
    | succ n ih =>
      intro v2 g_is g_was h H locs ls hP hD hS hl
      unfold wp_X11_finds_36 at h
      refine lv_iload_n hx hb dX11_finds_36 rfl (lv_at hl 2 rfl) ?_
      refine lv_sipush (v := nI 256) hx hb dX11_finds_37 ks_256 ?_
      refine lv_icmp_ge (tgt := 61) hx hb dX11_finds_40 (by decide) (fun c => ?_) (fun c => ?_)
      · replace h := h.1 c
        refine lv_iconst (v := nI 0) hx hb dX11_finds_61 kc_0 ?_
        refine lv_istore_n (lv' := [(2, .int (nI 0)), (0, .ref h0), (1, .int x1)]) hx hb dX11_finds_62 rfl hl (by decide) rfl (fun ls hl => ?_)
        obtain ⟨n63, h⟩ := h
        exact w63  n63 (nI 0) g_is g_was h _ _ _ hP hD hS (lv_sub hl [1, 2, 0] rfl)
      · replace h := h.2 c
        refine lv_aload_n hx hb dX11_finds_43 rfl (lv_at hl 0 rfl) ?_
        refine va_get (D := G.1) (ci := 9) (v := .ref a_was) (C := RX11) (T := TX11) (N := 24) hx hb hts ki_X11 hown hK.1 hP 0 rfl rfl 18 (by decide) kf1 (fun _ h9 => h9) rfl dX11_finds_44 ?_
        refine lv_iload_n hx hb dX11_finds_47 rfl (lv_at hl 2 rfl) ?_
        refine lv_aload_n hx hb dX11_finds_48 rfl (lv_at hl 0 rfl) ?_
        refine va_get (D := G.1) (ci := 9) (v := .ref a_is) (C := RX11) (T := TX11) (N := 24) hx hb hts ki_X11 hown hK.1 hP 0 rfl rfl 17 (by decide) kf0 (fun _ h9 => h9) rfl dX11_finds_49 ?_
        refine lv_iload_n hx hb dX11_finds_52 rfl (lv_at hl 2 rfl) ?_
        have hin := h.1
        replace h := h.2
        refine va_zald hx hb hK.1 hP 4 2 rfl rfl hin dX11_finds_53 ?_
        have hin := h.1
        replace h := h.2
        refine va_zast hx hb hK.1 hP hD hS 5 2 rfl rfl hin dX11_finds_54 (fun H locs hP hD hS => ?_)
        have hP : va_P G.1 vwCl [ceX11 h0 a_w a_kept a_laid s_hasImage a_refusals a_row s_rows a_letters s_lettered a_hit a_lead a_defeat a_defeater s_ins s_outs a_order s_ordered a_is a_was s_reading s_isWell a_depths a_ways s_z, caI G a_w 43 g_w, caI G a_defeat 8 g_defeat, caI G a_defeater 8 g_defeater, caZ G a_is 256 g_is, caZ G a_was 256 (upd g_was v2.toNatClampNeg (vp_nar .boolean (g_is v2.toNatClampNeg)))] H := hP
        have hD : va_D A [ceX11 h0 a_w a_kept a_laid s_hasImage a_refusals a_row s_rows a_letters s_lettered a_hit a_lead a_defeat a_defeater s_ins s_outs a_order s_ordered a_is a_was s_reading s_isWell a_depths a_ways s_z, caI G a_w 43 g_w, caI G a_defeat 8 g_defeat, caI G a_defeater 8 g_defeater, caZ G a_is 256 g_is, caZ G a_was 256 (upd g_was v2.toNatClampNeg (vp_nar .boolean (g_is v2.toNatClampNeg)))] := hD
        refine lv_iinc (v := v2 + nI 1) (lv' := [(2, .int (v2 + nI 1)), (0, .ref h0), (1, .int x1)]) hx hb dX11_finds_55 hl (k := 2) rfl (congrArg (fun q => v2 + q) kc_1) (by decide) rfl (fun ls hl => ?_)
        refine lv_goto (tgt := 36) hx hb dX11_finds_58 (by decide) ?_
        exact ih (v2 + nI 1) g_is (upd g_was v2.toNatClampNeg (vp_nar .boolean (g_is v2.toNatClampNeg))) h _ _ _ hP hD hS (lv_sub hl [1, 2, 0] rfl)
  have w20 : ∀ (g_is : Nat → Int32) (g_was : Nat → Int32) (t0 : Int32) , wp_X11_finds_20 post g_w g_defeat g_defeater x1 g_is g_was t0 → ∀ (H : Heap) (locs : List Loc) (ls : Array Slot), va_P G.1 vwCl [ceX11 h0 a_w a_kept a_laid s_hasImage a_refusals a_row s_rows a_letters s_lettered a_hit a_lead a_defeat a_defeater s_ins s_outs a_order s_ordered a_is a_was s_reading s_isWell a_depths a_ways s_z, caI G a_w 43 g_w, caI G a_defeat 8 g_defeat, caI G a_defeater 8 g_defeater, caZ G a_is 256 g_is, caZ G a_was 256 g_was] H → va_D A [ceX11 h0 a_w a_kept a_laid s_hasImage a_refusals a_row s_rows a_letters s_lettered a_hit a_lead a_defeat a_defeater s_ins s_outs a_order s_ordered a_is a_was s_reading s_isWell a_depths a_ways s_z, caI G a_w 43 g_w, caI G a_defeat 8 g_defeat, caI G a_defeater 8 g_defeater, caZ G a_is 256 g_is, caZ G a_was 256 g_was] → va_S A s.heap H locs → lv_has ls 3 [(0, .ref h0), (1, .int x1)] → W p l e (headSpec wsX11_finds ({ frames := 6, cells := 0, slots := 0, locals := 134 })).room s m ([.ref h0, .int x1] : List Value).toArray below meth c H locs 0 0 (MQ below (va_Qv (fun u : (Nat → Int32) × (Nat → Int32) => post u.1 u.2) (hcB G A (fun u : (Nat → Int32) × (Nat → Int32) => [ceX11 h0 a_w a_kept a_laid s_hasImage a_refusals a_row s_rows a_letters s_lettered a_hit a_lead a_defeat a_defeater s_ins s_outs a_order s_ordered a_is a_was s_reading s_isWell a_depths a_ways s_z, caI G a_w 43 g_w, caI G a_defeat 8 g_defeat, caI G a_defeater 8 g_defeater, caZ G a_is 256 u.1, caZ G a_was 256 u.2])) A) ([.ref h0, .int x1] : List Value).toArray s 0 0 A) (F0 m 20 ls [.int t0, .ref h0]) := by
    intro g_is g_was t0 h H locs ls hP hD hS hl
    unfold wp_X11_finds_20 at h
    refine hc_kv (wr := [caZ G a_was 256 g_was]) (va_runV (As := [.int t0]) (rest := []) ⟨hx, hb, hml, hown, hts⟩ (c_X11_findsPlain l G h0 a_w a_kept a_laid a_refusals a_row a_letters a_hit a_lead a_defeat a_defeater a_order a_is a_was a_depths a_ways H.size s_hasImage s_rows s_lettered s_ins s_outs s_ordered s_reading s_isWell s_z g_w g_defeat g_defeater g_is t0 _ h) (cwV 1 hts gX11_finds_X11_findsPlain rfl rfl rfl (by decide +kernel) ⟨Nat.le_of_ble_eq_true rfl, Nat.le_of_ble_eq_true rfl⟩) (hc_pV hK hP hD [0, 1, 2, 3, 4] rfl rfl (ci := 9) 0 rfl rfl) rfl rfl hl.1 rfl (lv_room (Nat.le_of_ble_eq_true rfl)) dX11_finds_20 ⟨Nat.le_refl _, Nat.le_refl _⟩) hP hD hS hA [0, 1, 2, 3, 4] [5] rfl rfl rfl (by decide) (fun u H locs h hP hD hS => ?_)
    obtain ⟨g_is_20, rfl⟩ : ∃ z, z = u := ⟨_, rfl⟩
    try dsimp only at h
    have hP : va_P G.1 vwCl [caZ G a_was 256 g_was, ceX11 h0 a_w a_kept a_laid s_hasImage a_refusals a_row s_rows a_letters s_lettered a_hit a_lead a_defeat a_defeater s_ins s_outs a_order s_ordered a_is a_was s_reading s_isWell a_depths a_ways s_z, caI G a_w 43 g_w, caI G a_defeat 8 g_defeat, caI G a_defeater 8 g_defeater, caZ G a_is 256 g_is_20] H := hP
    have hD : va_D A [caZ G a_was 256 g_was, ceX11 h0 a_w a_kept a_laid s_hasImage a_refusals a_row s_rows a_letters s_lettered a_hit a_lead a_defeat a_defeater s_ins s_outs a_order s_ordered a_is a_was s_reading s_isWell a_depths a_ways s_z, caI G a_w 43 g_w, caI G a_defeat 8 g_defeat, caI G a_defeater 8 g_defeater, caZ G a_is 256 g_is_20] := hD
    refine lv_iload_n hx hb dX11_finds_23 rfl (lv_at hl 1 rfl) ?_
    refine lv_iconst (v := nI 3) hx hb dX11_finds_24 kc_3 ?_
    refine lv_icmp_eq (tgt := 34) hx hb dX11_finds_25 (by decide) (fun c => ?_) (fun c => ?_)
    · replace h := h.1 c
      refine lv_iconst (v := nI 0) hx hb dX11_finds_34 kc_0 ?_
      refine lv_istore_n (lv' := [(2, .int (nI 0)), (0, .ref h0), (1, .int x1)]) hx hb dX11_finds_35 rfl hl (by decide) rfl (fun ls hl => ?_)
      obtain ⟨n36, h⟩ := h
      exact w36  n36 (nI 0) g_is_20 g_was h _ _ _ (hP.sub [1, 2, 3, 4, 5, 0] rfl) (hD.sub [1, 2, 3, 4, 5, 0] (by decide) rfl) hS (lv_sub hl [1, 2, 0] rfl)
    · replace h := h.2 c
      refine lv_iload_n hx hb dX11_finds_28 rfl (lv_at hl 1 rfl) ?_
      refine lv_iconst (v := nI 5) hx hb dX11_finds_29 kc_5 ?_
      refine lv_icmp_eq (tgt := 34) hx hb dX11_finds_30 (by decide) (fun c => ?_) (fun c => ?_)
      · replace h := h.1 c
        refine lv_iconst (v := nI 0) hx hb dX11_finds_34 kc_0 ?_
        refine lv_istore_n (lv' := [(2, .int (nI 0)), (0, .ref h0), (1, .int x1)]) hx hb dX11_finds_35 rfl hl (by decide) rfl (fun ls hl => ?_)
        obtain ⟨n36, h⟩ := h
        exact w36  n36 (nI 0) g_is_20 g_was h _ _ _ (hP.sub [1, 2, 3, 4, 5, 0] rfl) (hD.sub [1, 2, 3, 4, 5, 0] (by decide) rfl) hS (lv_sub hl [1, 2, 0] rfl)
      · replace h := h.2 c
        exact W.vret hx hb hr (fun t ht hW => ⟨⟨⟨g_is_20, g_was⟩, rfl, h, ⟨by rw [ht]; exact (hP.sub [1, 2, 3, 4, 5, 0] rfl), (hD.sub [1, 2, 3, 4, 5, 0] (by decide) rfl)⟩⟩, hS.F ht⟩) hS.2.2 dX11_finds_33
  unfold wp_X11_finds at h
  refine lv_aload_n hx hb dX11_finds_0 rfl (lv_at hl 0 rfl) ?_
  refine lv_iload_n hx hb dX11_finds_1 rfl (lv_at hl 1 rfl) ?_
  refine lv_iconst (v := nI 3) hx hb dX11_finds_2 kc_3 ?_
  refine lv_icmp_ne (tgt := 10) hx hb dX11_finds_3 (by decide) (fun c => ?_) (fun c => ?_)
  · replace h := h.1 c
    refine lv_iload_n hx hb dX11_finds_10 rfl (lv_at hl 1 rfl) ?_
    refine lv_iconst (v := nI 5) hx hb dX11_finds_11 kc_5 ?_
    refine lv_icmp_ne (tgt := 19) hx hb dX11_finds_12 (by decide) (fun c => ?_) (fun c => ?_)
    · replace h := h.1 c
      refine lv_iload_n hx hb dX11_finds_19 rfl (lv_at hl 1 rfl) ?_
      exact w20  g_is g_was x1 h _ _ _ hP hD hS (lv_sub hl [0, 1] rfl)
    · replace h := h.2 c
      refine lv_iconst (v := nI 2) hx hb dX11_finds_15 kc_2 ?_
      refine lv_goto (tgt := 20) hx hb dX11_finds_16 (by decide) ?_
      exact w20  g_is g_was (nI 2) h _ _ _ hP hD hS (lv_sub hl [0, 1] rfl)
  · replace h := h.2 c
    refine lv_iconst (v := nI 1) hx hb dX11_finds_6 kc_1 ?_
    refine lv_goto (tgt := 20) hx hb dX11_finds_7 (by decide) ?_
    exact w20  g_is g_was (nI 1) h _ _ _ hP hD hS (lv_sub hl [0, 1] rfl)
set_option maxHeartbeats 4000000 in
set_option maxRecDepth 100000 in
theorem c_X11_found (l : Launch) (G : hcG) (h0 : Nat) (a_w : Nat) (a_kept : Nat) (a_laid : Nat) (a_refusals : Nat) (a_row : Nat) (a_letters : Nat) (a_hit : Nat) (a_lead : Nat) (a_defeat : Nat) (a_defeater : Nat) (a_order : Nat) (a_is : Nat) (a_was : Nat) (a_depths : Nat) (a_ways : Nat) (sz : Nat) (s_hasImage : Int32) (s_rows : Int32) (s_lettered : Int32) (s_ins : Int32) (s_outs : Int32) (s_ordered : Int32) (s_reading : Int32) (s_isWell : Int32) (s_z : Int32) (g_is : Nat → Int32) (post : Int32 → Prop) (h : wp_X11_found post g_is) : Met l yX11_found wsX11_found ({ frames := 0, cells := 0, slots := 0, locals := 0 }) (hcPc G [.ref h0] [ceX11 h0 a_w a_kept a_laid s_hasImage a_refusals a_row s_rows a_letters s_lettered a_hit a_lead a_defeat a_defeater s_ins s_outs a_order s_ordered a_is a_was s_reading s_isWell a_depths a_ways s_z, caZ G a_is 256 g_is] sz) (va_Qi (fun (r : Int32) (u : Unit) => post r) (hcB G (va_A [ceX11 h0 a_w a_kept a_laid s_hasImage a_refusals a_row s_rows a_letters s_lettered a_hit a_lead a_defeat a_defeater s_ins s_outs a_order s_ordered a_is a_was s_reading s_isWell a_depths a_ways s_z, caZ G a_is 256 g_is] sz) (fun u : Unit => [ceX11 h0 a_w a_kept a_laid s_hasImage a_refusals a_row s_rows a_letters s_lettered a_hit a_lead a_defeat a_defeater s_ins s_outs a_order s_ordered a_is a_was s_reading s_isWell a_depths a_ways s_z, caZ G a_is 256 g_is])) (va_A [ceX11 h0 a_w a_kept a_laid s_hasImage a_refusals a_row s_rows a_letters s_lettered a_hit a_lead a_defeat a_defeater s_ins s_outs a_order s_ordered a_is a_was s_reading s_isWell a_depths a_ways s_z, caZ G a_is 256 g_is] sz)) 0 0 (va_A [ceX11 h0 a_w a_kept a_laid s_hasImage a_refusals a_row s_rows a_letters s_lettered a_hit a_lead a_defeat a_defeater s_ins s_outs a_order s_ordered a_is a_was s_reading s_isWell a_depths a_ways s_z, caZ G a_is 256 g_is] sz) := by
  refine Met.ofW (cc := cX11_found) (maxL := 3) (ret := (some .int)) (by decide) rfl ?_
  intro p e s m args below meth c s₁ B hml hv
  obtain ⟨rfl, hsz, hP, hK, hD0⟩ := hv
  have hx := B.exec
  have hb := B.bytes
  have hr := B.returns
  have hts := atoms_spec (ws := wsX11_found) B.pre
  have hown : s.vm.findClass RX11 = some m.cls := findClass_of_methodNamed B.named
  have hlocks := B.notSynchronized
  subst hsz
  have hD := hD0.self (sz := s.heap.size)
  generalize hAe : va_A [ceX11 h0 a_w a_kept a_laid s_hasImage a_refusals a_row s_rows a_letters s_lettered a_hit a_lead a_defeat a_defeater s_ins s_outs a_order s_ordered a_is a_was s_reading s_isWell a_depths a_ways s_z, caZ G a_is 256 g_is] s.heap.size = A at hD ⊢
  have hA : ∀ q : Nat, s.heap.size ≤ q → A q := fun q h => by rw [← hAe]; exact Or.inr h
  have hS : va_S A s.heap s.heap [] := va_S.rf
  have hP : va_P G.1 vwCl [ceX11 h0 a_w a_kept a_laid s_hasImage a_refusals a_row s_rows a_letters s_lettered a_hit a_lead a_defeat a_defeater s_ins s_outs a_order s_ordered a_is a_was s_reading s_isWell a_depths a_ways s_z, caZ G a_is 256 g_is] s.heap := hP
  have hl := lv_entry ([.ref h0]) (n := 3) (Nat.le_of_ble_eq_true rfl)
  rw [lg_entry_eq]
  generalize (lg_sl ([.ref h0]) ++ List.replicate (3 - (lg_sl ([.ref h0])).length) Slot.unset).toArray = ls at hl ⊢
  have hl : lv_has ls 3 [(0, .ref h0)] := hl
  have kf0 := hts (.fieldLink RX11 43 "HallOfClaimsModel" "is" "[Z") (List.mem_of_getElem? (i := 1) (by decide +kernel))
  have ki_X11 : ∀ w ∈ u_ws RX11 TX11 24, w ∈ wsX11_found := by decide +kernel
  have w4 : ∀ (n : Nat) (v1 : Int32) (v2 : Int32) , wp_X11_found_4 post g_is n v1 v2 → ∀ (H : Heap) (locs : List Loc) (ls : Array Slot), va_P G.1 vwCl [ceX11 h0 a_w a_kept a_laid s_hasImage a_refusals a_row s_rows a_letters s_lettered a_hit a_lead a_defeat a_defeater s_ins s_outs a_order s_ordered a_is a_was s_reading s_isWell a_depths a_ways s_z, caZ G a_is 256 g_is] H → va_D A [ceX11 h0 a_w a_kept a_laid s_hasImage a_refusals a_row s_rows a_letters s_lettered a_hit a_lead a_defeat a_defeater s_ins s_outs a_order s_ordered a_is a_was s_reading s_isWell a_depths a_ways s_z, caZ G a_is 256 g_is] → va_S A s.heap H locs → lv_has ls 3 [(0, .ref h0), (1, .int v1), (2, .int v2)] → W p l e (headSpec wsX11_found ({ frames := 0, cells := 0, slots := 0, locals := 0 })).room s m ([.ref h0] : List Value).toArray below meth c H locs 0 0 (MQ below (va_Qi (fun (r : Int32) (u : Unit) => post r) (hcB G A (fun u : Unit => [ceX11 h0 a_w a_kept a_laid s_hasImage a_refusals a_row s_rows a_letters s_lettered a_hit a_lead a_defeat a_defeater s_ins s_outs a_order s_ordered a_is a_was s_reading s_isWell a_depths a_ways s_z, caZ G a_is 256 g_is])) A) ([.ref h0] : List Value).toArray s 0 0 A) (F0 m 4 ls []) := by
    intro n
    induction n with
    | zero => intro v1 v2 h; exact h.elim
    | succ n ih =>
      intro v1 v2 h H locs ls hP hD hS hl
      unfold wp_X11_found_4 at h
      refine lv_iload_n hx hb dX11_found_4 rfl (lv_at hl 2 rfl) ?_
      refine lv_sipush (v := nI 256) hx hb dX11_found_5 ks_256 ?_
      refine lv_icmp_ge (tgt := 34) hx hb dX11_found_8 (by decide) (fun c => ?_) (fun c => ?_)
      · replace h := h.1 c
        refine lv_iload_n hx hb dX11_found_34 rfl (lv_at hl 1 rfl) ?_
        exact W.iret (v := v1) hx hb hr (fun t ht hW => ⟨⟨_, (), rfl, h, ⟨by rw [ht]; exact hP, hD⟩⟩, hS.F ht⟩) hS.2.2 dX11_found_35
      · replace h := h.2 c
        refine lv_iload_n hx hb dX11_found_11 rfl (lv_at hl 1 rfl) ?_
        refine lv_aload_n hx hb dX11_found_12 rfl (lv_at hl 0 rfl) ?_
        refine va_get (D := G.1) (ci := 9) (v := .ref a_is) (C := RX11) (T := TX11) (N := 24) hx hb hts ki_X11 hown hK.1 hP 0 rfl rfl 17 (by decide) kf0 (fun _ h9 => h9) rfl dX11_found_13 ?_
        refine lv_iload_n hx hb dX11_found_16 rfl (lv_at hl 2 rfl) ?_
        have hin := h.1
        replace h := h.2
        refine va_zald hx hb hK.1 hP 1 2 rfl rfl hin dX11_found_17 ?_
        refine lv_if_eq (tgt := 25) hx hb dX11_found_18 (by decide) (fun c => ?_) (fun c => ?_)
        · replace h := h.1 c
          refine lv_iconst (v := nI 0) hx hb dX11_found_25 kc_0 ?_
          refine lv_iadd hx hb dX11_found_26 ?_
          refine lv_istore_n (lv' := [(1, .int (v1 + (nI 0))), (0, .ref h0), (2, .int v2)]) hx hb dX11_found_27 rfl hl (by decide) rfl (fun ls hl => ?_)
          refine lv_iinc (v := v2 + nI 1) (lv' := [(2, .int (v2 + nI 1)), (1, .int (v1 + (nI 0))), (0, .ref h0)]) hx hb dX11_found_28 hl (k := 2) rfl (congrArg (fun q => v2 + q) kc_1) (by decide) rfl (fun ls hl => ?_)
          refine lv_goto (tgt := 4) hx hb dX11_found_31 (by decide) ?_
          exact ih (v1 + (nI 0)) (v2 + nI 1) h _ _ _ hP hD hS (lv_sub hl [2, 1, 0] rfl)
        · replace h := h.2 c
          refine lv_iconst (v := nI 1) hx hb dX11_found_21 kc_1 ?_
          refine lv_goto (tgt := 26) hx hb dX11_found_22 (by decide) ?_
          refine lv_iadd hx hb dX11_found_26 ?_
          refine lv_istore_n (lv' := [(1, .int (v1 + (nI 1))), (0, .ref h0), (2, .int v2)]) hx hb dX11_found_27 rfl hl (by decide) rfl (fun ls hl => ?_)
          refine lv_iinc (v := v2 + nI 1) (lv' := [(2, .int (v2 + nI 1)), (1, .int (v1 + (nI 1))), (0, .ref h0)]) hx hb dX11_found_28 hl (k := 2) rfl (congrArg (fun q => v2 + q) kc_1) (by decide) rfl (fun ls hl => ?_)
          refine lv_goto (tgt := 4) hx hb dX11_found_31 (by decide) ?_
          exact ih (v1 + (nI 1)) (v2 + nI 1) h _ _ _ hP hD hS (lv_sub hl [2, 1, 0] rfl)
  unfold wp_X11_found at h
  refine lv_iconst (v := nI 0) hx hb dX11_found_0 kc_0 ?_
  refine lv_istore_n (lv' := [(1, .int (nI 0)), (0, .ref h0)]) hx hb dX11_found_1 rfl hl (by decide) rfl (fun ls hl => ?_)
  refine lv_iconst (v := nI 0) hx hb dX11_found_2 kc_0 ?_
  refine lv_istore_n (lv' := [(2, .int (nI 0)), (1, .int (nI 0)), (0, .ref h0)]) hx hb dX11_found_3 rfl hl (by decide) rfl (fun ls hl => ?_)
  obtain ⟨n4, h⟩ := h
  exact w4  n4 (nI 0) (nI 0) h _ _ _ hP hD hS (lv_sub hl [2, 1, 0] rfl)
set_option maxHeartbeats 4000000 in
set_option maxRecDepth 100000 in
theorem c_X11_foundAt (l : Launch) (G : hcG) (h0 : Nat) (a_w : Nat) (a_kept : Nat) (a_laid : Nat) (a_refusals : Nat) (a_row : Nat) (a_letters : Nat) (a_hit : Nat) (a_lead : Nat) (a_defeat : Nat) (a_defeater : Nat) (a_order : Nat) (a_is : Nat) (a_was : Nat) (a_depths : Nat) (a_ways : Nat) (sz : Nat) (s_hasImage : Int32) (s_rows : Int32) (s_lettered : Int32) (s_ins : Int32) (s_outs : Int32) (s_ordered : Int32) (s_reading : Int32) (s_isWell : Int32) (s_z : Int32) (g_is : Nat → Int32) (x1 : Int32) (post : Int32 → Prop) (h : wp_X11_foundAt post g_is x1) : Met l yX11_foundAt wsX11_foundAt ({ frames := 1, cells := 0, slots := 0, locals := 22 }) (hcPc G [.ref h0, .int x1] [ceX11 h0 a_w a_kept a_laid s_hasImage a_refusals a_row s_rows a_letters s_lettered a_hit a_lead a_defeat a_defeater s_ins s_outs a_order s_ordered a_is a_was s_reading s_isWell a_depths a_ways s_z, caZ G a_is 256 g_is] sz) (va_Qi (fun (r : Int32) (u : Unit) => post r) (hcB G (va_A [ceX11 h0 a_w a_kept a_laid s_hasImage a_refusals a_row s_rows a_letters s_lettered a_hit a_lead a_defeat a_defeater s_ins s_outs a_order s_ordered a_is a_was s_reading s_isWell a_depths a_ways s_z, caZ G a_is 256 g_is] sz) (fun u : Unit => [ceX11 h0 a_w a_kept a_laid s_hasImage a_refusals a_row s_rows a_letters s_lettered a_hit a_lead a_defeat a_defeater s_ins s_outs a_order s_ordered a_is a_was s_reading s_isWell a_depths a_ways s_z, caZ G a_is 256 g_is])) (va_A [ceX11 h0 a_w a_kept a_laid s_hasImage a_refusals a_row s_rows a_letters s_lettered a_hit a_lead a_defeat a_defeater s_ins s_outs a_order s_ordered a_is a_was s_reading s_isWell a_depths a_ways s_z, caZ G a_is 256 g_is] sz)) 0 0 (va_A [ceX11 h0 a_w a_kept a_laid s_hasImage a_refusals a_row s_rows a_letters s_lettered a_hit a_lead a_defeat a_defeater s_ins s_outs a_order s_ordered a_is a_was s_reading s_isWell a_depths a_ways s_z, caZ G a_is 256 g_is] sz) := by
  refine Met.ofW (cc := cX11_foundAt) (maxL := 5) (ret := (some .int)) (by decide) rfl ?_
  intro p e s m args below meth c s₁ B hml hv
  obtain ⟨rfl, hsz, hP, hK, hD0⟩ := hv
  have hx := B.exec
  have hb := B.bytes
  have hr := B.returns
  have hts := atoms_spec (ws := wsX11_foundAt) B.pre
  have hown : s.vm.findClass RX11 = some m.cls := findClass_of_methodNamed B.named
  have hlocks := B.notSynchronized
  subst hsz
  have hD := hD0.self (sz := s.heap.size)
  generalize hAe : va_A [ceX11 h0 a_w a_kept a_laid s_hasImage a_refusals a_row s_rows a_letters s_lettered a_hit a_lead a_defeat a_defeater s_ins s_outs a_order s_ordered a_is a_was s_reading s_isWell a_depths a_ways s_z, caZ G a_is 256 g_is] s.heap.size = A at hD ⊢
  have hA : ∀ q : Nat, s.heap.size ≤ q → A q := fun q h => by rw [← hAe]; exact Or.inr h
  have hS : va_S A s.heap s.heap [] := va_S.rf
  have hP : va_P G.1 vwCl [ceX11 h0 a_w a_kept a_laid s_hasImage a_refusals a_row s_rows a_letters s_lettered a_hit a_lead a_defeat a_defeater s_ins s_outs a_order s_ordered a_is a_was s_reading s_isWell a_depths a_ways s_z, caZ G a_is 256 g_is] s.heap := hP
  have hl := lv_entry ([.ref h0, .int x1]) (n := 5) (Nat.le_of_ble_eq_true rfl)
  rw [lg_entry_eq]
  generalize (lg_sl ([.ref h0, .int x1]) ++ List.replicate (5 - (lg_sl ([.ref h0, .int x1])).length) Slot.unset).toArray = ls at hl ⊢
  have hl : lv_has ls 5 [(0, .ref h0), (1, .int x1)] := hl
  have kf0 := hts (.fieldLink RX11 43 "HallOfClaimsModel" "is" "[Z") (List.mem_of_getElem? (i := 1) (by decide +kernel))
  have ki_X11 : ∀ w ∈ u_ws RX11 TX11 24, w ∈ wsX11_foundAt := by decide +kernel
  have w12 : ∀ (K5 : Int32 → Int32 → Prop), (∀ (v2 : Int32) (v3 : Int32) , K5 v2 v3 → ∀ (H : Heap) (locs : List Loc) (ls : Array Slot), va_P G.1 vwCl [ceX11 h0 a_w a_kept a_laid s_hasImage a_refusals a_row s_rows a_letters s_lettered a_hit a_lead a_defeat a_defeater s_ins s_outs a_order s_ordered a_is a_was s_reading s_isWell a_depths a_ways s_z, caZ G a_is 256 g_is] H → va_D A [ceX11 h0 a_w a_kept a_laid s_hasImage a_refusals a_row s_rows a_letters s_lettered a_hit a_lead a_defeat a_defeater s_ins s_outs a_order s_ordered a_is a_was s_reading s_isWell a_depths a_ways s_z, caZ G a_is 256 g_is] → va_S A s.heap H locs → lv_has ls 5 [(0, .ref h0), (2, .int v2), (3, .int v3)] → W p l e (headSpec wsX11_foundAt ({ frames := 1, cells := 0, slots := 0, locals := 22 })).room s m ([.ref h0, .int x1] : List Value).toArray below meth c H locs 0 0 (MQ below (va_Qi (fun (r : Int32) (u : Unit) => post r) (hcB G A (fun u : Unit => [ceX11 h0 a_w a_kept a_laid s_hasImage a_refusals a_row s_rows a_letters s_lettered a_hit a_lead a_defeat a_defeater s_ins s_outs a_order s_ordered a_is a_was s_reading s_isWell a_depths a_ways s_z, caZ G a_is 256 g_is])) A) ([.ref h0, .int x1] : List Value).toArray s 0 0 A) (F0 m 5 ls [])) → ∀ (n : Nat) (v2 : Int32) (v3 : Int32) (v4 : Int32) , wp_X11_foundAt_12 post g_is x1 K5 n v2 v3 v4 → ∀ (H : Heap) (locs : List Loc) (ls : Array Slot), va_P G.1 vwCl [ceX11 h0 a_w a_kept a_laid s_hasImage a_refusals a_row s_rows a_letters s_lettered a_hit a_lead a_defeat a_defeater s_ins s_outs a_order s_ordered a_is a_was s_reading s_isWell a_depths a_ways s_z, caZ G a_is 256 g_is] H → va_D A [ceX11 h0 a_w a_kept a_laid s_hasImage a_refusals a_row s_rows a_letters s_lettered a_hit a_lead a_defeat a_defeater s_ins s_outs a_order s_ordered a_is a_was s_reading s_isWell a_depths a_ways s_z, caZ G a_is 256 g_is] → va_S A s.heap H locs → lv_has ls 5 [(0, .ref h0), (2, .int v2), (3, .int v3), (4, .int v4)] → W p l e (headSpec wsX11_foundAt ({ frames := 1, cells := 0, slots := 0, locals := 22 })).room s m ([.ref h0, .int x1] : List Value).toArray below meth c H locs 0 0 (MQ below (va_Qi (fun (r : Int32) (u : Unit) => post r) (hcB G A (fun u : Unit => [ceX11 h0 a_w a_kept a_laid s_hasImage a_refusals a_row s_rows a_letters s_lettered a_hit a_lead a_defeat a_defeater s_ins s_outs a_order s_ordered a_is a_was s_reading s_isWell a_depths a_ways s_z, caZ G a_is 256 g_is])) A) ([.ref h0, .int x1] : List Value).toArray s 0 0 A) (F0 m 12 ls []) := by
    intro K5 hK5 n
    induction n with
    | zero => intro v2 v3 v4 h; exact h.elim
    | succ n ih =>
      intro v2 v3 v4 h H locs ls hP hD hS hl
      unfold wp_X11_foundAt_12 at h
      refine lv_iload hx hb dX11_foundAt_12 (lv_at hl 3 rfl) ?_
      refine lv_sipush (v := nI 256) hx hb dX11_foundAt_14 ks_256 ?_
      refine lv_icmp_ge (tgt := 55) hx hb dX11_foundAt_17 (by decide) (fun c => ?_) (fun c => ?_)
      · replace h := h.1 c
        refine lv_iinc (v := v3 + (-1 : Int32)) (lv' := [(3, .int (v3 + (-1 : Int32))), (0, .ref h0), (2, .int v2), (4, .int v4)]) hx hb dX11_foundAt_55 hl (k := 2) rfl (congrArg (fun q => v3 + q) kc_m1) (by decide) rfl (fun ls hl => ?_)
        refine lv_goto (tgt := 5) hx hb dX11_foundAt_58 (by decide) ?_
        exact hK5 v2 (v3 + (-1 : Int32)) h _ _ _ hP hD hS (lv_sub hl [1, 2, 0] rfl)
      · replace h := h.2 c
        refine lv_aload_n hx hb dX11_foundAt_20 rfl (lv_at hl 0 rfl) ?_
        refine va_get (D := G.1) (ci := 9) (v := .ref a_is) (C := RX11) (T := TX11) (N := 24) hx hb hts ki_X11 hown hK.1 hP 0 rfl rfl 17 (by decide) kf0 (fun _ h9 => h9) rfl dX11_foundAt_21 ?_
        refine lv_iload hx hb dX11_foundAt_24 (lv_at hl 3 rfl) ?_
        have hin := h.1
        replace h := h.2
        refine va_zald hx hb hK.1 hP 1 2 rfl rfl hin dX11_foundAt_26 ?_
        refine lv_if_eq (tgt := 49) hx hb dX11_foundAt_27 (by decide) (fun c => ?_) (fun c => ?_)
        · replace h := h.1 c
          refine lv_iinc (v := v4 + nI 1) (lv' := [(4, .int (v4 + nI 1)), (0, .ref h0), (2, .int v2), (3, .int v3)]) hx hb dX11_foundAt_49 hl (k := 3) rfl (congrArg (fun q => v4 + q) kc_1) (by decide) rfl (fun ls hl => ?_)
          refine lv_goto (tgt := 12) hx hb dX11_foundAt_52 (by decide) ?_
          exact ih v2 v3 (v4 + nI 1) h _ _ _ hP hD hS (lv_sub hl [1, 2, 3, 0] rfl)
        · replace h := h.2 c
          refine lv_iload hx hb dX11_foundAt_30 (lv_at hl 3 rfl) ?_
          refine hc_ki (wr := [ceX11 h0 a_w a_kept a_laid s_hasImage a_refusals a_row s_rows a_letters s_lettered a_hit a_lead a_defeat a_defeater s_ins s_outs a_order s_ordered a_is a_was s_reading s_isWell a_depths a_ways s_z, caZ G a_is 256 g_is]) (va_runS (As := [.int v4]) (rest := []) ⟨hx, hb, hml, hown, hts⟩ (c_X11_ones l G H.size v4 _ h) (va_cwS 1 hts gX11_foundAt_X11_ones rfl rfl rfl (by decide +kernel) ⟨Nat.le_of_ble_eq_true rfl, Nat.le_of_ble_eq_true rfl⟩) (hc_pS hK hP hD [] rfl rfl) rfl rfl hl.1 rfl (lv_room (Nat.le_of_ble_eq_true rfl)) dX11_foundAt_32 ⟨Nat.le_refl _, Nat.le_refl _⟩) hP hD hS hA [] [0, 1] rfl rfl rfl (by decide) (fun r32 u H locs h hP hD hS => ?_)
          try dsimp only at h
          have hP : va_P G.1 vwCl [ceX11 h0 a_w a_kept a_laid s_hasImage a_refusals a_row s_rows a_letters s_lettered a_hit a_lead a_defeat a_defeater s_ins s_outs a_order s_ordered a_is a_was s_reading s_isWell a_depths a_ways s_z, caZ G a_is 256 g_is] H := hP
          have hD : va_D A [ceX11 h0 a_w a_kept a_laid s_hasImage a_refusals a_row s_rows a_letters s_lettered a_hit a_lead a_defeat a_defeater s_ins s_outs a_order s_ordered a_is a_was s_reading s_isWell a_depths a_ways s_z, caZ G a_is 256 g_is] := hD
          refine lv_iload_n hx hb dX11_foundAt_35 rfl (lv_at hl 2 rfl) ?_
          refine lv_icmp_ne (tgt := 49) hx hb dX11_foundAt_36 (by decide) (fun c => ?_) (fun c => ?_)
          · replace h := h.1 c
            refine lv_iinc (v := v4 + nI 1) (lv' := [(4, .int (v4 + nI 1)), (0, .ref h0), (2, .int v2), (3, .int v3)]) hx hb dX11_foundAt_49 hl (k := 3) rfl (congrArg (fun q => v4 + q) kc_1) (by decide) rfl (fun ls hl => ?_)
            refine lv_goto (tgt := 12) hx hb dX11_foundAt_52 (by decide) ?_
            exact ih v2 v3 (v4 + nI 1) h _ _ _ hP hD hS (lv_sub hl [1, 2, 3, 0] rfl)
          · replace h := h.2 c
            refine lv_iload_n hx hb dX11_foundAt_39 rfl (lv_at hl 1 rfl) ?_
            refine lv_if_ne (tgt := 46) hx hb dX11_foundAt_40 (by decide) (fun c => ?_) (fun c => ?_)
            · replace h := h.1 c
              refine lv_iinc (v := v2 + (-1 : Int32)) (lv' := [(2, .int (v2 + (-1 : Int32))), (0, .ref h0), (3, .int v3), (4, .int v4)]) hx hb dX11_foundAt_46 hl (k := 1) rfl (congrArg (fun q => v2 + q) kc_m1) (by decide) rfl (fun ls hl => ?_)
              refine lv_iinc (v := v4 + nI 1) (lv' := [(4, .int (v4 + nI 1)), (2, .int (v2 + (-1 : Int32))), (0, .ref h0), (3, .int v3)]) hx hb dX11_foundAt_49 hl (k := 3) rfl (congrArg (fun q => v4 + q) kc_1) (by decide) rfl (fun ls hl => ?_)
              refine lv_goto (tgt := 12) hx hb dX11_foundAt_52 (by decide) ?_
              exact ih (v2 + (-1 : Int32)) v3 (v4 + nI 1) h _ _ _ hP hD hS (lv_sub hl [2, 1, 3, 0] rfl)
            · replace h := h.2 c
              refine lv_iload hx hb dX11_foundAt_43 (lv_at hl 3 rfl) ?_
              exact W.iret (v := v4) hx hb hr (fun t ht hW => ⟨⟨_, (), rfl, h, ⟨by rw [ht]; exact hP, hD⟩⟩, hS.F ht⟩) hS.2.2 dX11_foundAt_45
  have w5 : ∀ (n : Nat) (v2 : Int32) (v3 : Int32) , wp_X11_foundAt_5 post g_is x1 n v2 v3 → ∀ (H : Heap) (locs : List Loc) (ls : Array Slot), va_P G.1 vwCl [ceX11 h0 a_w a_kept a_laid s_hasImage a_refusals a_row s_rows a_letters s_lettered a_hit a_lead a_defeat a_defeater s_ins s_outs a_order s_ordered a_is a_was s_reading s_isWell a_depths a_ways s_z, caZ G a_is 256 g_is] H → va_D A [ceX11 h0 a_w a_kept a_laid s_hasImage a_refusals a_row s_rows a_letters s_lettered a_hit a_lead a_defeat a_defeater s_ins s_outs a_order s_ordered a_is a_was s_reading s_isWell a_depths a_ways s_z, caZ G a_is 256 g_is] → va_S A s.heap H locs → lv_has ls 5 [(0, .ref h0), (2, .int v2), (3, .int v3)] → W p l e (headSpec wsX11_foundAt ({ frames := 1, cells := 0, slots := 0, locals := 22 })).room s m ([.ref h0, .int x1] : List Value).toArray below meth c H locs 0 0 (MQ below (va_Qi (fun (r : Int32) (u : Unit) => post r) (hcB G A (fun u : Unit => [ceX11 h0 a_w a_kept a_laid s_hasImage a_refusals a_row s_rows a_letters s_lettered a_hit a_lead a_defeat a_defeater s_ins s_outs a_order s_ordered a_is a_was s_reading s_isWell a_depths a_ways s_z, caZ G a_is 256 g_is])) A) ([.ref h0, .int x1] : List Value).toArray s 0 0 A) (F0 m 5 ls []) := by
    intro n
    induction n with
    | zero => intro v2 v3 h; exact h.elim
    | succ n ih =>
      intro v2 v3 h H locs ls hP hD hS hl
      unfold wp_X11_foundAt_5 at h
      refine lv_iload_n hx hb dX11_foundAt_5 rfl (lv_at hl 2 rfl) ?_
      refine lv_if_lt (tgt := 61) hx hb dX11_foundAt_6 (by decide) (fun c => ?_) (fun c => ?_)
      · replace h := h.1 c
        refine lv_bipush (v := (-9 : Int32)) hx hb dX11_foundAt_61 kb_m9 ?_
        exact W.iret (v := (-9 : Int32)) hx hb hr (fun t ht hW => ⟨⟨_, (), rfl, h, ⟨by rw [ht]; exact hP, hD⟩⟩, hS.F ht⟩) hS.2.2 dX11_foundAt_63
      · replace h := h.2 c
        refine lv_iconst (v := nI 0) hx hb dX11_foundAt_9 kc_0 ?_
        refine lv_istore (lv' := [(4, .int (nI 0)), (0, .ref h0), (2, .int v2), (3, .int v3)]) hx hb dX11_foundAt_10 hl (by decide) rfl (fun ls hl => ?_)
        obtain ⟨n12, h⟩ := h
        exact w12 ((wp_X11_foundAt_5 post g_is x1 n)) ih n12 v2 v3 (nI 0) h _ _ _ hP hD hS (lv_sub hl [1, 2, 3, 0] rfl)
  unfold wp_X11_foundAt at h
  refine lv_iload_n hx hb dX11_foundAt_0 rfl (lv_at hl 1 rfl) ?_
  refine lv_istore_n (lv' := [(2, .int x1), (0, .ref h0), (1, .int x1)]) hx hb dX11_foundAt_1 rfl hl (by decide) rfl (fun ls hl => ?_)
  refine lv_bipush (v := nI 8) hx hb dX11_foundAt_2 kb_8 ?_
  refine lv_istore_n (lv' := [(3, .int (nI 8)), (2, .int x1), (0, .ref h0), (1, .int x1)]) hx hb dX11_foundAt_4 rfl hl (by decide) rfl (fun ls hl => ?_)
  obtain ⟨n5, h⟩ := h
  exact w5  n5 x1 (nI 8) h _ _ _ hP hD hS (lv_sub hl [2, 1, 0] rfl)
set_option maxHeartbeats 4000000 in
set_option maxRecDepth 100000 in
theorem c_X11_letterAt (l : Launch) (G : hcG) (h0 : Nat) (a_w : Nat) (a_kept : Nat) (a_laid : Nat) (a_refusals : Nat) (a_row : Nat) (a_letters : Nat) (a_hit : Nat) (a_lead : Nat) (a_defeat : Nat) (a_defeater : Nat) (a_order : Nat) (a_is : Nat) (a_was : Nat) (a_depths : Nat) (a_ways : Nat) (sz : Nat) (s_hasImage : Int32) (s_rows : Int32) (s_lettered : Int32) (s_ins : Int32) (s_outs : Int32) (s_ordered : Int32) (s_reading : Int32) (s_isWell : Int32) (s_z : Int32) (g_letters : Nat → Int32) (x1 : Int32) (post : Int32 → Prop) (h : wp_X11_letterAt post g_letters s_lettered x1) : Met l yX11_letterAt wsX11_letterAt ({ frames := 0, cells := 0, slots := 0, locals := 0 }) (hcPc G [.ref h0, .int x1] [ceX11 h0 a_w a_kept a_laid s_hasImage a_refusals a_row s_rows a_letters s_lettered a_hit a_lead a_defeat a_defeater s_ins s_outs a_order s_ordered a_is a_was s_reading s_isWell a_depths a_ways s_z, caI G a_letters 96 g_letters] sz) (va_Qi (fun (r : Int32) (u : Unit) => post r) (hcB G (va_A [ceX11 h0 a_w a_kept a_laid s_hasImage a_refusals a_row s_rows a_letters s_lettered a_hit a_lead a_defeat a_defeater s_ins s_outs a_order s_ordered a_is a_was s_reading s_isWell a_depths a_ways s_z, caI G a_letters 96 g_letters] sz) (fun u : Unit => [ceX11 h0 a_w a_kept a_laid s_hasImage a_refusals a_row s_rows a_letters s_lettered a_hit a_lead a_defeat a_defeater s_ins s_outs a_order s_ordered a_is a_was s_reading s_isWell a_depths a_ways s_z, caI G a_letters 96 g_letters])) (va_A [ceX11 h0 a_w a_kept a_laid s_hasImage a_refusals a_row s_rows a_letters s_lettered a_hit a_lead a_defeat a_defeater s_ins s_outs a_order s_ordered a_is a_was s_reading s_isWell a_depths a_ways s_z, caI G a_letters 96 g_letters] sz)) 0 0 (va_A [ceX11 h0 a_w a_kept a_laid s_hasImage a_refusals a_row s_rows a_letters s_lettered a_hit a_lead a_defeat a_defeater s_ins s_outs a_order s_ordered a_is a_was s_reading s_isWell a_depths a_ways s_z, caI G a_letters 96 g_letters] sz) := by
  refine Met.ofW (cc := cX11_letterAt) (maxL := 2) (ret := (some .int)) (by decide) rfl ?_
  intro p e s m args below meth c s₁ B hml hv
  obtain ⟨rfl, hsz, hP, hK, hD0⟩ := hv
  have hx := B.exec
  have hb := B.bytes
  have hr := B.returns
  have hts := atoms_spec (ws := wsX11_letterAt) B.pre
  have hown : s.vm.findClass RX11 = some m.cls := findClass_of_methodNamed B.named
  have hlocks := B.notSynchronized
  subst hsz
  have hD := hD0.self (sz := s.heap.size)
  generalize hAe : va_A [ceX11 h0 a_w a_kept a_laid s_hasImage a_refusals a_row s_rows a_letters s_lettered a_hit a_lead a_defeat a_defeater s_ins s_outs a_order s_ordered a_is a_was s_reading s_isWell a_depths a_ways s_z, caI G a_letters 96 g_letters] s.heap.size = A at hD ⊢
  have hA : ∀ q : Nat, s.heap.size ≤ q → A q := fun q h => by rw [← hAe]; exact Or.inr h
  have hS : va_S A s.heap s.heap [] := va_S.rf
  have hP : va_P G.1 vwCl [ceX11 h0 a_w a_kept a_laid s_hasImage a_refusals a_row s_rows a_letters s_lettered a_hit a_lead a_defeat a_defeater s_ins s_outs a_order s_ordered a_is a_was s_reading s_isWell a_depths a_ways s_z, caI G a_letters 96 g_letters] s.heap := hP
  have hl := lv_entry ([.ref h0, .int x1]) (n := 2) (Nat.le_of_ble_eq_true rfl)
  rw [lg_entry_eq]
  generalize (lg_sl ([.ref h0, .int x1]) ++ List.replicate (2 - (lg_sl ([.ref h0, .int x1])).length) Slot.unset).toArray = ls at hl ⊢
  have hl : lv_has ls 2 [(0, .ref h0), (1, .int x1)] := hl
  have kf0 := hts (.fieldLink RX11 130 "HallOfClaimsModel" "lettered" "I") (List.mem_of_getElem? (i := 1) (by decide +kernel))
  have kf1 := hts (.fieldLink RX11 25 "HallOfClaimsModel" "letters" "[I") (List.mem_of_getElem? (i := 2) (by decide +kernel))
  have ki_X11 : ∀ w ∈ u_ws RX11 TX11 24, w ∈ wsX11_letterAt := by decide +kernel
  unfold wp_X11_letterAt at h
  refine lv_iload_n hx hb dX11_letterAt_0 rfl (lv_at hl 1 rfl) ?_
  refine lv_aload_n hx hb dX11_letterAt_1 rfl (lv_at hl 0 rfl) ?_
  refine va_get (D := G.1) (ci := 9) (v := .int s_lettered) (C := RX11) (T := TX11) (N := 24) hx hb hts ki_X11 hown hK.1 hP 0 rfl rfl 8 (by decide) kf0 (fun _ h9 => h9) rfl dX11_letterAt_2 ?_
  refine lv_icmp_ge (tgt := 17) hx hb dX11_letterAt_5 (by decide) (fun c => ?_) (fun c => ?_)
  · replace h := h.1 c
    refine lv_iconst (v := (-1 : Int32)) hx hb dX11_letterAt_17 kc_m1 ?_
    exact W.iret (v := (-1 : Int32)) hx hb hr (fun t ht hW => ⟨⟨_, (), rfl, h, ⟨by rw [ht]; exact hP, hD⟩⟩, hS.F ht⟩) hS.2.2 dX11_letterAt_18
  · replace h := h.2 c
    refine lv_aload_n hx hb dX11_letterAt_8 rfl (lv_at hl 0 rfl) ?_
    refine va_get (D := G.1) (ci := 9) (v := .ref a_letters) (C := RX11) (T := TX11) (N := 24) hx hb hts ki_X11 hown hK.1 hP 0 rfl rfl 7 (by decide) kf1 (fun _ h9 => h9) rfl dX11_letterAt_9 ?_
    refine lv_iload_n hx hb dX11_letterAt_12 rfl (lv_at hl 1 rfl) ?_
    have hin := h.1
    replace h := h.2
    refine va_iald hx hb hK.1 hP 1 0 rfl rfl hin dX11_letterAt_13 ?_
    refine lv_goto (tgt := 18) hx hb dX11_letterAt_14 (by decide) ?_
    exact W.iret (v := g_letters x1.toNatClampNeg) hx hb hr (fun t ht hW => ⟨⟨_, (), rfl, h, ⟨by rw [ht]; exact hP, hD⟩⟩, hS.F ht⟩) hS.2.2 dX11_letterAt_18
set_option maxHeartbeats 4000000 in
set_option maxRecDepth 100000 in
theorem c_X11_takes (l : Launch) (G : hcG) (h0 : Nat) (a_w : Nat) (a_kept : Nat) (a_laid : Nat) (a_refusals : Nat) (a_row : Nat) (a_letters : Nat) (a_hit : Nat) (a_lead : Nat) (a_defeat : Nat) (a_defeater : Nat) (a_order : Nat) (a_is : Nat) (a_was : Nat) (a_depths : Nat) (a_ways : Nat) (sz : Nat) (s_hasImage : Int32) (s_rows : Int32) (s_lettered : Int32) (s_ins : Int32) (s_outs : Int32) (s_ordered : Int32) (s_reading : Int32) (s_isWell : Int32) (s_z : Int32) (x1 : Int32) (post : Int32 → Int32 → Prop) (h : wp_X11_takes post s_reading s_isWell x1) : Met l yX11_takes wsX11_takes ({ frames := 0, cells := 0, slots := 0, locals := 0 }) (hcPc G [.ref h0, .int x1] [ceX11 h0 a_w a_kept a_laid s_hasImage a_refusals a_row s_rows a_letters s_lettered a_hit a_lead a_defeat a_defeater s_ins s_outs a_order s_ordered a_is a_was s_reading s_isWell a_depths a_ways s_z] sz) (va_Qv (fun u : Int32 × Int32 => post u.1 u.2) (hcB G (va_A [ceX11 h0 a_w a_kept a_laid s_hasImage a_refusals a_row s_rows a_letters s_lettered a_hit a_lead a_defeat a_defeater s_ins s_outs a_order s_ordered a_is a_was s_reading s_isWell a_depths a_ways s_z] sz) (fun u : Int32 × Int32 => [ceX11 h0 a_w a_kept a_laid s_hasImage a_refusals a_row s_rows a_letters s_lettered a_hit a_lead a_defeat a_defeater s_ins s_outs a_order s_ordered a_is a_was u.1 u.2 a_depths a_ways s_z])) (va_A [ceX11 h0 a_w a_kept a_laid s_hasImage a_refusals a_row s_rows a_letters s_lettered a_hit a_lead a_defeat a_defeater s_ins s_outs a_order s_ordered a_is a_was s_reading s_isWell a_depths a_ways s_z] sz)) 0 0 (va_A [ceX11 h0 a_w a_kept a_laid s_hasImage a_refusals a_row s_rows a_letters s_lettered a_hit a_lead a_defeat a_defeater s_ins s_outs a_order s_ordered a_is a_was s_reading s_isWell a_depths a_ways s_z] sz) := by
  refine Met.ofW (cc := cX11_takes) (maxL := 2) (ret := none) (by decide) rfl ?_
  intro p e s m args below meth c s₁ B hml hv
  obtain ⟨rfl, hsz, hP, hK, hD0⟩ := hv
  have hx := B.exec
  have hb := B.bytes
  have hr := B.returns
  have hts := atoms_spec (ws := wsX11_takes) B.pre
  have hown : s.vm.findClass RX11 = some m.cls := findClass_of_methodNamed B.named
  have hlocks := B.notSynchronized
  subst hsz
  have hD := hD0.self (sz := s.heap.size)
  generalize hAe : va_A [ceX11 h0 a_w a_kept a_laid s_hasImage a_refusals a_row s_rows a_letters s_lettered a_hit a_lead a_defeat a_defeater s_ins s_outs a_order s_ordered a_is a_was s_reading s_isWell a_depths a_ways s_z] s.heap.size = A at hD ⊢
  have hA : ∀ q : Nat, s.heap.size ≤ q → A q := fun q h => by rw [← hAe]; exact Or.inr h
  have hS : va_S A s.heap s.heap [] := va_S.rf
  have hP : va_P G.1 vwCl [ceX11 h0 a_w a_kept a_laid s_hasImage a_refusals a_row s_rows a_letters s_lettered a_hit a_lead a_defeat a_defeater s_ins s_outs a_order s_ordered a_is a_was s_reading s_isWell a_depths a_ways s_z] s.heap := hP
  have hl := lv_entry ([.ref h0, .int x1]) (n := 2) (Nat.le_of_ble_eq_true rfl)
  rw [lg_entry_eq]
  generalize (lg_sl ([.ref h0, .int x1]) ++ List.replicate (2 - (lg_sl ([.ref h0, .int x1])).length) Slot.unset).toArray = ls at hl ⊢
  have hl : lv_has ls 2 [(0, .ref h0), (1, .int x1)] := hl
  have kf0 := hts (.fieldLink RX11 133 "HallOfClaimsModel" "isWell" "Z") (List.mem_of_getElem? (i := 1) (by decide +kernel))
  have kf1 := hts (.fieldLink RX11 137 "HallOfClaimsModel" "reading" "I") (List.mem_of_getElem? (i := 2) (by decide +kernel))
  have ki_X11 : ∀ w ∈ u_ws RX11 TX11 24, w ∈ wsX11_takes := by decide +kernel
  have w17 : ∀ (s_reading : Int32) (s_isWell : Int32) (t0 : Int32) , wp_X11_takes_17 post x1 s_reading s_isWell t0 → ∀ (H : Heap) (locs : List Loc) (ls : Array Slot), va_P G.1 vwCl [ceX11 h0 a_w a_kept a_laid s_hasImage a_refusals a_row s_rows a_letters s_lettered a_hit a_lead a_defeat a_defeater s_ins s_outs a_order s_ordered a_is a_was s_reading s_isWell a_depths a_ways s_z] H → va_D A [ceX11 h0 a_w a_kept a_laid s_hasImage a_refusals a_row s_rows a_letters s_lettered a_hit a_lead a_defeat a_defeater s_ins s_outs a_order s_ordered a_is a_was s_reading s_isWell a_depths a_ways s_z] → va_S A s.heap H locs → lv_has ls 2 [(0, .ref h0)] → W p l e (headSpec wsX11_takes ({ frames := 0, cells := 0, slots := 0, locals := 0 })).room s m ([.ref h0, .int x1] : List Value).toArray below meth c H locs 0 0 (MQ below (va_Qv (fun u : Int32 × Int32 => post u.1 u.2) (hcB G A (fun u : Int32 × Int32 => [ceX11 h0 a_w a_kept a_laid s_hasImage a_refusals a_row s_rows a_letters s_lettered a_hit a_lead a_defeat a_defeater s_ins s_outs a_order s_ordered a_is a_was u.1 u.2 a_depths a_ways s_z])) A) ([.ref h0, .int x1] : List Value).toArray s 0 0 A) (F0 m 17 ls [.int t0, .ref h0]) := by
    intro s_reading s_isWell t0 h H locs ls hP hD hS hl
    unfold wp_X11_takes_17 at h
    have hz := h.1
    replace h := h.2
    refine va_put (D := G.1) (ci := 9) (v := .int t0) (ty := .boolean) (C := RX11) (T := TX11) (N := 24) hx hb hts ki_X11 tyX11 tyX11_ok nmX11 hown hK.1 hP hD hS 0 rfl rfl 20 (by decide) kf0 (fun _ h9 => h9) rfl (by decide +kernel) (hc_nar hz) (hc_fit hz) (Nat.le_of_ble_eq_true rfl) dX11_takes_17 (fun H locs hP hD hS => ?_)
    have hP : va_P G.1 vwCl [ceX11 h0 a_w a_kept a_laid s_hasImage a_refusals a_row s_rows a_letters s_lettered a_hit a_lead a_defeat a_defeater s_ins s_outs a_order s_ordered a_is a_was s_reading t0 a_depths a_ways s_z] H := hP
    have hD : va_D A [ceX11 h0 a_w a_kept a_laid s_hasImage a_refusals a_row s_rows a_letters s_lettered a_hit a_lead a_defeat a_defeater s_ins s_outs a_order s_ordered a_is a_was s_reading t0 a_depths a_ways s_z] := hD
    refine lv_aload_n hx hb dX11_takes_20 rfl (lv_at hl 0 rfl) ?_
    refine lv_dup hx hb dX11_takes_21 rfl ?_
    refine va_get (D := G.1) (ci := 9) (v := .int s_reading) (C := RX11) (T := TX11) (N := 24) hx hb hts ki_X11 hown hK.1 hP 0 rfl rfl 19 (by decide) kf1 (fun _ h9 => h9) rfl dX11_takes_22 ?_
    refine lv_aload_n hx hb dX11_takes_25 rfl (lv_at hl 0 rfl) ?_
    refine va_get (D := G.1) (ci := 9) (v := .int t0) (C := RX11) (T := TX11) (N := 24) hx hb hts ki_X11 hown hK.1 hP 0 rfl rfl 20 (by decide) kf0 (fun _ h9 => h9) rfl dX11_takes_26 ?_
    refine lv_if_eq (tgt := 36) hx hb dX11_takes_29 (by decide) (fun c => ?_) (fun c => ?_)
    · replace h := h.1 c
      refine lv_iconst (v := nI 0) hx hb dX11_takes_36 kc_0 ?_
      refine lv_iadd hx hb dX11_takes_37 ?_
      refine va_put (D := G.1) (ci := 9) (v := .int (s_reading + (nI 0))) (ty := .int) (C := RX11) (T := TX11) (N := 24) hx hb hts ki_X11 tyX11 tyX11_ok nmX11 hown hK.1 hP hD hS 0 rfl rfl 19 (by decide) kf1 (fun _ h9 => h9) rfl (by decide +kernel) rfl rfl (Nat.le_of_ble_eq_true rfl) dX11_takes_38 (fun H locs hP hD hS => ?_)
      have hP : va_P G.1 vwCl [ceX11 h0 a_w a_kept a_laid s_hasImage a_refusals a_row s_rows a_letters s_lettered a_hit a_lead a_defeat a_defeater s_ins s_outs a_order s_ordered a_is a_was (s_reading + (nI 0)) t0 a_depths a_ways s_z] H := hP
      have hD : va_D A [ceX11 h0 a_w a_kept a_laid s_hasImage a_refusals a_row s_rows a_letters s_lettered a_hit a_lead a_defeat a_defeater s_ins s_outs a_order s_ordered a_is a_was (s_reading + (nI 0)) t0 a_depths a_ways s_z] := hD
      exact W.vret hx hb hr (fun t ht hW => ⟨⟨⟨(s_reading + (nI 0)), t0⟩, rfl, h, ⟨by rw [ht]; exact hP, hD⟩⟩, hS.F ht⟩) hS.2.2 dX11_takes_41
    · replace h := h.2 c
      refine lv_iconst (v := nI 1) hx hb dX11_takes_32 kc_1 ?_
      refine lv_goto (tgt := 37) hx hb dX11_takes_33 (by decide) ?_
      refine lv_iadd hx hb dX11_takes_37 ?_
      refine va_put (D := G.1) (ci := 9) (v := .int (s_reading + (nI 1))) (ty := .int) (C := RX11) (T := TX11) (N := 24) hx hb hts ki_X11 tyX11 tyX11_ok nmX11 hown hK.1 hP hD hS 0 rfl rfl 19 (by decide) kf1 (fun _ h9 => h9) rfl (by decide +kernel) rfl rfl (Nat.le_of_ble_eq_true rfl) dX11_takes_38 (fun H locs hP hD hS => ?_)
      have hP : va_P G.1 vwCl [ceX11 h0 a_w a_kept a_laid s_hasImage a_refusals a_row s_rows a_letters s_lettered a_hit a_lead a_defeat a_defeater s_ins s_outs a_order s_ordered a_is a_was (s_reading + (nI 1)) t0 a_depths a_ways s_z] H := hP
      have hD : va_D A [ceX11 h0 a_w a_kept a_laid s_hasImage a_refusals a_row s_rows a_letters s_lettered a_hit a_lead a_defeat a_defeater s_ins s_outs a_order s_ordered a_is a_was (s_reading + (nI 1)) t0 a_depths a_ways s_z] := hD
      exact W.vret hx hb hr (fun t ht hW => ⟨⟨⟨(s_reading + (nI 1)), t0⟩, rfl, h, ⟨by rw [ht]; exact hP, hD⟩⟩, hS.F ht⟩) hS.2.2 dX11_takes_41
  unfold wp_X11_takes at h
  refine lv_aload_n hx hb dX11_takes_0 rfl (lv_at hl 0 rfl) ?_
  refine lv_aload_n hx hb dX11_takes_1 rfl (lv_at hl 0 rfl) ?_
  refine va_get (D := G.1) (ci := 9) (v := .int s_isWell) (C := RX11) (T := TX11) (N := 24) hx hb hts ki_X11 hown hK.1 hP 0 rfl rfl 20 (by decide) kf0 (fun _ h9 => h9) rfl dX11_takes_2 ?_
  refine lv_if_eq (tgt := 16) hx hb dX11_takes_5 (by decide) (fun c => ?_) (fun c => ?_)
  · replace h := h.1 c
    refine lv_iconst (v := nI 0) hx hb dX11_takes_16 kc_0 ?_
    exact w17  s_reading s_isWell (nI 0) h _ _ _ hP hD hS (lv_sub hl [0] rfl)
  · replace h := h.2 c
    refine lv_iload_n hx hb dX11_takes_8 rfl (lv_at hl 1 rfl) ?_
    refine lv_if_eq (tgt := 16) hx hb dX11_takes_9 (by decide) (fun c => ?_) (fun c => ?_)
    · replace h := h.1 c
      refine lv_iconst (v := nI 0) hx hb dX11_takes_16 kc_0 ?_
      exact w17  s_reading s_isWell (nI 0) h _ _ _ hP hD hS (lv_sub hl [0] rfl)
    · replace h := h.2 c
      refine lv_iconst (v := nI 1) hx hb dX11_takes_12 kc_1 ?_
      refine lv_goto (tgt := 17) hx hb dX11_takes_13 (by decide) ?_
      exact w17  s_reading s_isWell (nI 1) h _ _ _ hP hD hS (lv_sub hl [0] rfl)
set_option maxHeartbeats 4000000 in
set_option maxRecDepth 100000 in
theorem c_X11_takesDigits (l : Launch) (G : hcG) (h0 : Nat) (a_w : Nat) (a_kept : Nat) (a_laid : Nat) (a_refusals : Nat) (a_row : Nat) (a_letters : Nat) (a_hit : Nat) (a_lead : Nat) (a_defeat : Nat) (a_defeater : Nat) (a_order : Nat) (a_is : Nat) (a_was : Nat) (a_depths : Nat) (a_ways : Nat) (sz : Nat) (s_hasImage : Int32) (s_rows : Int32) (s_lettered : Int32) (s_ins : Int32) (s_outs : Int32) (s_ordered : Int32) (s_reading : Int32) (s_isWell : Int32) (s_z : Int32) (g_letters : Nat → Int32) (x1 : Int32) (post : Int32 → Int32 → Prop) (h : wp_X11_takesDigits post g_letters s_lettered s_reading s_isWell x1) : Met l yX11_takesDigits wsX11_takesDigits ({ frames := 1, cells := 0, slots := 0, locals := 25 }) (hcPc G [.ref h0, .int x1] [ceX11 h0 a_w a_kept a_laid s_hasImage a_refusals a_row s_rows a_letters s_lettered a_hit a_lead a_defeat a_defeater s_ins s_outs a_order s_ordered a_is a_was s_reading s_isWell a_depths a_ways s_z, caI G a_letters 96 g_letters] sz) (va_Qv (fun u : Int32 × Int32 => post u.1 u.2) (hcB G (va_A [ceX11 h0 a_w a_kept a_laid s_hasImage a_refusals a_row s_rows a_letters s_lettered a_hit a_lead a_defeat a_defeater s_ins s_outs a_order s_ordered a_is a_was s_reading s_isWell a_depths a_ways s_z, caI G a_letters 96 g_letters] sz) (fun u : Int32 × Int32 => [ceX11 h0 a_w a_kept a_laid s_hasImage a_refusals a_row s_rows a_letters s_lettered a_hit a_lead a_defeat a_defeater s_ins s_outs a_order s_ordered a_is a_was u.1 u.2 a_depths a_ways s_z, caI G a_letters 96 g_letters])) (va_A [ceX11 h0 a_w a_kept a_laid s_hasImage a_refusals a_row s_rows a_letters s_lettered a_hit a_lead a_defeat a_defeater s_ins s_outs a_order s_ordered a_is a_was s_reading s_isWell a_depths a_ways s_z, caI G a_letters 96 g_letters] sz)) 0 0 (va_A [ceX11 h0 a_w a_kept a_laid s_hasImage a_refusals a_row s_rows a_letters s_lettered a_hit a_lead a_defeat a_defeater s_ins s_outs a_order s_ordered a_is a_was s_reading s_isWell a_depths a_ways s_z, caI G a_letters 96 g_letters] sz) := by
  refine Met.ofW (cc := cX11_takesDigits) (maxL := 3) (ret := none) (by decide) rfl ?_
  intro p e s m args below meth c s₁ B hml hv
  obtain ⟨rfl, hsz, hP, hK, hD0⟩ := hv
  have hx := B.exec
  have hb := B.bytes
  have hr := B.returns
  have hts := atoms_spec (ws := wsX11_takesDigits) B.pre
  have hown : s.vm.findClass RX11 = some m.cls := findClass_of_methodNamed B.named
  have hlocks := B.notSynchronized
  subst hsz
  have hD := hD0.self (sz := s.heap.size)
  generalize hAe : va_A [ceX11 h0 a_w a_kept a_laid s_hasImage a_refusals a_row s_rows a_letters s_lettered a_hit a_lead a_defeat a_defeater s_ins s_outs a_order s_ordered a_is a_was s_reading s_isWell a_depths a_ways s_z, caI G a_letters 96 g_letters] s.heap.size = A at hD ⊢
  have hA : ∀ q : Nat, s.heap.size ≤ q → A q := fun q h => by rw [← hAe]; exact Or.inr h
  have hS : va_S A s.heap s.heap [] := va_S.rf
  have hP : va_P G.1 vwCl [ceX11 h0 a_w a_kept a_laid s_hasImage a_refusals a_row s_rows a_letters s_lettered a_hit a_lead a_defeat a_defeater s_ins s_outs a_order s_ordered a_is a_was s_reading s_isWell a_depths a_ways s_z, caI G a_letters 96 g_letters] s.heap := hP
  have hl := lv_entry ([.ref h0, .int x1]) (n := 3) (Nat.le_of_ble_eq_true rfl)
  rw [lg_entry_eq]
  generalize (lg_sl ([.ref h0, .int x1]) ++ List.replicate (3 - (lg_sl ([.ref h0, .int x1])).length) Slot.unset).toArray = ls at hl ⊢
  have hl : lv_has ls 3 [(0, .ref h0), (1, .int x1)] := hl
  have kf0 := hts (.fieldLink RX11 137 "HallOfClaimsModel" "reading" "I") (List.mem_of_getElem? (i := 1) (by decide +kernel))
  have kf1 := hts (.constantLong RX11 143 (48)) (List.mem_of_getElem? (i := 2) (by decide +kernel))
  have kf2 := hts (.constantLong RX11 145 (57)) (List.mem_of_getElem? (i := 3) (by decide +kernel))
  have ki_X11 : ∀ w ∈ u_ws RX11 TX11 24, w ∈ wsX11_takesDigits := by decide +kernel
  have w2 : ∀ (n : Nat) (v2 : Int32) (s_reading : Int32) (s_isWell : Int32) , wp_X11_takesDigits_2 post g_letters s_lettered x1 n v2 s_reading s_isWell → ∀ (H : Heap) (locs : List Loc) (ls : Array Slot), va_P G.1 vwCl [ceX11 h0 a_w a_kept a_laid s_hasImage a_refusals a_row s_rows a_letters s_lettered a_hit a_lead a_defeat a_defeater s_ins s_outs a_order s_ordered a_is a_was s_reading s_isWell a_depths a_ways s_z, caI G a_letters 96 g_letters] H → va_D A [ceX11 h0 a_w a_kept a_laid s_hasImage a_refusals a_row s_rows a_letters s_lettered a_hit a_lead a_defeat a_defeater s_ins s_outs a_order s_ordered a_is a_was s_reading s_isWell a_depths a_ways s_z, caI G a_letters 96 g_letters] → va_S A s.heap H locs → lv_has ls 3 [(0, .ref h0), (1, .int x1), (2, .int v2)] → W p l e (headSpec wsX11_takesDigits ({ frames := 1, cells := 0, slots := 0, locals := 25 })).room s m ([.ref h0, .int x1] : List Value).toArray below meth c H locs 0 0 (MQ below (va_Qv (fun u : Int32 × Int32 => post u.1 u.2) (hcB G A (fun u : Int32 × Int32 => [ceX11 h0 a_w a_kept a_laid s_hasImage a_refusals a_row s_rows a_letters s_lettered a_hit a_lead a_defeat a_defeater s_ins s_outs a_order s_ordered a_is a_was u.1 u.2 a_depths a_ways s_z, caI G a_letters 96 g_letters])) A) ([.ref h0, .int x1] : List Value).toArray s 0 0 A) (F0 m 2 ls []) := by
    intro n
    induction n with
    | zero => intro v2 s_reading s_isWell h; exact h.elim
    | succ n ih =>
      intro v2 s_reading s_isWell h H locs ls hP hD hS hl
      unfold wp_X11_takesDigits_2 at h
      refine lv_iload_n hx hb dX11_takesDigits_2 rfl (lv_at hl 2 rfl) ?_
      refine lv_iload_n hx hb dX11_takesDigits_3 rfl (lv_at hl 1 rfl) ?_
      refine lv_icmp_ge (tgt := 35) hx hb dX11_takesDigits_4 (by decide) (fun c => ?_) (fun c => ?_)
      · replace h := h.1 c
        exact W.vret hx hb hr (fun t ht hW => ⟨⟨⟨s_reading, s_isWell⟩, rfl, h, ⟨by rw [ht]; exact hP, hD⟩⟩, hS.F ht⟩) hS.2.2 dX11_takesDigits_35
      · replace h := h.2 c
        refine lv_aload_n hx hb dX11_takesDigits_7 rfl (lv_at hl 0 rfl) ?_
        refine lv_aload_n hx hb dX11_takesDigits_8 rfl (lv_at hl 0 rfl) ?_
        refine lv_aload_n hx hb dX11_takesDigits_9 rfl (lv_at hl 0 rfl) ?_
        refine va_get (D := G.1) (ci := 9) (v := .int s_reading) (C := RX11) (T := TX11) (N := 24) hx hb hts ki_X11 hown hK.1 hP 0 rfl rfl 19 (by decide) kf0 (fun _ h9 => h9) rfl dX11_takesDigits_10 ?_
        refine hc_ki (wr := []) (va_runV (As := [.int s_reading]) (rest := [.ref h0]) ⟨hx, hb, hml, hown, hts⟩ (c_X11_letterAt l G h0 a_w a_kept a_laid a_refusals a_row a_letters a_hit a_lead a_defeat a_defeater a_order a_is a_was a_depths a_ways H.size s_hasImage s_rows s_lettered s_ins s_outs s_ordered s_reading s_isWell s_z g_letters s_reading _ h) (cwV 1 hts gX11_takesDigits_X11_letterAt rfl rfl rfl (by decide +kernel) ⟨Nat.le_of_ble_eq_true rfl, Nat.le_of_ble_eq_true rfl⟩) (hc_pV hK hP hD [0, 1] rfl rfl (ci := 9) 0 rfl rfl) rfl rfl hl.1 rfl (lv_room (Nat.le_of_ble_eq_true rfl)) dX11_takesDigits_13 ⟨Nat.le_refl _, Nat.le_refl _⟩) hP hD hS hA [0, 1] [] rfl rfl rfl (by decide) (fun r13 u H locs h hP hD hS => ?_)
        try dsimp only at h
        have hP : va_P G.1 vwCl [ceX11 h0 a_w a_kept a_laid s_hasImage a_refusals a_row s_rows a_letters s_lettered a_hit a_lead a_defeat a_defeater s_ins s_outs a_order s_ordered a_is a_was s_reading s_isWell a_depths a_ways s_z, caI G a_letters 96 g_letters] H := hP
        have hD : va_D A [ceX11 h0 a_w a_kept a_laid s_hasImage a_refusals a_row s_rows a_letters s_lettered a_hit a_lead a_defeat a_defeater s_ins s_outs a_order s_ordered a_is a_was s_reading s_isWell a_depths a_ways s_z, caI G a_letters 96 g_letters] := hD
        refine lv_i2l (v := r13.toInt64) hx hb dX11_takesDigits_16 rfl ?_
        refine lv_ldc2 (own := RX11) (v := 48) hx hb hown kf1 dX11_takesDigits_17 ?_
        refine lv_ldc2 (own := RX11) (v := 57) hx hb hown kf2 dX11_takesDigits_20 ?_
        refine hc_ki (wr := [ceX11 h0 a_w a_kept a_laid s_hasImage a_refusals a_row s_rows a_letters s_lettered a_hit a_lead a_defeat a_defeater s_ins s_outs a_order s_ordered a_is a_was s_reading s_isWell a_depths a_ways s_z, caI G a_letters 96 g_letters]) (va_runS (As := [.long r13.toInt64, .long ((48 : Int64)), .long ((57 : Int64))]) (rest := [.ref h0]) ⟨hx, hb, hml, hown, hts⟩ (c_X11_in l G H.size r13.toInt64 ((48 : Int64)) ((57 : Int64)) _ h) (va_cwS 3 hts gX11_takesDigits_X11_in rfl rfl rfl (by decide +kernel) ⟨Nat.le_of_ble_eq_true rfl, Nat.le_of_ble_eq_true rfl⟩) (hc_pS hK hP hD [] rfl rfl) rfl rfl hl.1 rfl (lv_room (Nat.le_of_ble_eq_true rfl)) dX11_takesDigits_23 ⟨Nat.le_refl _, Nat.le_refl _⟩) hP hD hS hA [] [0, 1] rfl rfl rfl (by decide) (fun r23 u H locs h hP hD hS => ?_)
        try dsimp only at h
        have hP : va_P G.1 vwCl [ceX11 h0 a_w a_kept a_laid s_hasImage a_refusals a_row s_rows a_letters s_lettered a_hit a_lead a_defeat a_defeater s_ins s_outs a_order s_ordered a_is a_was s_reading s_isWell a_depths a_ways s_z, caI G a_letters 96 g_letters] H := hP
        have hD : va_D A [ceX11 h0 a_w a_kept a_laid s_hasImage a_refusals a_row s_rows a_letters s_lettered a_hit a_lead a_defeat a_defeater s_ins s_outs a_order s_ordered a_is a_was s_reading s_isWell a_depths a_ways s_z, caI G a_letters 96 g_letters] := hD
        refine hc_kv (wr := [caI G a_letters 96 g_letters]) (va_runV (As := [.int r23]) (rest := []) ⟨hx, hb, hml, hown, hts⟩ (c_X11_takes l G h0 a_w a_kept a_laid a_refusals a_row a_letters a_hit a_lead a_defeat a_defeater a_order a_is a_was a_depths a_ways H.size s_hasImage s_rows s_lettered s_ins s_outs s_ordered s_reading s_isWell s_z r23 _ h) (cwV 1 hts gX11_takesDigits_X11_takes rfl rfl rfl (by decide +kernel) ⟨Nat.le_of_ble_eq_true rfl, Nat.le_of_ble_eq_true rfl⟩) (hc_pV hK hP hD [0] rfl rfl (ci := 9) 0 rfl rfl) rfl rfl hl.1 rfl (lv_room (Nat.le_of_ble_eq_true rfl)) dX11_takesDigits_26 ⟨Nat.le_refl _, Nat.le_refl _⟩) hP hD hS hA [0] [1] rfl rfl rfl (by decide) (fun u H locs h hP hD hS => ?_)
        obtain ⟨s_reading_26, s_isWell_26⟩ := u
        try dsimp only at h
        have hP : va_P G.1 vwCl [caI G a_letters 96 g_letters, ceX11 h0 a_w a_kept a_laid s_hasImage a_refusals a_row s_rows a_letters s_lettered a_hit a_lead a_defeat a_defeater s_ins s_outs a_order s_ordered a_is a_was s_reading_26 s_isWell_26 a_depths a_ways s_z] H := hP
        have hD : va_D A [caI G a_letters 96 g_letters, ceX11 h0 a_w a_kept a_laid s_hasImage a_refusals a_row s_rows a_letters s_lettered a_hit a_lead a_defeat a_defeater s_ins s_outs a_order s_ordered a_is a_was s_reading_26 s_isWell_26 a_depths a_ways s_z] := hD
        refine lv_iinc (v := v2 + nI 1) (lv' := [(2, .int (v2 + nI 1)), (0, .ref h0), (1, .int x1)]) hx hb dX11_takesDigits_29 hl (k := 2) rfl (congrArg (fun q => v2 + q) kc_1) (by decide) rfl (fun ls hl => ?_)
        refine lv_goto (tgt := 2) hx hb dX11_takesDigits_32 (by decide) ?_
        exact ih (v2 + nI 1) s_reading_26 s_isWell_26 h _ _ _ (hP.sub [1, 0] rfl) (hD.sub [1, 0] (by decide) rfl) hS (lv_sub hl [1, 2, 0] rfl)
  unfold wp_X11_takesDigits at h
  refine lv_iconst (v := nI 0) hx hb dX11_takesDigits_0 kc_0 ?_
  refine lv_istore_n (lv' := [(2, .int (nI 0)), (0, .ref h0), (1, .int x1)]) hx hb dX11_takesDigits_1 rfl hl (by decide) rfl (fun ls hl => ?_)
  obtain ⟨n2, h⟩ := h
  exact w2  n2 (nI 0) s_reading s_isWell h _ _ _ hP hD hS (lv_sub hl [1, 2, 0] rfl)
set_option maxHeartbeats 4000000 in
set_option maxRecDepth 100000 in
theorem c_X11_isNamed (l : Launch) (G : hcG) (sz : Nat) (x0 : Int32) (post : Int32 → Prop) (h : wp_X11_isNamed post x0) : Met l yX11_isNamed wsX11_isNamed ({ frames := 1, cells := 0, slots := 0, locals := 25 }) (hcPc G [.int x0] [] sz) (va_Qi (fun (r : Int32) (u : Unit) => post r) (hcB G (va_A [] sz) (fun u : Unit => [])) (va_A [] sz)) 0 0 (va_A [] sz) := by
  refine Met.ofW (cc := cX11_isNamed) (maxL := 1) (ret := (some .boolean)) (by decide) rfl ?_
  intro p e s m args below meth c s₁ B hml hv
  obtain ⟨rfl, hsz, hP, hK, hD0⟩ := hv
  have hx := B.exec
  have hb := B.bytes
  have hr := B.returns
  have hts := atoms_spec (ws := wsX11_isNamed) B.pre
  have hown : s.vm.findClass RX11 = some m.cls := findClass_of_methodNamed B.named
  have hlocks := B.notSynchronized
  subst hsz
  have hD := hD0.self (sz := s.heap.size)
  generalize hAe : va_A [] s.heap.size = A at hD ⊢
  have hA : ∀ q : Nat, s.heap.size ≤ q → A q := fun q h => by rw [← hAe]; exact Or.inr h
  have hS : va_S A s.heap s.heap [] := va_S.rf
  have hP : va_P G.1 vwCl [] s.heap := hP
  have hl := lv_entry ([.int x0]) (n := 1) (Nat.le_of_ble_eq_true rfl)
  rw [lg_entry_eq]
  generalize (lg_sl ([.int x0]) ++ List.replicate (1 - (lg_sl ([.int x0])).length) Slot.unset).toArray = ls at hl ⊢
  have hl : lv_has ls 1 [(0, .int x0)] := hl
  have kf0 := hts (.constantLong RX11 151 (97)) (List.mem_of_getElem? (i := 1) (by decide +kernel))
  have kf1 := hts (.constantLong RX11 153 (122)) (List.mem_of_getElem? (i := 2) (by decide +kernel))
  unfold wp_X11_isNamed at h
  refine lv_iload_n hx hb dX11_isNamed_0 rfl (lv_at hl 0 rfl) ?_
  refine lv_i2l (v := x0.toInt64) hx hb dX11_isNamed_1 rfl ?_
  refine lv_ldc2 (own := RX11) (v := 97) hx hb hown kf0 dX11_isNamed_2 ?_
  refine lv_ldc2 (own := RX11) (v := 122) hx hb hown kf1 dX11_isNamed_5 ?_
  refine hc_ki (wr := []) (va_runS (As := [.long x0.toInt64, .long ((97 : Int64)), .long ((122 : Int64))]) (rest := []) ⟨hx, hb, hml, hown, hts⟩ (c_X11_in l G s.heap.size x0.toInt64 ((97 : Int64)) ((122 : Int64)) _ h) (va_cwS 3 hts gX11_isNamed_X11_in rfl rfl rfl (by decide +kernel) ⟨Nat.le_of_ble_eq_true rfl, Nat.le_of_ble_eq_true rfl⟩) (hc_pS hK hP hD [] rfl rfl) rfl rfl hl.1 rfl (lv_room (Nat.le_of_ble_eq_true rfl)) dX11_isNamed_8 ⟨Nat.le_refl _, Nat.le_refl _⟩) hP hD hS hA [] [] rfl rfl rfl (by decide) (fun r8 u H locs h hP hD hS => ?_)
  try dsimp only at h
  have hP : va_P G.1 vwCl [] H := hP
  have hD : va_D A [] := hD
  refine lv_if_eq (tgt := 24) hx hb dX11_isNamed_11 (by decide) (fun c => ?_) (fun c => ?_)
  · replace h := h.1 c
    refine lv_iconst (v := nI 0) hx hb dX11_isNamed_24 kc_0 ?_
    exact W.zret (v := nI 0) hx hb hr rfl (fun t ht hW => ⟨⟨_, (), rfl, h, ⟨by rw [ht]; exact hP, hD⟩⟩, hS.F ht⟩) hS.2.2 dX11_isNamed_25
  · replace h := h.2 c
    refine lv_iload_n hx hb dX11_isNamed_14 rfl (lv_at hl 0 rfl) ?_
    refine lv_bipush (v := nI 109) hx hb dX11_isNamed_15 kb_109 ?_
    refine lv_icmp_eq (tgt := 24) hx hb dX11_isNamed_17 (by decide) (fun c => ?_) (fun c => ?_)
    · replace h := h.1 c
      refine lv_iconst (v := nI 0) hx hb dX11_isNamed_24 kc_0 ?_
      exact W.zret (v := nI 0) hx hb hr rfl (fun t ht hW => ⟨⟨_, (), rfl, h, ⟨by rw [ht]; exact hP, hD⟩⟩, hS.F ht⟩) hS.2.2 dX11_isNamed_25
    · replace h := h.2 c
      refine lv_iconst (v := nI 1) hx hb dX11_isNamed_20 kc_1 ?_
      refine lv_goto (tgt := 25) hx hb dX11_isNamed_21 (by decide) ?_
      exact W.zret (v := nI 1) hx hb hr rfl (fun t ht hW => ⟨⟨_, (), rfl, h, ⟨by rw [ht]; exact hP, hD⟩⟩, hS.F ht⟩) hS.2.2 dX11_isNamed_25
set_option maxHeartbeats 4000000 in
set_option maxRecDepth 100000 in
theorem c_X11_isLink (l : Launch) (G : hcG) (sz : Nat) (x0 : Int32) (post : Int32 → Prop) (h : wp_X11_isLink post x0) : Met l yX11_isLink wsX11_isLink ({ frames := 0, cells := 0, slots := 0, locals := 0 }) (hcPc G [.int x0] [] sz) (va_Qi (fun (r : Int32) (u : Unit) => post r) (hcB G (va_A [] sz) (fun u : Unit => [])) (va_A [] sz)) 0 0 (va_A [] sz) := by
  refine Met.ofW (cc := cX11_isLink) (maxL := 1) (ret := (some .boolean)) (by decide) rfl ?_
  intro p e s m args below meth c s₁ B hml hv
  obtain ⟨rfl, hsz, hP, hK, hD0⟩ := hv
  have hx := B.exec
  have hb := B.bytes
  have hr := B.returns
  have hts := atoms_spec (ws := wsX11_isLink) B.pre
  have hown : s.vm.findClass RX11 = some m.cls := findClass_of_methodNamed B.named
  have hlocks := B.notSynchronized
  subst hsz
  have hD := hD0.self (sz := s.heap.size)
  generalize hAe : va_A [] s.heap.size = A at hD ⊢
  have hA : ∀ q : Nat, s.heap.size ≤ q → A q := fun q h => by rw [← hAe]; exact Or.inr h
  have hS : va_S A s.heap s.heap [] := va_S.rf
  have hP : va_P G.1 vwCl [] s.heap := hP
  have hl := lv_entry ([.int x0]) (n := 1) (Nat.le_of_ble_eq_true rfl)
  rw [lg_entry_eq]
  generalize (lg_sl ([.int x0]) ++ List.replicate (1 - (lg_sl ([.int x0])).length) Slot.unset).toArray = ls at hl ⊢
  have hl : lv_has ls 1 [(0, .int x0)] := hl
  unfold wp_X11_isLink at h
  refine lv_iload_n hx hb dX11_isLink_0 rfl (lv_at hl 0 rfl) ?_
  refine lv_bipush (v := nI 62) hx hb dX11_isLink_1 kb_62 ?_
  refine lv_icmp_eq (tgt := 12) hx hb dX11_isLink_3 (by decide) (fun c => ?_) (fun c => ?_)
  · replace h := h.1 c
    refine lv_iconst (v := nI 1) hx hb dX11_isLink_12 kc_1 ?_
    refine lv_goto (tgt := 17) hx hb dX11_isLink_13 (by decide) ?_
    exact W.zret (v := nI 1) hx hb hr rfl (fun t ht hW => ⟨⟨_, (), rfl, h, ⟨by rw [ht]; exact hP, hD⟩⟩, hS.F ht⟩) hS.2.2 dX11_isLink_17
  · replace h := h.2 c
    refine lv_iload_n hx hb dX11_isLink_6 rfl (lv_at hl 0 rfl) ?_
    refine lv_bipush (v := nI 43) hx hb dX11_isLink_7 kb_43 ?_
    refine lv_icmp_ne (tgt := 16) hx hb dX11_isLink_9 (by decide) (fun c => ?_) (fun c => ?_)
    · replace h := h.1 c
      refine lv_iconst (v := nI 0) hx hb dX11_isLink_16 kc_0 ?_
      exact W.zret (v := nI 0) hx hb hr rfl (fun t ht hW => ⟨⟨_, (), rfl, h, ⟨by rw [ht]; exact hP, hD⟩⟩, hS.F ht⟩) hS.2.2 dX11_isLink_17
    · replace h := h.2 c
      refine lv_iconst (v := nI 1) hx hb dX11_isLink_12 kc_1 ?_
      refine lv_goto (tgt := 17) hx hb dX11_isLink_13 (by decide) ?_
      exact W.zret (v := nI 1) hx hb hr rfl (fun t ht hW => ⟨⟨_, (), rfl, h, ⟨by rw [ht]; exact hP, hD⟩⟩, hS.F ht⟩) hS.2.2 dX11_isLink_17
set_option maxHeartbeats 4000000 in
set_option maxRecDepth 100000 in
theorem c_X11_takesLinks (l : Launch) (G : hcG) (h0 : Nat) (a_w : Nat) (a_kept : Nat) (a_laid : Nat) (a_refusals : Nat) (a_row : Nat) (a_letters : Nat) (a_hit : Nat) (a_lead : Nat) (a_defeat : Nat) (a_defeater : Nat) (a_order : Nat) (a_is : Nat) (a_was : Nat) (a_depths : Nat) (a_ways : Nat) (sz : Nat) (s_hasImage : Int32) (s_rows : Int32) (s_lettered : Int32) (s_ins : Int32) (s_outs : Int32) (s_ordered : Int32) (s_reading : Int32) (s_isWell : Int32) (s_z : Int32) (g_letters : Nat → Int32) (post : Int32 → Int32 → Prop) (h : wp_X11_takesLinks post g_letters s_lettered s_reading s_isWell) : Met l yX11_takesLinks wsX11_takesLinks ({ frames := 2, cells := 0, slots := 0, locals := 45 }) (hcPc G [.ref h0] [ceX11 h0 a_w a_kept a_laid s_hasImage a_refusals a_row s_rows a_letters s_lettered a_hit a_lead a_defeat a_defeater s_ins s_outs a_order s_ordered a_is a_was s_reading s_isWell a_depths a_ways s_z, caI G a_letters 96 g_letters] sz) (va_Qv (fun u : Int32 × Int32 => post u.1 u.2) (hcB G (va_A [ceX11 h0 a_w a_kept a_laid s_hasImage a_refusals a_row s_rows a_letters s_lettered a_hit a_lead a_defeat a_defeater s_ins s_outs a_order s_ordered a_is a_was s_reading s_isWell a_depths a_ways s_z, caI G a_letters 96 g_letters] sz) (fun u : Int32 × Int32 => [ceX11 h0 a_w a_kept a_laid s_hasImage a_refusals a_row s_rows a_letters s_lettered a_hit a_lead a_defeat a_defeater s_ins s_outs a_order s_ordered a_is a_was u.1 u.2 a_depths a_ways s_z, caI G a_letters 96 g_letters])) (va_A [ceX11 h0 a_w a_kept a_laid s_hasImage a_refusals a_row s_rows a_letters s_lettered a_hit a_lead a_defeat a_defeater s_ins s_outs a_order s_ordered a_is a_was s_reading s_isWell a_depths a_ways s_z, caI G a_letters 96 g_letters] sz)) 0 0 (va_A [ceX11 h0 a_w a_kept a_laid s_hasImage a_refusals a_row s_rows a_letters s_lettered a_hit a_lead a_defeat a_defeater s_ins s_outs a_order s_ordered a_is a_was s_reading s_isWell a_depths a_ways s_z, caI G a_letters 96 g_letters] sz) := by
  refine Met.ofW (cc := cX11_takesLinks) (maxL := 1) (ret := none) (by decide) rfl ?_
  intro p e s m args below meth c s₁ B hml hv
  obtain ⟨rfl, hsz, hP, hK, hD0⟩ := hv
  have hx := B.exec
  have hb := B.bytes
  have hr := B.returns
  have hts := atoms_spec (ws := wsX11_takesLinks) B.pre
  have hown : s.vm.findClass RX11 = some m.cls := findClass_of_methodNamed B.named
  have hlocks := B.notSynchronized
  subst hsz
  have hD := hD0.self (sz := s.heap.size)
  generalize hAe : va_A [ceX11 h0 a_w a_kept a_laid s_hasImage a_refusals a_row s_rows a_letters s_lettered a_hit a_lead a_defeat a_defeater s_ins s_outs a_order s_ordered a_is a_was s_reading s_isWell a_depths a_ways s_z, caI G a_letters 96 g_letters] s.heap.size = A at hD ⊢
  have hA : ∀ q : Nat, s.heap.size ≤ q → A q := fun q h => by rw [← hAe]; exact Or.inr h
  have hS : va_S A s.heap s.heap [] := va_S.rf
  have hP : va_P G.1 vwCl [ceX11 h0 a_w a_kept a_laid s_hasImage a_refusals a_row s_rows a_letters s_lettered a_hit a_lead a_defeat a_defeater s_ins s_outs a_order s_ordered a_is a_was s_reading s_isWell a_depths a_ways s_z, caI G a_letters 96 g_letters] s.heap := hP
  have hl := lv_entry ([.ref h0]) (n := 1) (Nat.le_of_ble_eq_true rfl)
  rw [lg_entry_eq]
  generalize (lg_sl ([.ref h0]) ++ List.replicate (1 - (lg_sl ([.ref h0])).length) Slot.unset).toArray = ls at hl ⊢
  have hl : lv_has ls 1 [(0, .ref h0)] := hl
  have kf0 := hts (.fieldLink RX11 137 "HallOfClaimsModel" "reading" "I") (List.mem_of_getElem? (i := 1) (by decide +kernel))
  have kf1 := hts (.fieldLink RX11 133 "HallOfClaimsModel" "isWell" "Z") (List.mem_of_getElem? (i := 2) (by decide +kernel))
  have ki_X11 : ∀ w ∈ u_ws RX11 TX11 24, w ∈ wsX11_takesLinks := by decide +kernel
  have w30 : ∀ (n : Nat) (s_reading : Int32) (s_isWell : Int32) , wp_X11_takesLinks_30 post g_letters s_lettered n s_reading s_isWell → ∀ (H : Heap) (locs : List Loc) (ls : Array Slot), va_P G.1 vwCl [ceX11 h0 a_w a_kept a_laid s_hasImage a_refusals a_row s_rows a_letters s_lettered a_hit a_lead a_defeat a_defeater s_ins s_outs a_order s_ordered a_is a_was s_reading s_isWell a_depths a_ways s_z, caI G a_letters 96 g_letters] H → va_D A [ceX11 h0 a_w a_kept a_laid s_hasImage a_refusals a_row s_rows a_letters s_lettered a_hit a_lead a_defeat a_defeater s_ins s_outs a_order s_ordered a_is a_was s_reading s_isWell a_depths a_ways s_z, caI G a_letters 96 g_letters] → va_S A s.heap H locs → lv_has ls 1 [(0, .ref h0)] → W p l e (headSpec wsX11_takesLinks ({ frames := 2, cells := 0, slots := 0, locals := 45 })).room s m ([.ref h0] : List Value).toArray below meth c H locs 0 0 (MQ below (va_Qv (fun u : Int32 × Int32 => post u.1 u.2) (hcB G A (fun u : Int32 × Int32 => [ceX11 h0 a_w a_kept a_laid s_hasImage a_refusals a_row s_rows a_letters s_lettered a_hit a_lead a_defeat a_defeater s_ins s_outs a_order s_ordered a_is a_was u.1 u.2 a_depths a_ways s_z, caI G a_letters 96 g_letters])) A) ([.ref h0] : List Value).toArray s 0 0 A) (F0 m 30 ls []) := by
    intro n
    induction n with
    | zero => intro s_reading s_isWell h; exact h.elim
    | succ n ih =>
      intro s_reading s_isWell h H locs ls hP hD hS hl
      unfold wp_X11_takesLinks_30 at h
      refine lv_aload_n hx hb dX11_takesLinks_30 rfl (lv_at hl 0 rfl) ?_
      refine va_get (D := G.1) (ci := 9) (v := .int s_isWell) (C := RX11) (T := TX11) (N := 24) hx hb hts ki_X11 hown hK.1 hP 0 rfl rfl 20 (by decide) kf1 (fun _ h9 => h9) rfl dX11_takesLinks_31 ?_
      refine lv_if_eq (tgt := 79) hx hb dX11_takesLinks_34 (by decide) (fun c => ?_) (fun c => ?_)
      · replace h := h.1 c
        exact W.vret hx hb hr (fun t ht hW => ⟨⟨⟨s_reading, s_isWell⟩, rfl, h, ⟨by rw [ht]; exact hP, hD⟩⟩, hS.F ht⟩) hS.2.2 dX11_takesLinks_79
      · replace h := h.2 c
        refine lv_aload_n hx hb dX11_takesLinks_37 rfl (lv_at hl 0 rfl) ?_
        refine lv_aload_n hx hb dX11_takesLinks_38 rfl (lv_at hl 0 rfl) ?_
        refine va_get (D := G.1) (ci := 9) (v := .int s_reading) (C := RX11) (T := TX11) (N := 24) hx hb hts ki_X11 hown hK.1 hP 0 rfl rfl 19 (by decide) kf0 (fun _ h9 => h9) rfl dX11_takesLinks_39 ?_
        refine hc_ki (wr := []) (va_runV (As := [.int s_reading]) (rest := []) ⟨hx, hb, hml, hown, hts⟩ (c_X11_letterAt l G h0 a_w a_kept a_laid a_refusals a_row a_letters a_hit a_lead a_defeat a_defeater a_order a_is a_was a_depths a_ways H.size s_hasImage s_rows s_lettered s_ins s_outs s_ordered s_reading s_isWell s_z g_letters s_reading _ h) (cwV 1 hts gX11_takesLinks_X11_letterAt rfl rfl rfl (by decide +kernel) ⟨Nat.le_of_ble_eq_true rfl, Nat.le_of_ble_eq_true rfl⟩) (hc_pV hK hP hD [0, 1] rfl rfl (ci := 9) 0 rfl rfl) rfl rfl hl.1 rfl (lv_room (Nat.le_of_ble_eq_true rfl)) dX11_takesLinks_42 ⟨Nat.le_refl _, Nat.le_refl _⟩) hP hD hS hA [0, 1] [] rfl rfl rfl (by decide) (fun r42 u H locs h hP hD hS => ?_)
        try dsimp only at h
        have hP : va_P G.1 vwCl [ceX11 h0 a_w a_kept a_laid s_hasImage a_refusals a_row s_rows a_letters s_lettered a_hit a_lead a_defeat a_defeater s_ins s_outs a_order s_ordered a_is a_was s_reading s_isWell a_depths a_ways s_z, caI G a_letters 96 g_letters] H := hP
        have hD : va_D A [ceX11 h0 a_w a_kept a_laid s_hasImage a_refusals a_row s_rows a_letters s_lettered a_hit a_lead a_defeat a_defeater s_ins s_outs a_order s_ordered a_is a_was s_reading s_isWell a_depths a_ways s_z, caI G a_letters 96 g_letters] := hD
        refine hc_ki (wr := [ceX11 h0 a_w a_kept a_laid s_hasImage a_refusals a_row s_rows a_letters s_lettered a_hit a_lead a_defeat a_defeater s_ins s_outs a_order s_ordered a_is a_was s_reading s_isWell a_depths a_ways s_z, caI G a_letters 96 g_letters]) (va_runS (As := [.int r42]) (rest := []) ⟨hx, hb, hml, hown, hts⟩ (c_X11_isLink l G H.size r42 _ h) (va_cwS 1 hts gX11_takesLinks_X11_isLink rfl rfl rfl (by decide +kernel) ⟨Nat.le_of_ble_eq_true rfl, Nat.le_of_ble_eq_true rfl⟩) (hc_pS hK hP hD [] rfl rfl) rfl rfl hl.1 rfl (lv_room (Nat.le_of_ble_eq_true rfl)) dX11_takesLinks_45 ⟨Nat.le_refl _, Nat.le_refl _⟩) hP hD hS hA [] [0, 1] rfl rfl rfl (by decide) (fun r45 u H locs h hP hD hS => ?_)
        try dsimp only at h
        have hP : va_P G.1 vwCl [ceX11 h0 a_w a_kept a_laid s_hasImage a_refusals a_row s_rows a_letters s_lettered a_hit a_lead a_defeat a_defeater s_ins s_outs a_order s_ordered a_is a_was s_reading s_isWell a_depths a_ways s_z, caI G a_letters 96 g_letters] H := hP
        have hD : va_D A [ceX11 h0 a_w a_kept a_laid s_hasImage a_refusals a_row s_rows a_letters s_lettered a_hit a_lead a_defeat a_defeater s_ins s_outs a_order s_ordered a_is a_was s_reading s_isWell a_depths a_ways s_z, caI G a_letters 96 g_letters] := hD
        refine lv_if_eq (tgt := 79) hx hb dX11_takesLinks_48 (by decide) (fun c => ?_) (fun c => ?_)
        · replace h := h.1 c
          exact W.vret hx hb hr (fun t ht hW => ⟨⟨⟨s_reading, s_isWell⟩, rfl, h, ⟨by rw [ht]; exact hP, hD⟩⟩, hS.F ht⟩) hS.2.2 dX11_takesLinks_79
        · replace h := h.2 c
          refine lv_aload_n hx hb dX11_takesLinks_51 rfl (lv_at hl 0 rfl) ?_
          refine lv_dup hx hb dX11_takesLinks_52 rfl ?_
          refine va_get (D := G.1) (ci := 9) (v := .int s_reading) (C := RX11) (T := TX11) (N := 24) hx hb hts ki_X11 hown hK.1 hP 0 rfl rfl 19 (by decide) kf0 (fun _ h9 => h9) rfl dX11_takesLinks_53 ?_
          refine lv_iconst (v := nI 1) hx hb dX11_takesLinks_56 kc_1 ?_
          refine lv_iadd hx hb dX11_takesLinks_57 ?_
          refine va_put (D := G.1) (ci := 9) (v := .int (s_reading + (nI 1))) (ty := .int) (C := RX11) (T := TX11) (N := 24) hx hb hts ki_X11 tyX11 tyX11_ok nmX11 hown hK.1 hP hD hS 0 rfl rfl 19 (by decide) kf0 (fun _ h9 => h9) rfl (by decide +kernel) rfl rfl (Nat.le_of_ble_eq_true rfl) dX11_takesLinks_58 (fun H locs hP hD hS => ?_)
          have hP : va_P G.1 vwCl [ceX11 h0 a_w a_kept a_laid s_hasImage a_refusals a_row s_rows a_letters s_lettered a_hit a_lead a_defeat a_defeater s_ins s_outs a_order s_ordered a_is a_was (s_reading + (nI 1)) s_isWell a_depths a_ways s_z, caI G a_letters 96 g_letters] H := hP
          have hD : va_D A [ceX11 h0 a_w a_kept a_laid s_hasImage a_refusals a_row s_rows a_letters s_lettered a_hit a_lead a_defeat a_defeater s_ins s_outs a_order s_ordered a_is a_was (s_reading + (nI 1)) s_isWell a_depths a_ways s_z, caI G a_letters 96 g_letters] := hD
          refine lv_aload_n hx hb dX11_takesLinks_61 rfl (lv_at hl 0 rfl) ?_
          refine lv_aload_n hx hb dX11_takesLinks_62 rfl (lv_at hl 0 rfl) ?_
          refine lv_aload_n hx hb dX11_takesLinks_63 rfl (lv_at hl 0 rfl) ?_
          refine va_get (D := G.1) (ci := 9) (v := .int (s_reading + (nI 1))) (C := RX11) (T := TX11) (N := 24) hx hb hts ki_X11 hown hK.1 hP 0 rfl rfl 19 (by decide) kf0 (fun _ h9 => h9) rfl dX11_takesLinks_64 ?_
          refine hc_ki (wr := []) (va_runV (As := [.int (s_reading + (nI 1))]) (rest := [.ref h0]) ⟨hx, hb, hml, hown, hts⟩ (c_X11_letterAt l G h0 a_w a_kept a_laid a_refusals a_row a_letters a_hit a_lead a_defeat a_defeater a_order a_is a_was a_depths a_ways H.size s_hasImage s_rows s_lettered s_ins s_outs s_ordered (s_reading + (nI 1)) s_isWell s_z g_letters (s_reading + (nI 1)) _ h) (cwV 1 hts gX11_takesLinks_X11_letterAt rfl rfl rfl (by decide +kernel) ⟨Nat.le_of_ble_eq_true rfl, Nat.le_of_ble_eq_true rfl⟩) (hc_pV hK hP hD [0, 1] rfl rfl (ci := 9) 0 rfl rfl) rfl rfl hl.1 rfl (lv_room (Nat.le_of_ble_eq_true rfl)) dX11_takesLinks_67 ⟨Nat.le_refl _, Nat.le_refl _⟩) hP hD hS hA [0, 1] [] rfl rfl rfl (by decide) (fun r67 u H locs h hP hD hS => ?_)
          try dsimp only at h
          have hP : va_P G.1 vwCl [ceX11 h0 a_w a_kept a_laid s_hasImage a_refusals a_row s_rows a_letters s_lettered a_hit a_lead a_defeat a_defeater s_ins s_outs a_order s_ordered a_is a_was (s_reading + (nI 1)) s_isWell a_depths a_ways s_z, caI G a_letters 96 g_letters] H := hP
          have hD : va_D A [ceX11 h0 a_w a_kept a_laid s_hasImage a_refusals a_row s_rows a_letters s_lettered a_hit a_lead a_defeat a_defeater s_ins s_outs a_order s_ordered a_is a_was (s_reading + (nI 1)) s_isWell a_depths a_ways s_z, caI G a_letters 96 g_letters] := hD
          refine hc_ki (wr := [ceX11 h0 a_w a_kept a_laid s_hasImage a_refusals a_row s_rows a_letters s_lettered a_hit a_lead a_defeat a_defeater s_ins s_outs a_order s_ordered a_is a_was (s_reading + (nI 1)) s_isWell a_depths a_ways s_z, caI G a_letters 96 g_letters]) (va_runS (As := [.int r67]) (rest := [.ref h0]) ⟨hx, hb, hml, hown, hts⟩ (c_X11_isNamed l G H.size r67 _ h) (va_cwS 1 hts gX11_takesLinks_X11_isNamed rfl rfl rfl (by decide +kernel) ⟨Nat.le_of_ble_eq_true rfl, Nat.le_of_ble_eq_true rfl⟩) (hc_pS hK hP hD [] rfl rfl) rfl rfl hl.1 rfl (lv_room (Nat.le_of_ble_eq_true rfl)) dX11_takesLinks_70 ⟨Nat.le_refl _, Nat.le_refl _⟩) hP hD hS hA [] [0, 1] rfl rfl rfl (by decide) (fun r70 u H locs h hP hD hS => ?_)
          try dsimp only at h
          have hP : va_P G.1 vwCl [ceX11 h0 a_w a_kept a_laid s_hasImage a_refusals a_row s_rows a_letters s_lettered a_hit a_lead a_defeat a_defeater s_ins s_outs a_order s_ordered a_is a_was (s_reading + (nI 1)) s_isWell a_depths a_ways s_z, caI G a_letters 96 g_letters] H := hP
          have hD : va_D A [ceX11 h0 a_w a_kept a_laid s_hasImage a_refusals a_row s_rows a_letters s_lettered a_hit a_lead a_defeat a_defeater s_ins s_outs a_order s_ordered a_is a_was (s_reading + (nI 1)) s_isWell a_depths a_ways s_z, caI G a_letters 96 g_letters] := hD
          refine hc_kv (wr := [caI G a_letters 96 g_letters]) (va_runV (As := [.int r70]) (rest := []) ⟨hx, hb, hml, hown, hts⟩ (c_X11_takes l G h0 a_w a_kept a_laid a_refusals a_row a_letters a_hit a_lead a_defeat a_defeater a_order a_is a_was a_depths a_ways H.size s_hasImage s_rows s_lettered s_ins s_outs s_ordered (s_reading + (nI 1)) s_isWell s_z r70 _ h) (cwV 1 hts gX11_takesLinks_X11_takes rfl rfl rfl (by decide +kernel) ⟨Nat.le_of_ble_eq_true rfl, Nat.le_of_ble_eq_true rfl⟩) (hc_pV hK hP hD [0] rfl rfl (ci := 9) 0 rfl rfl) rfl rfl hl.1 rfl (lv_room (Nat.le_of_ble_eq_true rfl)) dX11_takesLinks_73 ⟨Nat.le_refl _, Nat.le_refl _⟩) hP hD hS hA [0] [1] rfl rfl rfl (by decide) (fun u H locs h hP hD hS => ?_)
          obtain ⟨s_reading_73, s_isWell_73⟩ := u
          try dsimp only at h
          have hP : va_P G.1 vwCl [caI G a_letters 96 g_letters, ceX11 h0 a_w a_kept a_laid s_hasImage a_refusals a_row s_rows a_letters s_lettered a_hit a_lead a_defeat a_defeater s_ins s_outs a_order s_ordered a_is a_was s_reading_73 s_isWell_73 a_depths a_ways s_z] H := hP
          have hD : va_D A [caI G a_letters 96 g_letters, ceX11 h0 a_w a_kept a_laid s_hasImage a_refusals a_row s_rows a_letters s_lettered a_hit a_lead a_defeat a_defeater s_ins s_outs a_order s_ordered a_is a_was s_reading_73 s_isWell_73 a_depths a_ways s_z] := hD
          refine lv_goto (tgt := 30) hx hb dX11_takesLinks_76 (by decide) ?_
          exact ih s_reading_73 s_isWell_73 h _ _ _ (hP.sub [1, 0] rfl) (hD.sub [1, 0] (by decide) rfl) hS (lv_sub hl [0] rfl)
  unfold wp_X11_takesLinks at h
  refine lv_aload_n hx hb dX11_takesLinks_0 rfl (lv_at hl 0 rfl) ?_
  refine lv_aload_n hx hb dX11_takesLinks_1 rfl (lv_at hl 0 rfl) ?_
  refine lv_aload_n hx hb dX11_takesLinks_2 rfl (lv_at hl 0 rfl) ?_
  refine va_get (D := G.1) (ci := 9) (v := .int s_reading) (C := RX11) (T := TX11) (N := 24) hx hb hts ki_X11 hown hK.1 hP 0 rfl rfl 19 (by decide) kf0 (fun _ h9 => h9) rfl dX11_takesLinks_3 ?_
  refine hc_ki (wr := []) (va_runV (As := [.int s_reading]) (rest := [.ref h0]) ⟨hx, hb, hml, hown, hts⟩ (c_X11_letterAt l G h0 a_w a_kept a_laid a_refusals a_row a_letters a_hit a_lead a_defeat a_defeater a_order a_is a_was a_depths a_ways s.heap.size s_hasImage s_rows s_lettered s_ins s_outs s_ordered s_reading s_isWell s_z g_letters s_reading _ h) (cwV 1 hts gX11_takesLinks_X11_letterAt rfl rfl rfl (by decide +kernel) ⟨Nat.le_of_ble_eq_true rfl, Nat.le_of_ble_eq_true rfl⟩) (hc_pV hK hP hD [0, 1] rfl rfl (ci := 9) 0 rfl rfl) rfl rfl hl.1 rfl (lv_room (Nat.le_of_ble_eq_true rfl)) dX11_takesLinks_6 ⟨Nat.le_refl _, Nat.le_refl _⟩) hP hD hS hA [0, 1] [] rfl rfl rfl (by decide) (fun r6 u H locs h hP hD hS => ?_)
  try dsimp only at h
  have hP : va_P G.1 vwCl [ceX11 h0 a_w a_kept a_laid s_hasImage a_refusals a_row s_rows a_letters s_lettered a_hit a_lead a_defeat a_defeater s_ins s_outs a_order s_ordered a_is a_was s_reading s_isWell a_depths a_ways s_z, caI G a_letters 96 g_letters] H := hP
  have hD : va_D A [ceX11 h0 a_w a_kept a_laid s_hasImage a_refusals a_row s_rows a_letters s_lettered a_hit a_lead a_defeat a_defeater s_ins s_outs a_order s_ordered a_is a_was s_reading s_isWell a_depths a_ways s_z, caI G a_letters 96 g_letters] := hD
  refine hc_ki (wr := [ceX11 h0 a_w a_kept a_laid s_hasImage a_refusals a_row s_rows a_letters s_lettered a_hit a_lead a_defeat a_defeater s_ins s_outs a_order s_ordered a_is a_was s_reading s_isWell a_depths a_ways s_z, caI G a_letters 96 g_letters]) (va_runS (As := [.int r6]) (rest := [.ref h0]) ⟨hx, hb, hml, hown, hts⟩ (c_X11_isLink l G H.size r6 _ h) (va_cwS 1 hts gX11_takesLinks_X11_isLink rfl rfl rfl (by decide +kernel) ⟨Nat.le_of_ble_eq_true rfl, Nat.le_of_ble_eq_true rfl⟩) (hc_pS hK hP hD [] rfl rfl) rfl rfl hl.1 rfl (lv_room (Nat.le_of_ble_eq_true rfl)) dX11_takesLinks_9 ⟨Nat.le_refl _, Nat.le_refl _⟩) hP hD hS hA [] [0, 1] rfl rfl rfl (by decide) (fun r9 u H locs h hP hD hS => ?_)
  try dsimp only at h
  have hP : va_P G.1 vwCl [ceX11 h0 a_w a_kept a_laid s_hasImage a_refusals a_row s_rows a_letters s_lettered a_hit a_lead a_defeat a_defeater s_ins s_outs a_order s_ordered a_is a_was s_reading s_isWell a_depths a_ways s_z, caI G a_letters 96 g_letters] H := hP
  have hD : va_D A [ceX11 h0 a_w a_kept a_laid s_hasImage a_refusals a_row s_rows a_letters s_lettered a_hit a_lead a_defeat a_defeater s_ins s_outs a_order s_ordered a_is a_was s_reading s_isWell a_depths a_ways s_z, caI G a_letters 96 g_letters] := hD
  refine hc_kv (wr := [caI G a_letters 96 g_letters]) (va_runV (As := [.int r9]) (rest := []) ⟨hx, hb, hml, hown, hts⟩ (c_X11_takes l G h0 a_w a_kept a_laid a_refusals a_row a_letters a_hit a_lead a_defeat a_defeater a_order a_is a_was a_depths a_ways H.size s_hasImage s_rows s_lettered s_ins s_outs s_ordered s_reading s_isWell s_z r9 _ h) (cwV 1 hts gX11_takesLinks_X11_takes rfl rfl rfl (by decide +kernel) ⟨Nat.le_of_ble_eq_true rfl, Nat.le_of_ble_eq_true rfl⟩) (hc_pV hK hP hD [0] rfl rfl (ci := 9) 0 rfl rfl) rfl rfl hl.1 rfl (lv_room (Nat.le_of_ble_eq_true rfl)) dX11_takesLinks_12 ⟨Nat.le_refl _, Nat.le_refl _⟩) hP hD hS hA [0] [1] rfl rfl rfl (by decide) (fun u H locs h hP hD hS => ?_)
  obtain ⟨s_reading_12, s_isWell_12⟩ := u
  try dsimp only at h
  have hP : va_P G.1 vwCl [caI G a_letters 96 g_letters, ceX11 h0 a_w a_kept a_laid s_hasImage a_refusals a_row s_rows a_letters s_lettered a_hit a_lead a_defeat a_defeater s_ins s_outs a_order s_ordered a_is a_was s_reading_12 s_isWell_12 a_depths a_ways s_z] H := hP
  have hD : va_D A [caI G a_letters 96 g_letters, ceX11 h0 a_w a_kept a_laid s_hasImage a_refusals a_row s_rows a_letters s_lettered a_hit a_lead a_defeat a_defeater s_ins s_outs a_order s_ordered a_is a_was s_reading_12 s_isWell_12 a_depths a_ways s_z] := hD
  refine lv_aload_n hx hb dX11_takesLinks_15 rfl (lv_at hl 0 rfl) ?_
  refine lv_aload_n hx hb dX11_takesLinks_16 rfl (lv_at hl 0 rfl) ?_
  refine lv_aload_n hx hb dX11_takesLinks_17 rfl (lv_at hl 0 rfl) ?_
  refine va_get (D := G.1) (ci := 9) (v := .int s_reading_12) (C := RX11) (T := TX11) (N := 24) hx hb hts ki_X11 hown hK.1 hP 1 rfl rfl 19 (by decide) kf0 (fun _ h9 => h9) rfl dX11_takesLinks_18 ?_
  refine hc_ki (wr := []) (va_runV (As := [.int s_reading_12]) (rest := [.ref h0]) ⟨hx, hb, hml, hown, hts⟩ (c_X11_letterAt l G h0 a_w a_kept a_laid a_refusals a_row a_letters a_hit a_lead a_defeat a_defeater a_order a_is a_was a_depths a_ways H.size s_hasImage s_rows s_lettered s_ins s_outs s_ordered s_reading_12 s_isWell_12 s_z g_letters s_reading_12 _ h) (cwV 1 hts gX11_takesLinks_X11_letterAt rfl rfl rfl (by decide +kernel) ⟨Nat.le_of_ble_eq_true rfl, Nat.le_of_ble_eq_true rfl⟩) (hc_pV hK hP hD [1, 0] rfl rfl (ci := 9) 1 rfl rfl) rfl rfl hl.1 rfl (lv_room (Nat.le_of_ble_eq_true rfl)) dX11_takesLinks_21 ⟨Nat.le_refl _, Nat.le_refl _⟩) hP hD hS hA [1, 0] [] rfl rfl rfl (by decide) (fun r21 u H locs h hP hD hS => ?_)
  try dsimp only at h
  have hP : va_P G.1 vwCl [ceX11 h0 a_w a_kept a_laid s_hasImage a_refusals a_row s_rows a_letters s_lettered a_hit a_lead a_defeat a_defeater s_ins s_outs a_order s_ordered a_is a_was s_reading_12 s_isWell_12 a_depths a_ways s_z, caI G a_letters 96 g_letters] H := hP
  have hD : va_D A [ceX11 h0 a_w a_kept a_laid s_hasImage a_refusals a_row s_rows a_letters s_lettered a_hit a_lead a_defeat a_defeater s_ins s_outs a_order s_ordered a_is a_was s_reading_12 s_isWell_12 a_depths a_ways s_z, caI G a_letters 96 g_letters] := hD
  refine hc_ki (wr := [ceX11 h0 a_w a_kept a_laid s_hasImage a_refusals a_row s_rows a_letters s_lettered a_hit a_lead a_defeat a_defeater s_ins s_outs a_order s_ordered a_is a_was s_reading_12 s_isWell_12 a_depths a_ways s_z, caI G a_letters 96 g_letters]) (va_runS (As := [.int r21]) (rest := [.ref h0]) ⟨hx, hb, hml, hown, hts⟩ (c_X11_isNamed l G H.size r21 _ h) (va_cwS 1 hts gX11_takesLinks_X11_isNamed rfl rfl rfl (by decide +kernel) ⟨Nat.le_of_ble_eq_true rfl, Nat.le_of_ble_eq_true rfl⟩) (hc_pS hK hP hD [] rfl rfl) rfl rfl hl.1 rfl (lv_room (Nat.le_of_ble_eq_true rfl)) dX11_takesLinks_24 ⟨Nat.le_refl _, Nat.le_refl _⟩) hP hD hS hA [] [0, 1] rfl rfl rfl (by decide) (fun r24 u H locs h hP hD hS => ?_)
  try dsimp only at h
  have hP : va_P G.1 vwCl [ceX11 h0 a_w a_kept a_laid s_hasImage a_refusals a_row s_rows a_letters s_lettered a_hit a_lead a_defeat a_defeater s_ins s_outs a_order s_ordered a_is a_was s_reading_12 s_isWell_12 a_depths a_ways s_z, caI G a_letters 96 g_letters] H := hP
  have hD : va_D A [ceX11 h0 a_w a_kept a_laid s_hasImage a_refusals a_row s_rows a_letters s_lettered a_hit a_lead a_defeat a_defeater s_ins s_outs a_order s_ordered a_is a_was s_reading_12 s_isWell_12 a_depths a_ways s_z, caI G a_letters 96 g_letters] := hD
  refine hc_kv (wr := [caI G a_letters 96 g_letters]) (va_runV (As := [.int r24]) (rest := []) ⟨hx, hb, hml, hown, hts⟩ (c_X11_takes l G h0 a_w a_kept a_laid a_refusals a_row a_letters a_hit a_lead a_defeat a_defeater a_order a_is a_was a_depths a_ways H.size s_hasImage s_rows s_lettered s_ins s_outs s_ordered s_reading_12 s_isWell_12 s_z r24 _ h) (cwV 1 hts gX11_takesLinks_X11_takes rfl rfl rfl (by decide +kernel) ⟨Nat.le_of_ble_eq_true rfl, Nat.le_of_ble_eq_true rfl⟩) (hc_pV hK hP hD [0] rfl rfl (ci := 9) 0 rfl rfl) rfl rfl hl.1 rfl (lv_room (Nat.le_of_ble_eq_true rfl)) dX11_takesLinks_27 ⟨Nat.le_refl _, Nat.le_refl _⟩) hP hD hS hA [0] [1] rfl rfl rfl (by decide) (fun u H locs h hP hD hS => ?_)
  obtain ⟨s_reading_27, s_isWell_27⟩ := u
  try dsimp only at h
  have hP : va_P G.1 vwCl [caI G a_letters 96 g_letters, ceX11 h0 a_w a_kept a_laid s_hasImage a_refusals a_row s_rows a_letters s_lettered a_hit a_lead a_defeat a_defeater s_ins s_outs a_order s_ordered a_is a_was s_reading_27 s_isWell_27 a_depths a_ways s_z] H := hP
  have hD : va_D A [caI G a_letters 96 g_letters, ceX11 h0 a_w a_kept a_laid s_hasImage a_refusals a_row s_rows a_letters s_lettered a_hit a_lead a_defeat a_defeater s_ins s_outs a_order s_ordered a_is a_was s_reading_27 s_isWell_27 a_depths a_ways s_z] := hD
  obtain ⟨n30, h⟩ := h
  exact w30  n30 s_reading_27 s_isWell_27 h _ _ _ (hP.sub [1, 0] rfl) (hD.sub [1, 0] (by decide) rfl) hS (lv_sub hl [0] rfl)
set_option maxHeartbeats 4000000 in
set_option maxRecDepth 100000 in
theorem c_X11_goesThrough (l : Launch) (G : hcG) (h0 : Nat) (a_w : Nat) (a_kept : Nat) (a_laid : Nat) (a_refusals : Nat) (a_row : Nat) (a_letters : Nat) (a_hit : Nat) (a_lead : Nat) (a_defeat : Nat) (a_defeater : Nat) (a_order : Nat) (a_is : Nat) (a_was : Nat) (a_depths : Nat) (a_ways : Nat) (sz : Nat) (s_hasImage : Int32) (s_rows : Int32) (s_lettered : Int32) (s_ins : Int32) (s_outs : Int32) (s_ordered : Int32) (s_reading : Int32) (s_isWell : Int32) (s_z : Int32) (g_letters : Nat → Int32) (post : Int32 → Int32 → Prop) (h : wp_X11_goesThrough post g_letters s_lettered s_reading s_isWell) : Met l yX11_goesThrough wsX11_goesThrough ({ frames := 3, cells := 0, slots := 0, locals := 65 }) (hcPc G [.ref h0] [ceX11 h0 a_w a_kept a_laid s_hasImage a_refusals a_row s_rows a_letters s_lettered a_hit a_lead a_defeat a_defeater s_ins s_outs a_order s_ordered a_is a_was s_reading s_isWell a_depths a_ways s_z, caI G a_letters 96 g_letters] sz) (va_Qv (fun u : Int32 × Int32 => post u.1 u.2) (hcB G (va_A [ceX11 h0 a_w a_kept a_laid s_hasImage a_refusals a_row s_rows a_letters s_lettered a_hit a_lead a_defeat a_defeater s_ins s_outs a_order s_ordered a_is a_was s_reading s_isWell a_depths a_ways s_z, caI G a_letters 96 g_letters] sz) (fun u : Int32 × Int32 => [ceX11 h0 a_w a_kept a_laid s_hasImage a_refusals a_row s_rows a_letters s_lettered a_hit a_lead a_defeat a_defeater s_ins s_outs a_order s_ordered a_is a_was u.1 u.2 a_depths a_ways s_z, caI G a_letters 96 g_letters])) (va_A [ceX11 h0 a_w a_kept a_laid s_hasImage a_refusals a_row s_rows a_letters s_lettered a_hit a_lead a_defeat a_defeater s_ins s_outs a_order s_ordered a_is a_was s_reading s_isWell a_depths a_ways s_z, caI G a_letters 96 g_letters] sz)) 0 0 (va_A [ceX11 h0 a_w a_kept a_laid s_hasImage a_refusals a_row s_rows a_letters s_lettered a_hit a_lead a_defeat a_defeater s_ins s_outs a_order s_ordered a_is a_was s_reading s_isWell a_depths a_ways s_z, caI G a_letters 96 g_letters] sz) := by
  refine Met.ofW (cc := cX11_goesThrough) (maxL := 2) (ret := none) (by decide) rfl ?_
  intro p e s m args below meth c s₁ B hml hv
  obtain ⟨rfl, hsz, hP, hK, hD0⟩ := hv
  have hx := B.exec
  have hb := B.bytes
  have hr := B.returns
  have hts := atoms_spec (ws := wsX11_goesThrough) B.pre
  have hown : s.vm.findClass RX11 = some m.cls := findClass_of_methodNamed B.named
  have hlocks := B.notSynchronized
  subst hsz
  have hD := hD0.self (sz := s.heap.size)
  generalize hAe : va_A [ceX11 h0 a_w a_kept a_laid s_hasImage a_refusals a_row s_rows a_letters s_lettered a_hit a_lead a_defeat a_defeater s_ins s_outs a_order s_ordered a_is a_was s_reading s_isWell a_depths a_ways s_z, caI G a_letters 96 g_letters] s.heap.size = A at hD ⊢
  have hA : ∀ q : Nat, s.heap.size ≤ q → A q := fun q h => by rw [← hAe]; exact Or.inr h
  have hS : va_S A s.heap s.heap [] := va_S.rf
  have hP : va_P G.1 vwCl [ceX11 h0 a_w a_kept a_laid s_hasImage a_refusals a_row s_rows a_letters s_lettered a_hit a_lead a_defeat a_defeater s_ins s_outs a_order s_ordered a_is a_was s_reading s_isWell a_depths a_ways s_z, caI G a_letters 96 g_letters] s.heap := hP
  have hl := lv_entry ([.ref h0]) (n := 2) (Nat.le_of_ble_eq_true rfl)
  rw [lg_entry_eq]
  generalize (lg_sl ([.ref h0]) ++ List.replicate (2 - (lg_sl ([.ref h0])).length) Slot.unset).toArray = ls at hl ⊢
  have hl : lv_has ls 2 [(0, .ref h0)] := hl
  have kf0 := hts (.fieldLink RX11 137 "HallOfClaimsModel" "reading" "I") (List.mem_of_getElem? (i := 1) (by decide +kernel))
  have kf1 := hts (.fieldLink RX11 133 "HallOfClaimsModel" "isWell" "Z") (List.mem_of_getElem? (i := 4) (by decide +kernel))
  have kf2 := hts (.constantLong RX11 151 (97)) (List.mem_of_getElem? (i := 2) (by decide +kernel))
  have kf3 := hts (.constantLong RX11 153 (122)) (List.mem_of_getElem? (i := 3) (by decide +kernel))
  have ki_X11 : ∀ w ∈ u_ws RX11 TX11 24, w ∈ wsX11_goesThrough := by decide +kernel
  have w143 : ∀ (s_reading : Int32) (s_isWell : Int32) , wp_X11_goesThrough_143 post g_letters s_lettered s_reading s_isWell → ∀ (H : Heap) (locs : List Loc) (ls : Array Slot), va_P G.1 vwCl [ceX11 h0 a_w a_kept a_laid s_hasImage a_refusals a_row s_rows a_letters s_lettered a_hit a_lead a_defeat a_defeater s_ins s_outs a_order s_ordered a_is a_was s_reading s_isWell a_depths a_ways s_z, caI G a_letters 96 g_letters] H → va_D A [ceX11 h0 a_w a_kept a_laid s_hasImage a_refusals a_row s_rows a_letters s_lettered a_hit a_lead a_defeat a_defeater s_ins s_outs a_order s_ordered a_is a_was s_reading s_isWell a_depths a_ways s_z, caI G a_letters 96 g_letters] → va_S A s.heap H locs → lv_has ls 2 [(0, .ref h0)] → W p l e (headSpec wsX11_goesThrough ({ frames := 3, cells := 0, slots := 0, locals := 65 })).room s m ([.ref h0] : List Value).toArray below meth c H locs 0 0 (MQ below (va_Qv (fun u : Int32 × Int32 => post u.1 u.2) (hcB G A (fun u : Int32 × Int32 => [ceX11 h0 a_w a_kept a_laid s_hasImage a_refusals a_row s_rows a_letters s_lettered a_hit a_lead a_defeat a_defeater s_ins s_outs a_order s_ordered a_is a_was u.1 u.2 a_depths a_ways s_z, caI G a_letters 96 g_letters])) A) ([.ref h0] : List Value).toArray s 0 0 A) (F0 m 143 ls []) := by
    intro s_reading s_isWell h H locs ls hP hD hS hl
    unfold wp_X11_goesThrough_143 at h
    refine lv_aload_n hx hb dX11_goesThrough_143 rfl (lv_at hl 0 rfl) ?_
    refine lv_aload_n hx hb dX11_goesThrough_144 rfl (lv_at hl 0 rfl) ?_
    refine lv_aload_n hx hb dX11_goesThrough_145 rfl (lv_at hl 0 rfl) ?_
    refine va_get (D := G.1) (ci := 9) (v := .int s_reading) (C := RX11) (T := TX11) (N := 24) hx hb hts ki_X11 hown hK.1 hP 0 rfl rfl 19 (by decide) kf0 (fun _ h9 => h9) rfl dX11_goesThrough_146 ?_
    refine hc_ki (wr := []) (va_runV (As := [.int s_reading]) (rest := [.ref h0]) ⟨hx, hb, hml, hown, hts⟩ (c_X11_letterAt l G h0 a_w a_kept a_laid a_refusals a_row a_letters a_hit a_lead a_defeat a_defeater a_order a_is a_was a_depths a_ways H.size s_hasImage s_rows s_lettered s_ins s_outs s_ordered s_reading s_isWell s_z g_letters s_reading _ h) (cwV 1 hts gX11_goesThrough_X11_letterAt rfl rfl rfl (by decide +kernel) ⟨Nat.le_of_ble_eq_true rfl, Nat.le_of_ble_eq_true rfl⟩) (hc_pV hK hP hD [0, 1] rfl rfl (ci := 9) 0 rfl rfl) rfl rfl hl.1 rfl (lv_room (Nat.le_of_ble_eq_true rfl)) dX11_goesThrough_149 ⟨Nat.le_refl _, Nat.le_refl _⟩) hP hD hS hA [0, 1] [] rfl rfl rfl (by decide) (fun r149 u H locs h hP hD hS => ?_)
    try dsimp only at h
    have hP : va_P G.1 vwCl [ceX11 h0 a_w a_kept a_laid s_hasImage a_refusals a_row s_rows a_letters s_lettered a_hit a_lead a_defeat a_defeater s_ins s_outs a_order s_ordered a_is a_was s_reading s_isWell a_depths a_ways s_z, caI G a_letters 96 g_letters] H := hP
    have hD : va_D A [ceX11 h0 a_w a_kept a_laid s_hasImage a_refusals a_row s_rows a_letters s_lettered a_hit a_lead a_defeat a_defeater s_ins s_outs a_order s_ordered a_is a_was s_reading s_isWell a_depths a_ways s_z, caI G a_letters 96 g_letters] := hD
    refine lv_bipush (v := nI 59) hx hb dX11_goesThrough_152 kb_59 ?_
    refine lv_icmp_ne (tgt := 161) hx hb dX11_goesThrough_154 (by decide) (fun c => ?_) (fun c => ?_)
    · replace h := h.1 c
      refine lv_iconst (v := nI 0) hx hb dX11_goesThrough_161 kc_0 ?_
      refine hc_kv (wr := [caI G a_letters 96 g_letters]) (va_runV (As := [.int (nI 0)]) (rest := []) ⟨hx, hb, hml, hown, hts⟩ (c_X11_takes l G h0 a_w a_kept a_laid a_refusals a_row a_letters a_hit a_lead a_defeat a_defeater a_order a_is a_was a_depths a_ways H.size s_hasImage s_rows s_lettered s_ins s_outs s_ordered s_reading s_isWell s_z (nI 0) _ h) (cwV 1 hts gX11_goesThrough_X11_takes rfl rfl rfl (by decide +kernel) ⟨Nat.le_of_ble_eq_true rfl, Nat.le_of_ble_eq_true rfl⟩) (hc_pV hK hP hD [0] rfl rfl (ci := 9) 0 rfl rfl) rfl rfl hl.1 rfl (lv_room (Nat.le_of_ble_eq_true rfl)) dX11_goesThrough_162 ⟨Nat.le_refl _, Nat.le_refl _⟩) hP hD hS hA [0] [1] rfl rfl rfl (by decide) (fun u H locs h hP hD hS => ?_)
      obtain ⟨s_reading_162, s_isWell_162⟩ := u
      try dsimp only at h
      have hP : va_P G.1 vwCl [caI G a_letters 96 g_letters, ceX11 h0 a_w a_kept a_laid s_hasImage a_refusals a_row s_rows a_letters s_lettered a_hit a_lead a_defeat a_defeater s_ins s_outs a_order s_ordered a_is a_was s_reading_162 s_isWell_162 a_depths a_ways s_z] H := hP
      have hD : va_D A [caI G a_letters 96 g_letters, ceX11 h0 a_w a_kept a_laid s_hasImage a_refusals a_row s_rows a_letters s_lettered a_hit a_lead a_defeat a_defeater s_ins s_outs a_order s_ordered a_is a_was s_reading_162 s_isWell_162 a_depths a_ways s_z] := hD
      exact W.vret hx hb hr (fun t ht hW => ⟨⟨⟨s_reading_162, s_isWell_162⟩, rfl, h, ⟨by rw [ht]; exact (hP.sub [1, 0] rfl), (hD.sub [1, 0] (by decide) rfl)⟩⟩, hS.F ht⟩) hS.2.2 dX11_goesThrough_165
    · replace h := h.2 c
      refine lv_iconst (v := nI 1) hx hb dX11_goesThrough_157 kc_1 ?_
      refine lv_goto (tgt := 162) hx hb dX11_goesThrough_158 (by decide) ?_
      refine hc_kv (wr := [caI G a_letters 96 g_letters]) (va_runV (As := [.int (nI 1)]) (rest := []) ⟨hx, hb, hml, hown, hts⟩ (c_X11_takes l G h0 a_w a_kept a_laid a_refusals a_row a_letters a_hit a_lead a_defeat a_defeater a_order a_is a_was a_depths a_ways H.size s_hasImage s_rows s_lettered s_ins s_outs s_ordered s_reading s_isWell s_z (nI 1) _ h) (cwV 1 hts gX11_goesThrough_X11_takes rfl rfl rfl (by decide +kernel) ⟨Nat.le_of_ble_eq_true rfl, Nat.le_of_ble_eq_true rfl⟩) (hc_pV hK hP hD [0] rfl rfl (ci := 9) 0 rfl rfl) rfl rfl hl.1 rfl (lv_room (Nat.le_of_ble_eq_true rfl)) dX11_goesThrough_162 ⟨Nat.le_refl _, Nat.le_refl _⟩) hP hD hS hA [0] [1] rfl rfl rfl (by decide) (fun u H locs h hP hD hS => ?_)
      obtain ⟨s_reading_162, s_isWell_162⟩ := u
      try dsimp only at h
      have hP : va_P G.1 vwCl [caI G a_letters 96 g_letters, ceX11 h0 a_w a_kept a_laid s_hasImage a_refusals a_row s_rows a_letters s_lettered a_hit a_lead a_defeat a_defeater s_ins s_outs a_order s_ordered a_is a_was s_reading_162 s_isWell_162 a_depths a_ways s_z] H := hP
      have hD : va_D A [caI G a_letters 96 g_letters, ceX11 h0 a_w a_kept a_laid s_hasImage a_refusals a_row s_rows a_letters s_lettered a_hit a_lead a_defeat a_defeater s_ins s_outs a_order s_ordered a_is a_was s_reading_162 s_isWell_162 a_depths a_ways s_z] := hD
      exact W.vret hx hb hr (fun t ht hW => ⟨⟨⟨s_reading_162, s_isWell_162⟩, rfl, h, ⟨by rw [ht]; exact (hP.sub [1, 0] rfl), (hD.sub [1, 0] (by decide) rfl)⟩⟩, hS.F ht⟩) hS.2.2 dX11_goesThrough_165
  have w50 : ∀ (v1 : Int32) (s_reading : Int32) (s_isWell : Int32) , wp_X11_goesThrough_50 post g_letters s_lettered v1 s_reading s_isWell → ∀ (H : Heap) (locs : List Loc) (ls : Array Slot), va_P G.1 vwCl [ceX11 h0 a_w a_kept a_laid s_hasImage a_refusals a_row s_rows a_letters s_lettered a_hit a_lead a_defeat a_defeater s_ins s_outs a_order s_ordered a_is a_was s_reading s_isWell a_depths a_ways s_z, caI G a_letters 96 g_letters] H → va_D A [ceX11 h0 a_w a_kept a_laid s_hasImage a_refusals a_row s_rows a_letters s_lettered a_hit a_lead a_defeat a_defeater s_ins s_outs a_order s_ordered a_is a_was s_reading s_isWell a_depths a_ways s_z, caI G a_letters 96 g_letters] → va_S A s.heap H locs → lv_has ls 2 [(0, .ref h0), (1, .int v1)] → W p l e (headSpec wsX11_goesThrough ({ frames := 3, cells := 0, slots := 0, locals := 65 })).room s m ([.ref h0] : List Value).toArray below meth c H locs 0 0 (MQ below (va_Qv (fun u : Int32 × Int32 => post u.1 u.2) (hcB G A (fun u : Int32 × Int32 => [ceX11 h0 a_w a_kept a_laid s_hasImage a_refusals a_row s_rows a_letters s_lettered a_hit a_lead a_defeat a_defeater s_ins s_outs a_order s_ordered a_is a_was u.1 u.2 a_depths a_ways s_z, caI G a_letters 96 g_letters])) A) ([.ref h0] : List Value).toArray s 0 0 A) (F0 m 50 ls []) := by
    intro v1 s_reading s_isWell h H locs ls hP hD hS hl
    unfold wp_X11_goesThrough_50 at h
    refine lv_aload_n hx hb dX11_goesThrough_50 rfl (lv_at hl 0 rfl) ?_
    refine lv_iload_n hx hb dX11_goesThrough_51 rfl (lv_at hl 1 rfl) ?_
    refine lv_bipush (v := nI 42) hx hb dX11_goesThrough_52 kb_42 ?_
    refine lv_icmp_ne (tgt := 61) hx hb dX11_goesThrough_54 (by decide) (fun c => ?_) (fun c => ?_)
    · replace h := h.1 c
      refine lv_iconst (v := nI 1) hx hb dX11_goesThrough_61 kc_1 ?_
      refine hc_kv (wr := []) (va_runV (As := [.int (nI 1)]) (rest := []) ⟨hx, hb, hml, hown, hts⟩ (c_X11_takesDigits l G h0 a_w a_kept a_laid a_refusals a_row a_letters a_hit a_lead a_defeat a_defeater a_order a_is a_was a_depths a_ways H.size s_hasImage s_rows s_lettered s_ins s_outs s_ordered s_reading s_isWell s_z g_letters (nI 1) _ h) (cwV 1 hts gX11_goesThrough_X11_takesDigits rfl rfl rfl (by decide +kernel) ⟨Nat.le_of_ble_eq_true rfl, Nat.le_of_ble_eq_true rfl⟩) (hc_pV hK hP hD [0, 1] rfl rfl (ci := 9) 0 rfl rfl) rfl rfl hl.1 rfl (lv_room (Nat.le_of_ble_eq_true rfl)) dX11_goesThrough_62 ⟨Nat.le_refl _, Nat.le_refl _⟩) hP hD hS hA [0, 1] [] rfl rfl rfl (by decide) (fun u H locs h hP hD hS => ?_)
      obtain ⟨s_reading_62, s_isWell_62⟩ := u
      try dsimp only at h
      have hP : va_P G.1 vwCl [ceX11 h0 a_w a_kept a_laid s_hasImage a_refusals a_row s_rows a_letters s_lettered a_hit a_lead a_defeat a_defeater s_ins s_outs a_order s_ordered a_is a_was s_reading_62 s_isWell_62 a_depths a_ways s_z, caI G a_letters 96 g_letters] H := hP
      have hD : va_D A [ceX11 h0 a_w a_kept a_laid s_hasImage a_refusals a_row s_rows a_letters s_lettered a_hit a_lead a_defeat a_defeater s_ins s_outs a_order s_ordered a_is a_was s_reading_62 s_isWell_62 a_depths a_ways s_z, caI G a_letters 96 g_letters] := hD
      refine lv_goto (tgt := 143) hx hb dX11_goesThrough_65 (by decide) ?_
      exact w143  s_reading_62 s_isWell_62 h _ _ _ hP hD hS (lv_sub hl [0] rfl)
    · replace h := h.2 c
      refine lv_iconst (v := nI 3) hx hb dX11_goesThrough_57 kc_3 ?_
      refine lv_goto (tgt := 62) hx hb dX11_goesThrough_58 (by decide) ?_
      refine hc_kv (wr := []) (va_runV (As := [.int (nI 3)]) (rest := []) ⟨hx, hb, hml, hown, hts⟩ (c_X11_takesDigits l G h0 a_w a_kept a_laid a_refusals a_row a_letters a_hit a_lead a_defeat a_defeater a_order a_is a_was a_depths a_ways H.size s_hasImage s_rows s_lettered s_ins s_outs s_ordered s_reading s_isWell s_z g_letters (nI 3) _ h) (cwV 1 hts gX11_goesThrough_X11_takesDigits rfl rfl rfl (by decide +kernel) ⟨Nat.le_of_ble_eq_true rfl, Nat.le_of_ble_eq_true rfl⟩) (hc_pV hK hP hD [0, 1] rfl rfl (ci := 9) 0 rfl rfl) rfl rfl hl.1 rfl (lv_room (Nat.le_of_ble_eq_true rfl)) dX11_goesThrough_62 ⟨Nat.le_refl _, Nat.le_refl _⟩) hP hD hS hA [0, 1] [] rfl rfl rfl (by decide) (fun u H locs h hP hD hS => ?_)
      obtain ⟨s_reading_62, s_isWell_62⟩ := u
      try dsimp only at h
      have hP : va_P G.1 vwCl [ceX11 h0 a_w a_kept a_laid s_hasImage a_refusals a_row s_rows a_letters s_lettered a_hit a_lead a_defeat a_defeater s_ins s_outs a_order s_ordered a_is a_was s_reading_62 s_isWell_62 a_depths a_ways s_z, caI G a_letters 96 g_letters] H := hP
      have hD : va_D A [ceX11 h0 a_w a_kept a_laid s_hasImage a_refusals a_row s_rows a_letters s_lettered a_hit a_lead a_defeat a_defeater s_ins s_outs a_order s_ordered a_is a_was s_reading_62 s_isWell_62 a_depths a_ways s_z, caI G a_letters 96 g_letters] := hD
      refine lv_goto (tgt := 143) hx hb dX11_goesThrough_65 (by decide) ?_
      exact w143  s_reading_62 s_isWell_62 h _ _ _ hP hD hS (lv_sub hl [0] rfl)
  have w106 : ∀ (s_reading : Int32) (s_isWell : Int32) , wp_X11_goesThrough_106 post g_letters s_lettered s_reading s_isWell → ∀ (H : Heap) (locs : List Loc) (ls : Array Slot), va_P G.1 vwCl [ceX11 h0 a_w a_kept a_laid s_hasImage a_refusals a_row s_rows a_letters s_lettered a_hit a_lead a_defeat a_defeater s_ins s_outs a_order s_ordered a_is a_was s_reading s_isWell a_depths a_ways s_z, caI G a_letters 96 g_letters] H → va_D A [ceX11 h0 a_w a_kept a_laid s_hasImage a_refusals a_row s_rows a_letters s_lettered a_hit a_lead a_defeat a_defeater s_ins s_outs a_order s_ordered a_is a_was s_reading s_isWell a_depths a_ways s_z, caI G a_letters 96 g_letters] → va_S A s.heap H locs → lv_has ls 2 [(0, .ref h0)] → W p l e (headSpec wsX11_goesThrough ({ frames := 3, cells := 0, slots := 0, locals := 65 })).room s m ([.ref h0] : List Value).toArray below meth c H locs 0 0 (MQ below (va_Qv (fun u : Int32 × Int32 => post u.1 u.2) (hcB G A (fun u : Int32 × Int32 => [ceX11 h0 a_w a_kept a_laid s_hasImage a_refusals a_row s_rows a_letters s_lettered a_hit a_lead a_defeat a_defeater s_ins s_outs a_order s_ordered a_is a_was u.1 u.2 a_depths a_ways s_z, caI G a_letters 96 g_letters])) A) ([.ref h0] : List Value).toArray s 0 0 A) (F0 m 106 ls []) := by
    intro s_reading s_isWell h H locs ls hP hD hS hl
    unfold wp_X11_goesThrough_106 at h
    refine lv_aload_n hx hb dX11_goesThrough_106 rfl (lv_at hl 0 rfl) ?_
    refine va_get (D := G.1) (ci := 9) (v := .int s_isWell) (C := RX11) (T := TX11) (N := 24) hx hb hts ki_X11 hown hK.1 hP 0 rfl rfl 20 (by decide) kf1 (fun _ h9 => h9) rfl dX11_goesThrough_107 ?_
    refine lv_if_eq (tgt := 139) hx hb dX11_goesThrough_110 (by decide) (fun c => ?_) (fun c => ?_)
    · replace h := h.1 c
      refine lv_aload_n hx hb dX11_goesThrough_139 rfl (lv_at hl 0 rfl) ?_
      refine hc_kv (wr := []) (va_runV (As := []) (rest := []) ⟨hx, hb, hml, hown, hts⟩ (c_X11_takesLinks l G h0 a_w a_kept a_laid a_refusals a_row a_letters a_hit a_lead a_defeat a_defeater a_order a_is a_was a_depths a_ways H.size s_hasImage s_rows s_lettered s_ins s_outs s_ordered s_reading s_isWell s_z g_letters _ h) (cwV 0 hts gX11_goesThrough_X11_takesLinks rfl rfl rfl (by decide +kernel) ⟨Nat.le_of_ble_eq_true rfl, Nat.le_of_ble_eq_true rfl⟩) (hc_pV hK hP hD [0, 1] rfl rfl (ci := 9) 0 rfl rfl) rfl rfl hl.1 rfl (lv_room (Nat.le_of_ble_eq_true rfl)) dX11_goesThrough_140 ⟨Nat.le_refl _, Nat.le_refl _⟩) hP hD hS hA [0, 1] [] rfl rfl rfl (by decide) (fun u H locs h hP hD hS => ?_)
      obtain ⟨s_reading_140, s_isWell_140⟩ := u
      try dsimp only at h
      have hP : va_P G.1 vwCl [ceX11 h0 a_w a_kept a_laid s_hasImage a_refusals a_row s_rows a_letters s_lettered a_hit a_lead a_defeat a_defeater s_ins s_outs a_order s_ordered a_is a_was s_reading_140 s_isWell_140 a_depths a_ways s_z, caI G a_letters 96 g_letters] H := hP
      have hD : va_D A [ceX11 h0 a_w a_kept a_laid s_hasImage a_refusals a_row s_rows a_letters s_lettered a_hit a_lead a_defeat a_defeater s_ins s_outs a_order s_ordered a_is a_was s_reading_140 s_isWell_140 a_depths a_ways s_z, caI G a_letters 96 g_letters] := hD
      exact w143  s_reading_140 s_isWell_140 h _ _ _ hP hD hS (lv_sub hl [0] rfl)
    · replace h := h.2 c
      refine lv_aload_n hx hb dX11_goesThrough_113 rfl (lv_at hl 0 rfl) ?_
      refine lv_aload_n hx hb dX11_goesThrough_114 rfl (lv_at hl 0 rfl) ?_
      refine va_get (D := G.1) (ci := 9) (v := .int s_reading) (C := RX11) (T := TX11) (N := 24) hx hb hts ki_X11 hown hK.1 hP 0 rfl rfl 19 (by decide) kf0 (fun _ h9 => h9) rfl dX11_goesThrough_115 ?_
      refine hc_ki (wr := []) (va_runV (As := [.int s_reading]) (rest := []) ⟨hx, hb, hml, hown, hts⟩ (c_X11_letterAt l G h0 a_w a_kept a_laid a_refusals a_row a_letters a_hit a_lead a_defeat a_defeater a_order a_is a_was a_depths a_ways H.size s_hasImage s_rows s_lettered s_ins s_outs s_ordered s_reading s_isWell s_z g_letters s_reading _ h) (cwV 1 hts gX11_goesThrough_X11_letterAt rfl rfl rfl (by decide +kernel) ⟨Nat.le_of_ble_eq_true rfl, Nat.le_of_ble_eq_true rfl⟩) (hc_pV hK hP hD [0, 1] rfl rfl (ci := 9) 0 rfl rfl) rfl rfl hl.1 rfl (lv_room (Nat.le_of_ble_eq_true rfl)) dX11_goesThrough_118 ⟨Nat.le_refl _, Nat.le_refl _⟩) hP hD hS hA [0, 1] [] rfl rfl rfl (by decide) (fun r118 u H locs h hP hD hS => ?_)
      try dsimp only at h
      have hP : va_P G.1 vwCl [ceX11 h0 a_w a_kept a_laid s_hasImage a_refusals a_row s_rows a_letters s_lettered a_hit a_lead a_defeat a_defeater s_ins s_outs a_order s_ordered a_is a_was s_reading s_isWell a_depths a_ways s_z, caI G a_letters 96 g_letters] H := hP
      have hD : va_D A [ceX11 h0 a_w a_kept a_laid s_hasImage a_refusals a_row s_rows a_letters s_lettered a_hit a_lead a_defeat a_defeater s_ins s_outs a_order s_ordered a_is a_was s_reading s_isWell a_depths a_ways s_z, caI G a_letters 96 g_letters] := hD
      refine lv_bipush (v := nI 33) hx hb dX11_goesThrough_121 kb_33 ?_
      refine lv_icmp_ne (tgt := 139) hx hb dX11_goesThrough_123 (by decide) (fun c => ?_) (fun c => ?_)
      · replace h := h.1 c
        refine lv_aload_n hx hb dX11_goesThrough_139 rfl (lv_at hl 0 rfl) ?_
        refine hc_kv (wr := []) (va_runV (As := []) (rest := []) ⟨hx, hb, hml, hown, hts⟩ (c_X11_takesLinks l G h0 a_w a_kept a_laid a_refusals a_row a_letters a_hit a_lead a_defeat a_defeater a_order a_is a_was a_depths a_ways H.size s_hasImage s_rows s_lettered s_ins s_outs s_ordered s_reading s_isWell s_z g_letters _ h) (cwV 0 hts gX11_goesThrough_X11_takesLinks rfl rfl rfl (by decide +kernel) ⟨Nat.le_of_ble_eq_true rfl, Nat.le_of_ble_eq_true rfl⟩) (hc_pV hK hP hD [0, 1] rfl rfl (ci := 9) 0 rfl rfl) rfl rfl hl.1 rfl (lv_room (Nat.le_of_ble_eq_true rfl)) dX11_goesThrough_140 ⟨Nat.le_refl _, Nat.le_refl _⟩) hP hD hS hA [0, 1] [] rfl rfl rfl (by decide) (fun u H locs h hP hD hS => ?_)
        obtain ⟨s_reading_140, s_isWell_140⟩ := u
        try dsimp only at h
        have hP : va_P G.1 vwCl [ceX11 h0 a_w a_kept a_laid s_hasImage a_refusals a_row s_rows a_letters s_lettered a_hit a_lead a_defeat a_defeater s_ins s_outs a_order s_ordered a_is a_was s_reading_140 s_isWell_140 a_depths a_ways s_z, caI G a_letters 96 g_letters] H := hP
        have hD : va_D A [ceX11 h0 a_w a_kept a_laid s_hasImage a_refusals a_row s_rows a_letters s_lettered a_hit a_lead a_defeat a_defeater s_ins s_outs a_order s_ordered a_is a_was s_reading_140 s_isWell_140 a_depths a_ways s_z, caI G a_letters 96 g_letters] := hD
        exact w143  s_reading_140 s_isWell_140 h _ _ _ hP hD hS (lv_sub hl [0] rfl)
      · replace h := h.2 c
        refine lv_aload_n hx hb dX11_goesThrough_126 rfl (lv_at hl 0 rfl) ?_
        refine lv_dup hx hb dX11_goesThrough_127 rfl ?_
        refine va_get (D := G.1) (ci := 9) (v := .int s_reading) (C := RX11) (T := TX11) (N := 24) hx hb hts ki_X11 hown hK.1 hP 0 rfl rfl 19 (by decide) kf0 (fun _ h9 => h9) rfl dX11_goesThrough_128 ?_
        refine lv_iconst (v := nI 1) hx hb dX11_goesThrough_131 kc_1 ?_
        refine lv_iadd hx hb dX11_goesThrough_132 ?_
        refine va_put (D := G.1) (ci := 9) (v := .int (s_reading + (nI 1))) (ty := .int) (C := RX11) (T := TX11) (N := 24) hx hb hts ki_X11 tyX11 tyX11_ok nmX11 hown hK.1 hP hD hS 0 rfl rfl 19 (by decide) kf0 (fun _ h9 => h9) rfl (by decide +kernel) rfl rfl (Nat.le_of_ble_eq_true rfl) dX11_goesThrough_133 (fun H locs hP hD hS => ?_)
        have hP : va_P G.1 vwCl [ceX11 h0 a_w a_kept a_laid s_hasImage a_refusals a_row s_rows a_letters s_lettered a_hit a_lead a_defeat a_defeater s_ins s_outs a_order s_ordered a_is a_was (s_reading + (nI 1)) s_isWell a_depths a_ways s_z, caI G a_letters 96 g_letters] H := hP
        have hD : va_D A [ceX11 h0 a_w a_kept a_laid s_hasImage a_refusals a_row s_rows a_letters s_lettered a_hit a_lead a_defeat a_defeater s_ins s_outs a_order s_ordered a_is a_was (s_reading + (nI 1)) s_isWell a_depths a_ways s_z, caI G a_letters 96 g_letters] := hD
        refine lv_goto (tgt := 143) hx hb dX11_goesThrough_136 (by decide) ?_
        exact w143  (s_reading + (nI 1)) s_isWell h _ _ _ hP hD hS (lv_sub hl [0] rfl)
  have w35 : ∀ (v1 : Int32) (s_reading : Int32) (s_isWell : Int32) (t0 : Int32) , wp_X11_goesThrough_35 post g_letters s_lettered v1 s_reading s_isWell t0 → ∀ (H : Heap) (locs : List Loc) (ls : Array Slot), va_P G.1 vwCl [ceX11 h0 a_w a_kept a_laid s_hasImage a_refusals a_row s_rows a_letters s_lettered a_hit a_lead a_defeat a_defeater s_ins s_outs a_order s_ordered a_is a_was s_reading s_isWell a_depths a_ways s_z, caI G a_letters 96 g_letters] H → va_D A [ceX11 h0 a_w a_kept a_laid s_hasImage a_refusals a_row s_rows a_letters s_lettered a_hit a_lead a_defeat a_defeater s_ins s_outs a_order s_ordered a_is a_was s_reading s_isWell a_depths a_ways s_z, caI G a_letters 96 g_letters] → va_S A s.heap H locs → lv_has ls 2 [(0, .ref h0), (1, .int v1)] → W p l e (headSpec wsX11_goesThrough ({ frames := 3, cells := 0, slots := 0, locals := 65 })).room s m ([.ref h0] : List Value).toArray below meth c H locs 0 0 (MQ below (va_Qv (fun u : Int32 × Int32 => post u.1 u.2) (hcB G A (fun u : Int32 × Int32 => [ceX11 h0 a_w a_kept a_laid s_hasImage a_refusals a_row s_rows a_letters s_lettered a_hit a_lead a_defeat a_defeater s_ins s_outs a_order s_ordered a_is a_was u.1 u.2 a_depths a_ways s_z, caI G a_letters 96 g_letters])) A) ([.ref h0] : List Value).toArray s 0 0 A) (F0 m 35 ls [.int t0, .ref h0]) := by
    intro v1 s_reading s_isWell t0 h H locs ls hP hD hS hl
    unfold wp_X11_goesThrough_35 at h
    refine hc_kv (wr := [caI G a_letters 96 g_letters]) (va_runV (As := [.int t0]) (rest := []) ⟨hx, hb, hml, hown, hts⟩ (c_X11_takes l G h0 a_w a_kept a_laid a_refusals a_row a_letters a_hit a_lead a_defeat a_defeater a_order a_is a_was a_depths a_ways H.size s_hasImage s_rows s_lettered s_ins s_outs s_ordered s_reading s_isWell s_z t0 _ h) (cwV 1 hts gX11_goesThrough_X11_takes rfl rfl rfl (by decide +kernel) ⟨Nat.le_of_ble_eq_true rfl, Nat.le_of_ble_eq_true rfl⟩) (hc_pV hK hP hD [0] rfl rfl (ci := 9) 0 rfl rfl) rfl rfl hl.1 rfl (lv_room (Nat.le_of_ble_eq_true rfl)) dX11_goesThrough_35 ⟨Nat.le_refl _, Nat.le_refl _⟩) hP hD hS hA [0] [1] rfl rfl rfl (by decide) (fun u H locs h hP hD hS => ?_)
    obtain ⟨s_reading_35, s_isWell_35⟩ := u
    try dsimp only at h
    have hP : va_P G.1 vwCl [caI G a_letters 96 g_letters, ceX11 h0 a_w a_kept a_laid s_hasImage a_refusals a_row s_rows a_letters s_lettered a_hit a_lead a_defeat a_defeater s_ins s_outs a_order s_ordered a_is a_was s_reading_35 s_isWell_35 a_depths a_ways s_z] H := hP
    have hD : va_D A [caI G a_letters 96 g_letters, ceX11 h0 a_w a_kept a_laid s_hasImage a_refusals a_row s_rows a_letters s_lettered a_hit a_lead a_defeat a_defeater s_ins s_outs a_order s_ordered a_is a_was s_reading_35 s_isWell_35 a_depths a_ways s_z] := hD
    refine lv_iload_n hx hb dX11_goesThrough_38 rfl (lv_at hl 1 rfl) ?_
    refine lv_bipush (v := nI 42) hx hb dX11_goesThrough_39 kb_42 ?_
    refine lv_icmp_eq (tgt := 50) hx hb dX11_goesThrough_41 (by decide) (fun c => ?_) (fun c => ?_)
    · replace h := h.1 c
      exact w50  v1 s_reading_35 s_isWell_35 h _ _ _ (hP.sub [1, 0] rfl) (hD.sub [1, 0] (by decide) rfl) hS (lv_sub hl [0, 1] rfl)
    · replace h := h.2 c
      refine lv_iload_n hx hb dX11_goesThrough_44 rfl (lv_at hl 1 rfl) ?_
      refine lv_bipush (v := nI 109) hx hb dX11_goesThrough_45 kb_109 ?_
      refine lv_icmp_ne (tgt := 68) hx hb dX11_goesThrough_47 (by decide) (fun c => ?_) (fun c => ?_)
      · replace h := h.1 c
        refine lv_aload_n hx hb dX11_goesThrough_68 rfl (lv_at hl 0 rfl) ?_
        refine va_get (D := G.1) (ci := 9) (v := .int s_isWell_35) (C := RX11) (T := TX11) (N := 24) hx hb hts ki_X11 hown hK.1 hP 1 rfl rfl 20 (by decide) kf1 (fun _ h9 => h9) rfl dX11_goesThrough_69 ?_
        refine lv_if_eq (tgt := 106) hx hb dX11_goesThrough_72 (by decide) (fun c => ?_) (fun c => ?_)
        · replace h := h.1 c
          exact w106  s_reading_35 s_isWell_35 h _ _ _ (hP.sub [1, 0] rfl) (hD.sub [1, 0] (by decide) rfl) hS (lv_sub hl [0] rfl)
        · replace h := h.2 c
          refine lv_aload_n hx hb dX11_goesThrough_75 rfl (lv_at hl 0 rfl) ?_
          refine lv_aload_n hx hb dX11_goesThrough_76 rfl (lv_at hl 0 rfl) ?_
          refine va_get (D := G.1) (ci := 9) (v := .int s_reading_35) (C := RX11) (T := TX11) (N := 24) hx hb hts ki_X11 hown hK.1 hP 1 rfl rfl 19 (by decide) kf0 (fun _ h9 => h9) rfl dX11_goesThrough_77 ?_
          refine hc_ki (wr := []) (va_runV (As := [.int s_reading_35]) (rest := []) ⟨hx, hb, hml, hown, hts⟩ (c_X11_letterAt l G h0 a_w a_kept a_laid a_refusals a_row a_letters a_hit a_lead a_defeat a_defeater a_order a_is a_was a_depths a_ways H.size s_hasImage s_rows s_lettered s_ins s_outs s_ordered s_reading_35 s_isWell_35 s_z g_letters s_reading_35 _ h) (cwV 1 hts gX11_goesThrough_X11_letterAt rfl rfl rfl (by decide +kernel) ⟨Nat.le_of_ble_eq_true rfl, Nat.le_of_ble_eq_true rfl⟩) (hc_pV hK hP hD [1, 0] rfl rfl (ci := 9) 1 rfl rfl) rfl rfl hl.1 rfl (lv_room (Nat.le_of_ble_eq_true rfl)) dX11_goesThrough_80 ⟨Nat.le_refl _, Nat.le_refl _⟩) hP hD hS hA [1, 0] [] rfl rfl rfl (by decide) (fun r80 u H locs h hP hD hS => ?_)
          try dsimp only at h
          have hP : va_P G.1 vwCl [ceX11 h0 a_w a_kept a_laid s_hasImage a_refusals a_row s_rows a_letters s_lettered a_hit a_lead a_defeat a_defeater s_ins s_outs a_order s_ordered a_is a_was s_reading_35 s_isWell_35 a_depths a_ways s_z, caI G a_letters 96 g_letters] H := hP
          have hD : va_D A [ceX11 h0 a_w a_kept a_laid s_hasImage a_refusals a_row s_rows a_letters s_lettered a_hit a_lead a_defeat a_defeater s_ins s_outs a_order s_ordered a_is a_was s_reading_35 s_isWell_35 a_depths a_ways s_z, caI G a_letters 96 g_letters] := hD
          refine lv_bipush (v := nI 58) hx hb dX11_goesThrough_83 kb_58 ?_
          refine lv_icmp_ne (tgt := 106) hx hb dX11_goesThrough_85 (by decide) (fun c => ?_) (fun c => ?_)
          · replace h := h.1 c
            exact w106  s_reading_35 s_isWell_35 h _ _ _ hP hD hS (lv_sub hl [0] rfl)
          · replace h := h.2 c
            refine lv_aload_n hx hb dX11_goesThrough_88 rfl (lv_at hl 0 rfl) ?_
            refine lv_dup hx hb dX11_goesThrough_89 rfl ?_
            refine va_get (D := G.1) (ci := 9) (v := .int s_reading_35) (C := RX11) (T := TX11) (N := 24) hx hb hts ki_X11 hown hK.1 hP 0 rfl rfl 19 (by decide) kf0 (fun _ h9 => h9) rfl dX11_goesThrough_90 ?_
            refine lv_iconst (v := nI 1) hx hb dX11_goesThrough_93 kc_1 ?_
            refine lv_iadd hx hb dX11_goesThrough_94 ?_
            refine va_put (D := G.1) (ci := 9) (v := .int (s_reading_35 + (nI 1))) (ty := .int) (C := RX11) (T := TX11) (N := 24) hx hb hts ki_X11 tyX11 tyX11_ok nmX11 hown hK.1 hP hD hS 0 rfl rfl 19 (by decide) kf0 (fun _ h9 => h9) rfl (by decide +kernel) rfl rfl (Nat.le_of_ble_eq_true rfl) dX11_goesThrough_95 (fun H locs hP hD hS => ?_)
            have hP : va_P G.1 vwCl [ceX11 h0 a_w a_kept a_laid s_hasImage a_refusals a_row s_rows a_letters s_lettered a_hit a_lead a_defeat a_defeater s_ins s_outs a_order s_ordered a_is a_was (s_reading_35 + (nI 1)) s_isWell_35 a_depths a_ways s_z, caI G a_letters 96 g_letters] H := hP
            have hD : va_D A [ceX11 h0 a_w a_kept a_laid s_hasImage a_refusals a_row s_rows a_letters s_lettered a_hit a_lead a_defeat a_defeater s_ins s_outs a_order s_ordered a_is a_was (s_reading_35 + (nI 1)) s_isWell_35 a_depths a_ways s_z, caI G a_letters 96 g_letters] := hD
            refine lv_aload_n hx hb dX11_goesThrough_98 rfl (lv_at hl 0 rfl) ?_
            refine lv_iconst (v := nI 2) hx hb dX11_goesThrough_99 kc_2 ?_
            refine hc_kv (wr := []) (va_runV (As := [.int (nI 2)]) (rest := []) ⟨hx, hb, hml, hown, hts⟩ (c_X11_takesDigits l G h0 a_w a_kept a_laid a_refusals a_row a_letters a_hit a_lead a_defeat a_defeater a_order a_is a_was a_depths a_ways H.size s_hasImage s_rows s_lettered s_ins s_outs s_ordered (s_reading_35 + (nI 1)) s_isWell_35 s_z g_letters (nI 2) _ h) (cwV 1 hts gX11_goesThrough_X11_takesDigits rfl rfl rfl (by decide +kernel) ⟨Nat.le_of_ble_eq_true rfl, Nat.le_of_ble_eq_true rfl⟩) (hc_pV hK hP hD [0, 1] rfl rfl (ci := 9) 0 rfl rfl) rfl rfl hl.1 rfl (lv_room (Nat.le_of_ble_eq_true rfl)) dX11_goesThrough_100 ⟨Nat.le_refl _, Nat.le_refl _⟩) hP hD hS hA [0, 1] [] rfl rfl rfl (by decide) (fun u H locs h hP hD hS => ?_)
            obtain ⟨s_reading_100, s_isWell_100⟩ := u
            try dsimp only at h
            have hP : va_P G.1 vwCl [ceX11 h0 a_w a_kept a_laid s_hasImage a_refusals a_row s_rows a_letters s_lettered a_hit a_lead a_defeat a_defeater s_ins s_outs a_order s_ordered a_is a_was s_reading_100 s_isWell_100 a_depths a_ways s_z, caI G a_letters 96 g_letters] H := hP
            have hD : va_D A [ceX11 h0 a_w a_kept a_laid s_hasImage a_refusals a_row s_rows a_letters s_lettered a_hit a_lead a_defeat a_defeater s_ins s_outs a_order s_ordered a_is a_was s_reading_100 s_isWell_100 a_depths a_ways s_z, caI G a_letters 96 g_letters] := hD
            refine lv_goto (tgt := 143) hx hb dX11_goesThrough_103 (by decide) ?_
            exact w143  s_reading_100 s_isWell_100 h _ _ _ hP hD hS (lv_sub hl [0] rfl)
      · replace h := h.2 c
        exact w50  v1 s_reading_35 s_isWell_35 h _ _ _ (hP.sub [1, 0] rfl) (hD.sub [1, 0] (by decide) rfl) hS (lv_sub hl [0, 1] rfl)
  unfold wp_X11_goesThrough at h
  refine lv_aload_n hx hb dX11_goesThrough_0 rfl (lv_at hl 0 rfl) ?_
  refine lv_aload_n hx hb dX11_goesThrough_1 rfl (lv_at hl 0 rfl) ?_
  refine va_get (D := G.1) (ci := 9) (v := .int s_reading) (C := RX11) (T := TX11) (N := 24) hx hb hts ki_X11 hown hK.1 hP 0 rfl rfl 19 (by decide) kf0 (fun _ h9 => h9) rfl dX11_goesThrough_2 ?_
  refine hc_ki (wr := []) (va_runV (As := [.int s_reading]) (rest := []) ⟨hx, hb, hml, hown, hts⟩ (c_X11_letterAt l G h0 a_w a_kept a_laid a_refusals a_row a_letters a_hit a_lead a_defeat a_defeater a_order a_is a_was a_depths a_ways s.heap.size s_hasImage s_rows s_lettered s_ins s_outs s_ordered s_reading s_isWell s_z g_letters s_reading _ h) (cwV 1 hts gX11_goesThrough_X11_letterAt rfl rfl rfl (by decide +kernel) ⟨Nat.le_of_ble_eq_true rfl, Nat.le_of_ble_eq_true rfl⟩) (hc_pV hK hP hD [0, 1] rfl rfl (ci := 9) 0 rfl rfl) rfl rfl hl.1 rfl (lv_room (Nat.le_of_ble_eq_true rfl)) dX11_goesThrough_5 ⟨Nat.le_refl _, Nat.le_refl _⟩) hP hD hS hA [0, 1] [] rfl rfl rfl (by decide) (fun r5 u H locs h hP hD hS => ?_)
  try dsimp only at h
  have hP : va_P G.1 vwCl [ceX11 h0 a_w a_kept a_laid s_hasImage a_refusals a_row s_rows a_letters s_lettered a_hit a_lead a_defeat a_defeater s_ins s_outs a_order s_ordered a_is a_was s_reading s_isWell a_depths a_ways s_z, caI G a_letters 96 g_letters] H := hP
  have hD : va_D A [ceX11 h0 a_w a_kept a_laid s_hasImage a_refusals a_row s_rows a_letters s_lettered a_hit a_lead a_defeat a_defeater s_ins s_outs a_order s_ordered a_is a_was s_reading s_isWell a_depths a_ways s_z, caI G a_letters 96 g_letters] := hD
  refine lv_istore_n (lv' := [(1, .int r5), (0, .ref h0)]) hx hb dX11_goesThrough_8 rfl hl (by decide) rfl (fun ls hl => ?_)
  refine lv_aload_n hx hb dX11_goesThrough_9 rfl (lv_at hl 1 rfl) ?_
  refine lv_iload_n hx hb dX11_goesThrough_10 rfl (lv_at hl 0 rfl) ?_
  refine lv_bipush (v := nI 42) hx hb dX11_goesThrough_11 kb_42 ?_
  refine lv_icmp_eq (tgt := 30) hx hb dX11_goesThrough_13 (by decide) (fun c => ?_) (fun c => ?_)
  · replace h := h.1 c
    refine lv_iconst (v := nI 1) hx hb dX11_goesThrough_30 kc_1 ?_
    refine lv_goto (tgt := 35) hx hb dX11_goesThrough_31 (by decide) ?_
    exact w35  r5 s_reading s_isWell (nI 1) h _ _ _ hP hD hS (lv_sub hl [1, 0] rfl)
  · replace h := h.2 c
    refine lv_iload_n hx hb dX11_goesThrough_16 rfl (lv_at hl 0 rfl) ?_
    refine lv_i2l (v := r5.toInt64) hx hb dX11_goesThrough_17 rfl ?_
    refine lv_ldc2 (own := RX11) (v := 97) hx hb hown kf2 dX11_goesThrough_18 ?_
    refine lv_ldc2 (own := RX11) (v := 122) hx hb hown kf3 dX11_goesThrough_21 ?_
    refine hc_ki (wr := [ceX11 h0 a_w a_kept a_laid s_hasImage a_refusals a_row s_rows a_letters s_lettered a_hit a_lead a_defeat a_defeater s_ins s_outs a_order s_ordered a_is a_was s_reading s_isWell a_depths a_ways s_z, caI G a_letters 96 g_letters]) (va_runS (As := [.long r5.toInt64, .long ((97 : Int64)), .long ((122 : Int64))]) (rest := [.ref h0]) ⟨hx, hb, hml, hown, hts⟩ (c_X11_in l G H.size r5.toInt64 ((97 : Int64)) ((122 : Int64)) _ h) (va_cwS 3 hts gX11_goesThrough_X11_in rfl rfl rfl (by decide +kernel) ⟨Nat.le_of_ble_eq_true rfl, Nat.le_of_ble_eq_true rfl⟩) (hc_pS hK hP hD [] rfl rfl) rfl rfl hl.1 rfl (lv_room (Nat.le_of_ble_eq_true rfl)) dX11_goesThrough_24 ⟨Nat.le_refl _, Nat.le_refl _⟩) hP hD hS hA [] [0, 1] rfl rfl rfl (by decide) (fun r24 u H locs h hP hD hS => ?_)
    try dsimp only at h
    have hP : va_P G.1 vwCl [ceX11 h0 a_w a_kept a_laid s_hasImage a_refusals a_row s_rows a_letters s_lettered a_hit a_lead a_defeat a_defeater s_ins s_outs a_order s_ordered a_is a_was s_reading s_isWell a_depths a_ways s_z, caI G a_letters 96 g_letters] H := hP
    have hD : va_D A [ceX11 h0 a_w a_kept a_laid s_hasImage a_refusals a_row s_rows a_letters s_lettered a_hit a_lead a_defeat a_defeater s_ins s_outs a_order s_ordered a_is a_was s_reading s_isWell a_depths a_ways s_z, caI G a_letters 96 g_letters] := hD
    refine lv_if_eq (tgt := 34) hx hb dX11_goesThrough_27 (by decide) (fun c => ?_) (fun c => ?_)
    · replace h := h.1 c
      refine lv_iconst (v := nI 0) hx hb dX11_goesThrough_34 kc_0 ?_
      exact w35  r5 s_reading s_isWell (nI 0) h _ _ _ hP hD hS (lv_sub hl [1, 0] rfl)
    · replace h := h.2 c
      refine lv_iconst (v := nI 1) hx hb dX11_goesThrough_30 kc_1 ?_
      refine lv_goto (tgt := 35) hx hb dX11_goesThrough_31 (by decide) ?_
      exact w35  r5 s_reading s_isWell (nI 1) h _ _ _ hP hD hS (lv_sub hl [1, 0] rfl)
set_option maxHeartbeats 4000000 in
set_option maxRecDepth 100000 in
theorem c_X11_digitAt (l : Launch) (G : hcG) (h0 : Nat) (a_w : Nat) (a_kept : Nat) (a_laid : Nat) (a_refusals : Nat) (a_row : Nat) (a_letters : Nat) (a_hit : Nat) (a_lead : Nat) (a_defeat : Nat) (a_defeater : Nat) (a_order : Nat) (a_is : Nat) (a_was : Nat) (a_depths : Nat) (a_ways : Nat) (sz : Nat) (s_hasImage : Int32) (s_rows : Int32) (s_lettered : Int32) (s_ins : Int32) (s_outs : Int32) (s_ordered : Int32) (s_reading : Int32) (s_isWell : Int32) (s_z : Int32) (g_letters : Nat → Int32) (x1 : Int32) (post : Int32 → Prop) (h : wp_X11_digitAt post g_letters x1) : Met l yX11_digitAt wsX11_digitAt ({ frames := 0, cells := 0, slots := 0, locals := 0 }) (hcPc G [.ref h0, .int x1] [ceX11 h0 a_w a_kept a_laid s_hasImage a_refusals a_row s_rows a_letters s_lettered a_hit a_lead a_defeat a_defeater s_ins s_outs a_order s_ordered a_is a_was s_reading s_isWell a_depths a_ways s_z, caI G a_letters 96 g_letters] sz) (va_Qi (fun (r : Int32) (u : Unit) => post r) (hcB G (va_A [ceX11 h0 a_w a_kept a_laid s_hasImage a_refusals a_row s_rows a_letters s_lettered a_hit a_lead a_defeat a_defeater s_ins s_outs a_order s_ordered a_is a_was s_reading s_isWell a_depths a_ways s_z, caI G a_letters 96 g_letters] sz) (fun u : Unit => [ceX11 h0 a_w a_kept a_laid s_hasImage a_refusals a_row s_rows a_letters s_lettered a_hit a_lead a_defeat a_defeater s_ins s_outs a_order s_ordered a_is a_was s_reading s_isWell a_depths a_ways s_z, caI G a_letters 96 g_letters])) (va_A [ceX11 h0 a_w a_kept a_laid s_hasImage a_refusals a_row s_rows a_letters s_lettered a_hit a_lead a_defeat a_defeater s_ins s_outs a_order s_ordered a_is a_was s_reading s_isWell a_depths a_ways s_z, caI G a_letters 96 g_letters] sz)) 0 0 (va_A [ceX11 h0 a_w a_kept a_laid s_hasImage a_refusals a_row s_rows a_letters s_lettered a_hit a_lead a_defeat a_defeater s_ins s_outs a_order s_ordered a_is a_was s_reading s_isWell a_depths a_ways s_z, caI G a_letters 96 g_letters] sz) := by
  refine Met.ofW (cc := cX11_digitAt) (maxL := 2) (ret := (some .int)) (by decide) rfl ?_
  intro p e s m args below meth c s₁ B hml hv
  obtain ⟨rfl, hsz, hP, hK, hD0⟩ := hv
  have hx := B.exec
  have hb := B.bytes
  have hr := B.returns
  have hts := atoms_spec (ws := wsX11_digitAt) B.pre
  have hown : s.vm.findClass RX11 = some m.cls := findClass_of_methodNamed B.named
  have hlocks := B.notSynchronized
  subst hsz
  have hD := hD0.self (sz := s.heap.size)
  generalize hAe : va_A [ceX11 h0 a_w a_kept a_laid s_hasImage a_refusals a_row s_rows a_letters s_lettered a_hit a_lead a_defeat a_defeater s_ins s_outs a_order s_ordered a_is a_was s_reading s_isWell a_depths a_ways s_z, caI G a_letters 96 g_letters] s.heap.size = A at hD ⊢
  have hA : ∀ q : Nat, s.heap.size ≤ q → A q := fun q h => by rw [← hAe]; exact Or.inr h
  have hS : va_S A s.heap s.heap [] := va_S.rf
  have hP : va_P G.1 vwCl [ceX11 h0 a_w a_kept a_laid s_hasImage a_refusals a_row s_rows a_letters s_lettered a_hit a_lead a_defeat a_defeater s_ins s_outs a_order s_ordered a_is a_was s_reading s_isWell a_depths a_ways s_z, caI G a_letters 96 g_letters] s.heap := hP
  have hl := lv_entry ([.ref h0, .int x1]) (n := 2) (Nat.le_of_ble_eq_true rfl)
  rw [lg_entry_eq]
  generalize (lg_sl ([.ref h0, .int x1]) ++ List.replicate (2 - (lg_sl ([.ref h0, .int x1])).length) Slot.unset).toArray = ls at hl ⊢
  have hl : lv_has ls 2 [(0, .ref h0), (1, .int x1)] := hl
  have kf0 := hts (.fieldLink RX11 25 "HallOfClaimsModel" "letters" "[I") (List.mem_of_getElem? (i := 1) (by decide +kernel))
  have ki_X11 : ∀ w ∈ u_ws RX11 TX11 24, w ∈ wsX11_digitAt := by decide +kernel
  unfold wp_X11_digitAt at h
  refine lv_aload_n hx hb dX11_digitAt_0 rfl (lv_at hl 0 rfl) ?_
  refine va_get (D := G.1) (ci := 9) (v := .ref a_letters) (C := RX11) (T := TX11) (N := 24) hx hb hts ki_X11 hown hK.1 hP 0 rfl rfl 7 (by decide) kf0 (fun _ h9 => h9) rfl dX11_digitAt_1 ?_
  refine lv_iload_n hx hb dX11_digitAt_4 rfl (lv_at hl 1 rfl) ?_
  have hin := h.1
  replace h := h.2
  refine va_iald hx hb hK.1 hP 1 0 rfl rfl hin dX11_digitAt_5 ?_
  refine lv_bipush (v := nI 48) hx hb dX11_digitAt_6 kb_48 ?_
  refine lv_isub hx hb dX11_digitAt_8 ?_
  exact W.iret (v := (g_letters x1.toNatClampNeg) - (nI 48)) hx hb hr (fun t ht hW => ⟨⟨_, (), rfl, h, ⟨by rw [ht]; exact hP, hD⟩⟩, hS.F ht⟩) hS.2.2 dX11_digitAt_9
set_option maxHeartbeats 4000000 in
set_option maxRecDepth 100000 in
theorem c_X11_comes (l : Launch) (G : hcG) (h0 : Nat) (a_w : Nat) (a_kept : Nat) (a_laid : Nat) (a_refusals : Nat) (a_row : Nat) (a_letters : Nat) (a_hit : Nat) (a_lead : Nat) (a_defeat : Nat) (a_defeater : Nat) (a_order : Nat) (a_is : Nat) (a_was : Nat) (a_depths : Nat) (a_ways : Nat) (sz : Nat) (s_hasImage : Int32) (s_rows : Int32) (s_lettered : Int32) (s_ins : Int32) (s_outs : Int32) (s_ordered : Int32) (s_reading : Int32) (s_isWell : Int32) (s_z : Int32) (g_w : Nat → Int32) (x1 : Int32) (x2 : Int32) (x3 : Int32) (post : Int32 → (Nat → Int32) → Prop) (h : wp_X11_comes post g_w x1 x2 x3) : Met l yX11_comes wsX11_comes ({ frames := 0, cells := 0, slots := 0, locals := 0 }) (hcPc G [.ref h0, .int x1, .int x2, .int x3] [ceX11 h0 a_w a_kept a_laid s_hasImage a_refusals a_row s_rows a_letters s_lettered a_hit a_lead a_defeat a_defeater s_ins s_outs a_order s_ordered a_is a_was s_reading s_isWell a_depths a_ways s_z, caI G a_w 43 g_w] sz) (va_Qi (fun (r : Int32) (u : (Nat → Int32)) => post r u) (hcB G (va_A [ceX11 h0 a_w a_kept a_laid s_hasImage a_refusals a_row s_rows a_letters s_lettered a_hit a_lead a_defeat a_defeater s_ins s_outs a_order s_ordered a_is a_was s_reading s_isWell a_depths a_ways s_z, caI G a_w 43 g_w] sz) (fun u : (Nat → Int32) => [ceX11 h0 a_w a_kept a_laid s_hasImage a_refusals a_row s_rows a_letters s_lettered a_hit a_lead a_defeat a_defeater s_ins s_outs a_order s_ordered a_is a_was s_reading s_isWell a_depths a_ways s_z, caI G a_w 43 u])) (va_A [ceX11 h0 a_w a_kept a_laid s_hasImage a_refusals a_row s_rows a_letters s_lettered a_hit a_lead a_defeat a_defeater s_ins s_outs a_order s_ordered a_is a_was s_reading s_isWell a_depths a_ways s_z, caI G a_w 43 g_w] sz)) 0 0 (va_A [ceX11 h0 a_w a_kept a_laid s_hasImage a_refusals a_row s_rows a_letters s_lettered a_hit a_lead a_defeat a_defeater s_ins s_outs a_order s_ordered a_is a_was s_reading s_isWell a_depths a_ways s_z, caI G a_w 43 g_w] sz) := by
  refine Met.ofW (cc := cX11_comes) (maxL := 5) (ret := (some .boolean)) (by decide) rfl ?_
  intro p e s m args below meth c s₁ B hml hv
  obtain ⟨rfl, hsz, hP, hK, hD0⟩ := hv
  have hx := B.exec
  have hb := B.bytes
  have hr := B.returns
  have hts := atoms_spec (ws := wsX11_comes) B.pre
  have hown : s.vm.findClass RX11 = some m.cls := findClass_of_methodNamed B.named
  have hlocks := B.notSynchronized
  subst hsz
  have hD := hD0.self (sz := s.heap.size)
  generalize hAe : va_A [ceX11 h0 a_w a_kept a_laid s_hasImage a_refusals a_row s_rows a_letters s_lettered a_hit a_lead a_defeat a_defeater s_ins s_outs a_order s_ordered a_is a_was s_reading s_isWell a_depths a_ways s_z, caI G a_w 43 g_w] s.heap.size = A at hD ⊢
  have hA : ∀ q : Nat, s.heap.size ≤ q → A q := fun q h => by rw [← hAe]; exact Or.inr h
  have hS : va_S A s.heap s.heap [] := va_S.rf
  have hP : va_P G.1 vwCl [ceX11 h0 a_w a_kept a_laid s_hasImage a_refusals a_row s_rows a_letters s_lettered a_hit a_lead a_defeat a_defeater s_ins s_outs a_order s_ordered a_is a_was s_reading s_isWell a_depths a_ways s_z, caI G a_w 43 g_w] s.heap := hP
  have hl := lv_entry ([.ref h0, .int x1, .int x2, .int x3]) (n := 5) (Nat.le_of_ble_eq_true rfl)
  rw [lg_entry_eq]
  generalize (lg_sl ([.ref h0, .int x1, .int x2, .int x3]) ++ List.replicate (5 - (lg_sl ([.ref h0, .int x1, .int x2, .int x3])).length) Slot.unset).toArray = ls at hl ⊢
  have hl : lv_has ls 5 [(0, .ref h0), (1, .int x1), (2, .int x2), (3, .int x3)] := hl
  have kf0 := hts (.fieldLink RX11 9 "HallOfClaimsModel" "w" "[I") (List.mem_of_getElem? (i := 1) (by decide +kernel))
  have ki_X11 : ∀ w ∈ u_ws RX11 TX11 24, w ∈ wsX11_comes := by decide +kernel
  unfold wp_X11_comes at h
  refine lv_iload_n hx hb dX11_comes_0 rfl (lv_at hl 1 rfl) ?_
  refine lv_iconst (v := nI 5) hx hb dX11_comes_1 kc_5 ?_
  refine lv_icmp_gt (tgt := 17) hx hb dX11_comes_2 (by decide) (fun c => ?_) (fun c => ?_)
  · replace h := h.1 c
    refine lv_iconst (v := nI 0) hx hb dX11_comes_17 kc_0 ?_
    exact W.zret (v := nI 0) hx hb hr rfl (fun t ht hW => ⟨⟨_, g_w, rfl, h, ⟨by rw [ht]; exact hP, hD⟩⟩, hS.F ht⟩) hS.2.2 dX11_comes_18
  · replace h := h.2 c
    refine lv_aload_n hx hb dX11_comes_5 rfl (lv_at hl 0 rfl) ?_
    refine va_get (D := G.1) (ci := 9) (v := .ref a_w) (C := RX11) (T := TX11) (N := 24) hx hb hts ki_X11 hown hK.1 hP 0 rfl rfl 0 (by decide) kf0 (fun _ h9 => h9) rfl dX11_comes_6 ?_
    refine lv_bipush (v := nI 42) hx hb dX11_comes_9 kb_42 ?_
    have hin := h.1
    replace h := h.2
    refine va_iald hx hb hK.1 hP 1 0 rfl rfl hin dX11_comes_11 ?_
    refine lv_bipush (v := nI 8) hx hb dX11_comes_12 kb_8 ?_
    refine lv_icmp_ne (tgt := 19) hx hb dX11_comes_14 (by decide) (fun c => ?_) (fun c => ?_)
    · replace h := h.1 c
      refine lv_aload_n hx hb dX11_comes_19 rfl (lv_at hl 0 rfl) ?_
      refine va_get (D := G.1) (ci := 9) (v := .ref a_w) (C := RX11) (T := TX11) (N := 24) hx hb hts ki_X11 hown hK.1 hP 0 rfl rfl 0 (by decide) kf0 (fun _ h9 => h9) rfl dX11_comes_20 ?_
      refine lv_bipush (v := nI 42) hx hb dX11_comes_23 kb_42 ?_
      have hin := h.1
      replace h := h.2
      refine va_iald hx hb hK.1 hP 1 0 rfl rfl hin dX11_comes_25 ?_
      refine lv_istore (lv' := [(4, .int (g_w (nI 42).toNatClampNeg)), (0, .ref h0), (1, .int x1), (2, .int x2), (3, .int x3)]) hx hb dX11_comes_26 hl (by decide) rfl (fun ls hl => ?_)
      refine lv_aload_n hx hb dX11_comes_28 rfl (lv_at hl 1 rfl) ?_
      refine va_get (D := G.1) (ci := 9) (v := .ref a_w) (C := RX11) (T := TX11) (N := 24) hx hb hts ki_X11 hown hK.1 hP 0 rfl rfl 0 (by decide) kf0 (fun _ h9 => h9) rfl dX11_comes_29 ?_
      refine lv_iconst (v := nI 0) hx hb dX11_comes_32 kc_0 ?_
      refine lv_iload hx hb dX11_comes_33 (lv_at hl 0 rfl) ?_
      refine lv_iadd hx hb dX11_comes_35 ?_
      refine lv_iload_n hx hb dX11_comes_36 rfl (lv_at hl 2 rfl) ?_
      have hin := h.1
      replace h := h.2
      refine va_iast hx hb hK.1 hP hD hS 1 0 rfl rfl hin dX11_comes_37 (fun H locs hP hD hS => ?_)
      have hP : va_P G.1 vwCl [ceX11 h0 a_w a_kept a_laid s_hasImage a_refusals a_row s_rows a_letters s_lettered a_hit a_lead a_defeat a_defeater s_ins s_outs a_order s_ordered a_is a_was s_reading s_isWell a_depths a_ways s_z, caI G a_w 43 (upd g_w ((nI 0) + (g_w (nI 42).toNatClampNeg)).toNatClampNeg x1)] H := hP
      have hD : va_D A [ceX11 h0 a_w a_kept a_laid s_hasImage a_refusals a_row s_rows a_letters s_lettered a_hit a_lead a_defeat a_defeater s_ins s_outs a_order s_ordered a_is a_was s_reading s_isWell a_depths a_ways s_z, caI G a_w 43 (upd g_w ((nI 0) + (g_w (nI 42).toNatClampNeg)).toNatClampNeg x1)] := hD
      refine lv_aload_n hx hb dX11_comes_38 rfl (lv_at hl 1 rfl) ?_
      refine va_get (D := G.1) (ci := 9) (v := .ref a_w) (C := RX11) (T := TX11) (N := 24) hx hb hts ki_X11 hown hK.1 hP 0 rfl rfl 0 (by decide) kf0 (fun _ h9 => h9) rfl dX11_comes_39 ?_
      refine lv_bipush (v := nI 8) hx hb dX11_comes_42 kb_8 ?_
      refine lv_iload hx hb dX11_comes_44 (lv_at hl 0 rfl) ?_
      refine lv_iadd hx hb dX11_comes_46 ?_
      refine lv_iload_n hx hb dX11_comes_47 rfl (lv_at hl 3 rfl) ?_
      have hin := h.1
      replace h := h.2
      refine va_iast hx hb hK.1 hP hD hS 1 0 rfl rfl hin dX11_comes_48 (fun H locs hP hD hS => ?_)
      have hP : va_P G.1 vwCl [ceX11 h0 a_w a_kept a_laid s_hasImage a_refusals a_row s_rows a_letters s_lettered a_hit a_lead a_defeat a_defeater s_ins s_outs a_order s_ordered a_is a_was s_reading s_isWell a_depths a_ways s_z, caI G a_w 43 (upd (upd g_w ((nI 0) + (g_w (nI 42).toNatClampNeg)).toNatClampNeg x1) ((nI 8) + (g_w (nI 42).toNatClampNeg)).toNatClampNeg x2)] H := hP
      have hD : va_D A [ceX11 h0 a_w a_kept a_laid s_hasImage a_refusals a_row s_rows a_letters s_lettered a_hit a_lead a_defeat a_defeater s_ins s_outs a_order s_ordered a_is a_was s_reading s_isWell a_depths a_ways s_z, caI G a_w 43 (upd (upd g_w ((nI 0) + (g_w (nI 42).toNatClampNeg)).toNatClampNeg x1) ((nI 8) + (g_w (nI 42).toNatClampNeg)).toNatClampNeg x2)] := hD
      refine lv_aload_n hx hb dX11_comes_49 rfl (lv_at hl 1 rfl) ?_
      refine va_get (D := G.1) (ci := 9) (v := .ref a_w) (C := RX11) (T := TX11) (N := 24) hx hb hts ki_X11 hown hK.1 hP 0 rfl rfl 0 (by decide) kf0 (fun _ h9 => h9) rfl dX11_comes_50 ?_
      refine lv_bipush (v := nI 16) hx hb dX11_comes_53 kb_16 ?_
      refine lv_iload hx hb dX11_comes_55 (lv_at hl 0 rfl) ?_
      refine lv_iadd hx hb dX11_comes_57 ?_
      refine lv_iload_n hx hb dX11_comes_58 rfl (lv_at hl 4 rfl) ?_
      have hin := h.1
      replace h := h.2
      refine va_iast hx hb hK.1 hP hD hS 1 0 rfl rfl hin dX11_comes_59 (fun H locs hP hD hS => ?_)
      have hP : va_P G.1 vwCl [ceX11 h0 a_w a_kept a_laid s_hasImage a_refusals a_row s_rows a_letters s_lettered a_hit a_lead a_defeat a_defeater s_ins s_outs a_order s_ordered a_is a_was s_reading s_isWell a_depths a_ways s_z, caI G a_w 43 (upd (upd (upd g_w ((nI 0) + (g_w (nI 42).toNatClampNeg)).toNatClampNeg x1) ((nI 8) + (g_w (nI 42).toNatClampNeg)).toNatClampNeg x2) ((nI 16) + (g_w (nI 42).toNatClampNeg)).toNatClampNeg x3)] H := hP
      have hD : va_D A [ceX11 h0 a_w a_kept a_laid s_hasImage a_refusals a_row s_rows a_letters s_lettered a_hit a_lead a_defeat a_defeater s_ins s_outs a_order s_ordered a_is a_was s_reading s_isWell a_depths a_ways s_z, caI G a_w 43 (upd (upd (upd g_w ((nI 0) + (g_w (nI 42).toNatClampNeg)).toNatClampNeg x1) ((nI 8) + (g_w (nI 42).toNatClampNeg)).toNatClampNeg x2) ((nI 16) + (g_w (nI 42).toNatClampNeg)).toNatClampNeg x3)] := hD
      refine lv_aload_n hx hb dX11_comes_60 rfl (lv_at hl 1 rfl) ?_
      refine va_get (D := G.1) (ci := 9) (v := .ref a_w) (C := RX11) (T := TX11) (N := 24) hx hb hts ki_X11 hown hK.1 hP 0 rfl rfl 0 (by decide) kf0 (fun _ h9 => h9) rfl dX11_comes_61 ?_
      refine lv_bipush (v := nI 24) hx hb dX11_comes_64 kb_24 ?_
      refine lv_iload hx hb dX11_comes_66 (lv_at hl 0 rfl) ?_
      refine lv_iadd hx hb dX11_comes_68 ?_
      refine lv_iconst (v := nI 0) hx hb dX11_comes_69 kc_0 ?_
      have hin := h.1
      replace h := h.2
      refine va_iast hx hb hK.1 hP hD hS 1 0 rfl rfl hin dX11_comes_70 (fun H locs hP hD hS => ?_)
      have hP : va_P G.1 vwCl [ceX11 h0 a_w a_kept a_laid s_hasImage a_refusals a_row s_rows a_letters s_lettered a_hit a_lead a_defeat a_defeater s_ins s_outs a_order s_ordered a_is a_was s_reading s_isWell a_depths a_ways s_z, caI G a_w 43 (upd (upd (upd (upd g_w ((nI 0) + (g_w (nI 42).toNatClampNeg)).toNatClampNeg x1) ((nI 8) + (g_w (nI 42).toNatClampNeg)).toNatClampNeg x2) ((nI 16) + (g_w (nI 42).toNatClampNeg)).toNatClampNeg x3) ((nI 24) + (g_w (nI 42).toNatClampNeg)).toNatClampNeg (nI 0))] H := hP
      have hD : va_D A [ceX11 h0 a_w a_kept a_laid s_hasImage a_refusals a_row s_rows a_letters s_lettered a_hit a_lead a_defeat a_defeater s_ins s_outs a_order s_ordered a_is a_was s_reading s_isWell a_depths a_ways s_z, caI G a_w 43 (upd (upd (upd (upd g_w ((nI 0) + (g_w (nI 42).toNatClampNeg)).toNatClampNeg x1) ((nI 8) + (g_w (nI 42).toNatClampNeg)).toNatClampNeg x2) ((nI 16) + (g_w (nI 42).toNatClampNeg)).toNatClampNeg x3) ((nI 24) + (g_w (nI 42).toNatClampNeg)).toNatClampNeg (nI 0))] := hD
      refine lv_aload_n hx hb dX11_comes_71 rfl (lv_at hl 1 rfl) ?_
      refine va_get (D := G.1) (ci := 9) (v := .ref a_w) (C := RX11) (T := TX11) (N := 24) hx hb hts ki_X11 hown hK.1 hP 0 rfl rfl 0 (by decide) kf0 (fun _ h9 => h9) rfl dX11_comes_72 ?_
      refine lv_bipush (v := nI 32) hx hb dX11_comes_75 kb_32 ?_
      refine lv_iload hx hb dX11_comes_77 (lv_at hl 0 rfl) ?_
      refine lv_iadd hx hb dX11_comes_79 ?_
      refine lv_iconst (v := nI 0) hx hb dX11_comes_80 kc_0 ?_
      have hin := h.1
      replace h := h.2
      refine va_iast hx hb hK.1 hP hD hS 1 0 rfl rfl hin dX11_comes_81 (fun H locs hP hD hS => ?_)
      have hP : va_P G.1 vwCl [ceX11 h0 a_w a_kept a_laid s_hasImage a_refusals a_row s_rows a_letters s_lettered a_hit a_lead a_defeat a_defeater s_ins s_outs a_order s_ordered a_is a_was s_reading s_isWell a_depths a_ways s_z, caI G a_w 43 (upd (upd (upd (upd (upd g_w ((nI 0) + (g_w (nI 42).toNatClampNeg)).toNatClampNeg x1) ((nI 8) + (g_w (nI 42).toNatClampNeg)).toNatClampNeg x2) ((nI 16) + (g_w (nI 42).toNatClampNeg)).toNatClampNeg x3) ((nI 24) + (g_w (nI 42).toNatClampNeg)).toNatClampNeg (nI 0)) ((nI 32) + (g_w (nI 42).toNatClampNeg)).toNatClampNeg (nI 0))] H := hP
      have hD : va_D A [ceX11 h0 a_w a_kept a_laid s_hasImage a_refusals a_row s_rows a_letters s_lettered a_hit a_lead a_defeat a_defeater s_ins s_outs a_order s_ordered a_is a_was s_reading s_isWell a_depths a_ways s_z, caI G a_w 43 (upd (upd (upd (upd (upd g_w ((nI 0) + (g_w (nI 42).toNatClampNeg)).toNatClampNeg x1) ((nI 8) + (g_w (nI 42).toNatClampNeg)).toNatClampNeg x2) ((nI 16) + (g_w (nI 42).toNatClampNeg)).toNatClampNeg x3) ((nI 24) + (g_w (nI 42).toNatClampNeg)).toNatClampNeg (nI 0)) ((nI 32) + (g_w (nI 42).toNatClampNeg)).toNatClampNeg (nI 0))] := hD
      refine lv_aload_n hx hb dX11_comes_82 rfl (lv_at hl 1 rfl) ?_
      refine va_get (D := G.1) (ci := 9) (v := .ref a_w) (C := RX11) (T := TX11) (N := 24) hx hb hts ki_X11 hown hK.1 hP 0 rfl rfl 0 (by decide) kf0 (fun _ h9 => h9) rfl dX11_comes_83 ?_
      refine lv_bipush (v := nI 40) hx hb dX11_comes_86 kb_40 ?_
      refine lv_dup2_11 hx hb dX11_comes_88 rfl rfl ?_
      have hin := h.1
      replace h := h.2
      refine va_iald hx hb hK.1 hP 1 0 rfl rfl hin dX11_comes_89 ?_
      refine lv_iconst (v := nI 1) hx hb dX11_comes_90 kc_1 ?_
      refine lv_iload hx hb dX11_comes_91 (lv_at hl 0 rfl) ?_
      refine lv_ishl hx hb dX11_comes_93 ?_
      refine lv_ior hx hb dX11_comes_94 ?_
      have hin := h.1
      replace h := h.2
      refine va_iast hx hb hK.1 hP hD hS 1 0 rfl rfl hin dX11_comes_95 (fun H locs hP hD hS => ?_)
      have hP : va_P G.1 vwCl [ceX11 h0 a_w a_kept a_laid s_hasImage a_refusals a_row s_rows a_letters s_lettered a_hit a_lead a_defeat a_defeater s_ins s_outs a_order s_ordered a_is a_was s_reading s_isWell a_depths a_ways s_z, caI G a_w 43 (upd (upd (upd (upd (upd (upd g_w ((nI 0) + (g_w (nI 42).toNatClampNeg)).toNatClampNeg x1) ((nI 8) + (g_w (nI 42).toNatClampNeg)).toNatClampNeg x2) ((nI 16) + (g_w (nI 42).toNatClampNeg)).toNatClampNeg x3) ((nI 24) + (g_w (nI 42).toNatClampNeg)).toNatClampNeg (nI 0)) ((nI 32) + (g_w (nI 42).toNatClampNeg)).toNatClampNeg (nI 0)) (nI 40).toNatClampNeg (((upd (upd (upd (upd (upd g_w ((nI 0) + (g_w (nI 42).toNatClampNeg)).toNatClampNeg x1) ((nI 8) + (g_w (nI 42).toNatClampNeg)).toNatClampNeg x2) ((nI 16) + (g_w (nI 42).toNatClampNeg)).toNatClampNeg x3) ((nI 24) + (g_w (nI 42).toNatClampNeg)).toNatClampNeg (nI 0)) ((nI 32) + (g_w (nI 42).toNatClampNeg)).toNatClampNeg (nI 0)) (nI 40).toNatClampNeg) ||| ((nI 1) <<< ((g_w (nI 42).toNatClampNeg) &&& 31))))] H := hP
      have hD : va_D A [ceX11 h0 a_w a_kept a_laid s_hasImage a_refusals a_row s_rows a_letters s_lettered a_hit a_lead a_defeat a_defeater s_ins s_outs a_order s_ordered a_is a_was s_reading s_isWell a_depths a_ways s_z, caI G a_w 43 (upd (upd (upd (upd (upd (upd g_w ((nI 0) + (g_w (nI 42).toNatClampNeg)).toNatClampNeg x1) ((nI 8) + (g_w (nI 42).toNatClampNeg)).toNatClampNeg x2) ((nI 16) + (g_w (nI 42).toNatClampNeg)).toNatClampNeg x3) ((nI 24) + (g_w (nI 42).toNatClampNeg)).toNatClampNeg (nI 0)) ((nI 32) + (g_w (nI 42).toNatClampNeg)).toNatClampNeg (nI 0)) (nI 40).toNatClampNeg (((upd (upd (upd (upd (upd g_w ((nI 0) + (g_w (nI 42).toNatClampNeg)).toNatClampNeg x1) ((nI 8) + (g_w (nI 42).toNatClampNeg)).toNatClampNeg x2) ((nI 16) + (g_w (nI 42).toNatClampNeg)).toNatClampNeg x3) ((nI 24) + (g_w (nI 42).toNatClampNeg)).toNatClampNeg (nI 0)) ((nI 32) + (g_w (nI 42).toNatClampNeg)).toNatClampNeg (nI 0)) (nI 40).toNatClampNeg) ||| ((nI 1) <<< ((g_w (nI 42).toNatClampNeg) &&& 31))))] := hD
      refine lv_aload_n hx hb dX11_comes_96 rfl (lv_at hl 1 rfl) ?_
      refine va_get (D := G.1) (ci := 9) (v := .ref a_w) (C := RX11) (T := TX11) (N := 24) hx hb hts ki_X11 hown hK.1 hP 0 rfl rfl 0 (by decide) kf0 (fun _ h9 => h9) rfl dX11_comes_97 ?_
      refine lv_bipush (v := nI 42) hx hb dX11_comes_100 kb_42 ?_
      refine lv_dup2_11 hx hb dX11_comes_102 rfl rfl ?_
      have hin := h.1
      replace h := h.2
      refine va_iald hx hb hK.1 hP 1 0 rfl rfl hin dX11_comes_103 ?_
      refine lv_iconst (v := nI 1) hx hb dX11_comes_104 kc_1 ?_
      refine lv_iadd hx hb dX11_comes_105 ?_
      have hin := h.1
      replace h := h.2
      refine va_iast hx hb hK.1 hP hD hS 1 0 rfl rfl hin dX11_comes_106 (fun H locs hP hD hS => ?_)
      have hP : va_P G.1 vwCl [ceX11 h0 a_w a_kept a_laid s_hasImage a_refusals a_row s_rows a_letters s_lettered a_hit a_lead a_defeat a_defeater s_ins s_outs a_order s_ordered a_is a_was s_reading s_isWell a_depths a_ways s_z, caI G a_w 43 (upd (upd (upd (upd (upd (upd (upd g_w ((nI 0) + (g_w (nI 42).toNatClampNeg)).toNatClampNeg x1) ((nI 8) + (g_w (nI 42).toNatClampNeg)).toNatClampNeg x2) ((nI 16) + (g_w (nI 42).toNatClampNeg)).toNatClampNeg x3) ((nI 24) + (g_w (nI 42).toNatClampNeg)).toNatClampNeg (nI 0)) ((nI 32) + (g_w (nI 42).toNatClampNeg)).toNatClampNeg (nI 0)) (nI 40).toNatClampNeg (((upd (upd (upd (upd (upd g_w ((nI 0) + (g_w (nI 42).toNatClampNeg)).toNatClampNeg x1) ((nI 8) + (g_w (nI 42).toNatClampNeg)).toNatClampNeg x2) ((nI 16) + (g_w (nI 42).toNatClampNeg)).toNatClampNeg x3) ((nI 24) + (g_w (nI 42).toNatClampNeg)).toNatClampNeg (nI 0)) ((nI 32) + (g_w (nI 42).toNatClampNeg)).toNatClampNeg (nI 0)) (nI 40).toNatClampNeg) ||| ((nI 1) <<< ((g_w (nI 42).toNatClampNeg) &&& 31)))) (nI 42).toNatClampNeg (((upd (upd (upd (upd (upd (upd g_w ((nI 0) + (g_w (nI 42).toNatClampNeg)).toNatClampNeg x1) ((nI 8) + (g_w (nI 42).toNatClampNeg)).toNatClampNeg x2) ((nI 16) + (g_w (nI 42).toNatClampNeg)).toNatClampNeg x3) ((nI 24) + (g_w (nI 42).toNatClampNeg)).toNatClampNeg (nI 0)) ((nI 32) + (g_w (nI 42).toNatClampNeg)).toNatClampNeg (nI 0)) (nI 40).toNatClampNeg (((upd (upd (upd (upd (upd g_w ((nI 0) + (g_w (nI 42).toNatClampNeg)).toNatClampNeg x1) ((nI 8) + (g_w (nI 42).toNatClampNeg)).toNatClampNeg x2) ((nI 16) + (g_w (nI 42).toNatClampNeg)).toNatClampNeg x3) ((nI 24) + (g_w (nI 42).toNatClampNeg)).toNatClampNeg (nI 0)) ((nI 32) + (g_w (nI 42).toNatClampNeg)).toNatClampNeg (nI 0)) (nI 40).toNatClampNeg) ||| ((nI 1) <<< ((g_w (nI 42).toNatClampNeg) &&& 31)))) (nI 42).toNatClampNeg) + (nI 1)))] H := hP
      have hD : va_D A [ceX11 h0 a_w a_kept a_laid s_hasImage a_refusals a_row s_rows a_letters s_lettered a_hit a_lead a_defeat a_defeater s_ins s_outs a_order s_ordered a_is a_was s_reading s_isWell a_depths a_ways s_z, caI G a_w 43 (upd (upd (upd (upd (upd (upd (upd g_w ((nI 0) + (g_w (nI 42).toNatClampNeg)).toNatClampNeg x1) ((nI 8) + (g_w (nI 42).toNatClampNeg)).toNatClampNeg x2) ((nI 16) + (g_w (nI 42).toNatClampNeg)).toNatClampNeg x3) ((nI 24) + (g_w (nI 42).toNatClampNeg)).toNatClampNeg (nI 0)) ((nI 32) + (g_w (nI 42).toNatClampNeg)).toNatClampNeg (nI 0)) (nI 40).toNatClampNeg (((upd (upd (upd (upd (upd g_w ((nI 0) + (g_w (nI 42).toNatClampNeg)).toNatClampNeg x1) ((nI 8) + (g_w (nI 42).toNatClampNeg)).toNatClampNeg x2) ((nI 16) + (g_w (nI 42).toNatClampNeg)).toNatClampNeg x3) ((nI 24) + (g_w (nI 42).toNatClampNeg)).toNatClampNeg (nI 0)) ((nI 32) + (g_w (nI 42).toNatClampNeg)).toNatClampNeg (nI 0)) (nI 40).toNatClampNeg) ||| ((nI 1) <<< ((g_w (nI 42).toNatClampNeg) &&& 31)))) (nI 42).toNatClampNeg (((upd (upd (upd (upd (upd (upd g_w ((nI 0) + (g_w (nI 42).toNatClampNeg)).toNatClampNeg x1) ((nI 8) + (g_w (nI 42).toNatClampNeg)).toNatClampNeg x2) ((nI 16) + (g_w (nI 42).toNatClampNeg)).toNatClampNeg x3) ((nI 24) + (g_w (nI 42).toNatClampNeg)).toNatClampNeg (nI 0)) ((nI 32) + (g_w (nI 42).toNatClampNeg)).toNatClampNeg (nI 0)) (nI 40).toNatClampNeg (((upd (upd (upd (upd (upd g_w ((nI 0) + (g_w (nI 42).toNatClampNeg)).toNatClampNeg x1) ((nI 8) + (g_w (nI 42).toNatClampNeg)).toNatClampNeg x2) ((nI 16) + (g_w (nI 42).toNatClampNeg)).toNatClampNeg x3) ((nI 24) + (g_w (nI 42).toNatClampNeg)).toNatClampNeg (nI 0)) ((nI 32) + (g_w (nI 42).toNatClampNeg)).toNatClampNeg (nI 0)) (nI 40).toNatClampNeg) ||| ((nI 1) <<< ((g_w (nI 42).toNatClampNeg) &&& 31)))) (nI 42).toNatClampNeg) + (nI 1)))] := hD
      refine lv_iconst (v := nI 1) hx hb dX11_comes_107 kc_1 ?_
      exact W.zret (v := nI 1) hx hb hr rfl (fun t ht hW => ⟨⟨_, (upd (upd (upd (upd (upd (upd (upd g_w ((nI 0) + (g_w (nI 42).toNatClampNeg)).toNatClampNeg x1) ((nI 8) + (g_w (nI 42).toNatClampNeg)).toNatClampNeg x2) ((nI 16) + (g_w (nI 42).toNatClampNeg)).toNatClampNeg x3) ((nI 24) + (g_w (nI 42).toNatClampNeg)).toNatClampNeg (nI 0)) ((nI 32) + (g_w (nI 42).toNatClampNeg)).toNatClampNeg (nI 0)) (nI 40).toNatClampNeg (((upd (upd (upd (upd (upd g_w ((nI 0) + (g_w (nI 42).toNatClampNeg)).toNatClampNeg x1) ((nI 8) + (g_w (nI 42).toNatClampNeg)).toNatClampNeg x2) ((nI 16) + (g_w (nI 42).toNatClampNeg)).toNatClampNeg x3) ((nI 24) + (g_w (nI 42).toNatClampNeg)).toNatClampNeg (nI 0)) ((nI 32) + (g_w (nI 42).toNatClampNeg)).toNatClampNeg (nI 0)) (nI 40).toNatClampNeg) ||| ((nI 1) <<< ((g_w (nI 42).toNatClampNeg) &&& 31)))) (nI 42).toNatClampNeg (((upd (upd (upd (upd (upd (upd g_w ((nI 0) + (g_w (nI 42).toNatClampNeg)).toNatClampNeg x1) ((nI 8) + (g_w (nI 42).toNatClampNeg)).toNatClampNeg x2) ((nI 16) + (g_w (nI 42).toNatClampNeg)).toNatClampNeg x3) ((nI 24) + (g_w (nI 42).toNatClampNeg)).toNatClampNeg (nI 0)) ((nI 32) + (g_w (nI 42).toNatClampNeg)).toNatClampNeg (nI 0)) (nI 40).toNatClampNeg (((upd (upd (upd (upd (upd g_w ((nI 0) + (g_w (nI 42).toNatClampNeg)).toNatClampNeg x1) ((nI 8) + (g_w (nI 42).toNatClampNeg)).toNatClampNeg x2) ((nI 16) + (g_w (nI 42).toNatClampNeg)).toNatClampNeg x3) ((nI 24) + (g_w (nI 42).toNatClampNeg)).toNatClampNeg (nI 0)) ((nI 32) + (g_w (nI 42).toNatClampNeg)).toNatClampNeg (nI 0)) (nI 40).toNatClampNeg) ||| ((nI 1) <<< ((g_w (nI 42).toNatClampNeg) &&& 31)))) (nI 42).toNatClampNeg) + (nI 1))), rfl, h, ⟨by rw [ht]; exact hP, hD⟩⟩, hS.F ht⟩) hS.2.2 dX11_comes_108
    · replace h := h.2 c
      refine lv_iconst (v := nI 0) hx hb dX11_comes_17 kc_0 ?_
      exact W.zret (v := nI 0) hx hb hr rfl (fun t ht hW => ⟨⟨_, g_w, rfl, h, ⟨by rw [ht]; exact hP, hD⟩⟩, hS.F ht⟩) hS.2.2 dX11_comes_18
set_option maxHeartbeats 4000000 in
set_option maxRecDepth 100000 in
theorem c_X11_becomes (l : Launch) (G : hcG) (h0 : Nat) (a_w : Nat) (a_kept : Nat) (a_laid : Nat) (a_refusals : Nat) (a_row : Nat) (a_letters : Nat) (a_hit : Nat) (a_lead : Nat) (a_defeat : Nat) (a_defeater : Nat) (a_order : Nat) (a_is : Nat) (a_was : Nat) (a_depths : Nat) (a_ways : Nat) (sz : Nat) (s_hasImage : Int32) (s_rows : Int32) (s_lettered : Int32) (s_ins : Int32) (s_outs : Int32) (s_ordered : Int32) (s_reading : Int32) (s_isWell : Int32) (s_z : Int32) (g_w : Nat → Int32) (x1 : Int32) (x2 : Int32) (x3 : Int32) (post : Int32 → (Nat → Int32) → Prop) (h : wp_X11_becomes post g_w x1 x2 x3) : Met l yX11_becomes wsX11_becomes ({ frames := 0, cells := 0, slots := 0, locals := 0 }) (hcPc G [.ref h0, .int x1, .int x2, .int x3] [ceX11 h0 a_w a_kept a_laid s_hasImage a_refusals a_row s_rows a_letters s_lettered a_hit a_lead a_defeat a_defeater s_ins s_outs a_order s_ordered a_is a_was s_reading s_isWell a_depths a_ways s_z, caI G a_w 43 g_w] sz) (va_Qi (fun (r : Int32) (u : (Nat → Int32)) => post r u) (hcB G (va_A [ceX11 h0 a_w a_kept a_laid s_hasImage a_refusals a_row s_rows a_letters s_lettered a_hit a_lead a_defeat a_defeater s_ins s_outs a_order s_ordered a_is a_was s_reading s_isWell a_depths a_ways s_z, caI G a_w 43 g_w] sz) (fun u : (Nat → Int32) => [ceX11 h0 a_w a_kept a_laid s_hasImage a_refusals a_row s_rows a_letters s_lettered a_hit a_lead a_defeat a_defeater s_ins s_outs a_order s_ordered a_is a_was s_reading s_isWell a_depths a_ways s_z, caI G a_w 43 u])) (va_A [ceX11 h0 a_w a_kept a_laid s_hasImage a_refusals a_row s_rows a_letters s_lettered a_hit a_lead a_defeat a_defeater s_ins s_outs a_order s_ordered a_is a_was s_reading s_isWell a_depths a_ways s_z, caI G a_w 43 g_w] sz)) 0 0 (va_A [ceX11 h0 a_w a_kept a_laid s_hasImage a_refusals a_row s_rows a_letters s_lettered a_hit a_lead a_defeat a_defeater s_ins s_outs a_order s_ordered a_is a_was s_reading s_isWell a_depths a_ways s_z, caI G a_w 43 g_w] sz) := by
  refine Met.ofW (cc := cX11_becomes) (maxL := 4) (ret := (some .boolean)) (by decide) rfl ?_
  intro p e s m args below meth c s₁ B hml hv
  obtain ⟨rfl, hsz, hP, hK, hD0⟩ := hv
  have hx := B.exec
  have hb := B.bytes
  have hr := B.returns
  have hts := atoms_spec (ws := wsX11_becomes) B.pre
  have hown : s.vm.findClass RX11 = some m.cls := findClass_of_methodNamed B.named
  have hlocks := B.notSynchronized
  subst hsz
  have hD := hD0.self (sz := s.heap.size)
  generalize hAe : va_A [ceX11 h0 a_w a_kept a_laid s_hasImage a_refusals a_row s_rows a_letters s_lettered a_hit a_lead a_defeat a_defeater s_ins s_outs a_order s_ordered a_is a_was s_reading s_isWell a_depths a_ways s_z, caI G a_w 43 g_w] s.heap.size = A at hD ⊢
  have hA : ∀ q : Nat, s.heap.size ≤ q → A q := fun q h => by rw [← hAe]; exact Or.inr h
  have hS : va_S A s.heap s.heap [] := va_S.rf
  have hP : va_P G.1 vwCl [ceX11 h0 a_w a_kept a_laid s_hasImage a_refusals a_row s_rows a_letters s_lettered a_hit a_lead a_defeat a_defeater s_ins s_outs a_order s_ordered a_is a_was s_reading s_isWell a_depths a_ways s_z, caI G a_w 43 g_w] s.heap := hP
  have hl := lv_entry ([.ref h0, .int x1, .int x2, .int x3]) (n := 4) (Nat.le_of_ble_eq_true rfl)
  rw [lg_entry_eq]
  generalize (lg_sl ([.ref h0, .int x1, .int x2, .int x3]) ++ List.replicate (4 - (lg_sl ([.ref h0, .int x1, .int x2, .int x3])).length) Slot.unset).toArray = ls at hl ⊢
  have hl : lv_has ls 4 [(0, .ref h0), (1, .int x1), (2, .int x2), (3, .int x3)] := hl
  have kf0 := hts (.fieldLink RX11 9 "HallOfClaimsModel" "w" "[I") (List.mem_of_getElem? (i := 1) (by decide +kernel))
  have ki_X11 : ∀ w ∈ u_ws RX11 TX11 24, w ∈ wsX11_becomes := by decide +kernel
  unfold wp_X11_becomes at h
  refine lv_iload_n hx hb dX11_becomes_0 rfl (lv_at hl 2 rfl) ?_
  refine lv_iconst (v := nI 5) hx hb dX11_becomes_1 kc_5 ?_
  refine lv_icmp_le (tgt := 7) hx hb dX11_becomes_2 (by decide) (fun c => ?_) (fun c => ?_)
  · replace h := h.1 c
    refine lv_aload_n hx hb dX11_becomes_7 rfl (lv_at hl 0 rfl) ?_
    refine va_get (D := G.1) (ci := 9) (v := .ref a_w) (C := RX11) (T := TX11) (N := 24) hx hb hts ki_X11 hown hK.1 hP 0 rfl rfl 0 (by decide) kf0 (fun _ h9 => h9) rfl dX11_becomes_8 ?_
    refine lv_iconst (v := nI 0) hx hb dX11_becomes_11 kc_0 ?_
    refine lv_iload_n hx hb dX11_becomes_12 rfl (lv_at hl 1 rfl) ?_
    refine lv_iadd hx hb dX11_becomes_13 ?_
    refine lv_iload_n hx hb dX11_becomes_14 rfl (lv_at hl 2 rfl) ?_
    have hin := h.1
    replace h := h.2
    refine va_iast hx hb hK.1 hP hD hS 1 0 rfl rfl hin dX11_becomes_15 (fun H locs hP hD hS => ?_)
    have hP : va_P G.1 vwCl [ceX11 h0 a_w a_kept a_laid s_hasImage a_refusals a_row s_rows a_letters s_lettered a_hit a_lead a_defeat a_defeater s_ins s_outs a_order s_ordered a_is a_was s_reading s_isWell a_depths a_ways s_z, caI G a_w 43 (upd g_w ((nI 0) + x1).toNatClampNeg x2)] H := hP
    have hD : va_D A [ceX11 h0 a_w a_kept a_laid s_hasImage a_refusals a_row s_rows a_letters s_lettered a_hit a_lead a_defeat a_defeater s_ins s_outs a_order s_ordered a_is a_was s_reading s_isWell a_depths a_ways s_z, caI G a_w 43 (upd g_w ((nI 0) + x1).toNatClampNeg x2)] := hD
    refine lv_aload_n hx hb dX11_becomes_16 rfl (lv_at hl 0 rfl) ?_
    refine va_get (D := G.1) (ci := 9) (v := .ref a_w) (C := RX11) (T := TX11) (N := 24) hx hb hts ki_X11 hown hK.1 hP 0 rfl rfl 0 (by decide) kf0 (fun _ h9 => h9) rfl dX11_becomes_17 ?_
    refine lv_bipush (v := nI 8) hx hb dX11_becomes_20 kb_8 ?_
    refine lv_iload_n hx hb dX11_becomes_22 rfl (lv_at hl 1 rfl) ?_
    refine lv_iadd hx hb dX11_becomes_23 ?_
    refine lv_iload_n hx hb dX11_becomes_24 rfl (lv_at hl 3 rfl) ?_
    have hin := h.1
    replace h := h.2
    refine va_iast hx hb hK.1 hP hD hS 1 0 rfl rfl hin dX11_becomes_25 (fun H locs hP hD hS => ?_)
    have hP : va_P G.1 vwCl [ceX11 h0 a_w a_kept a_laid s_hasImage a_refusals a_row s_rows a_letters s_lettered a_hit a_lead a_defeat a_defeater s_ins s_outs a_order s_ordered a_is a_was s_reading s_isWell a_depths a_ways s_z, caI G a_w 43 (upd (upd g_w ((nI 0) + x1).toNatClampNeg x2) ((nI 8) + x1).toNatClampNeg x3)] H := hP
    have hD : va_D A [ceX11 h0 a_w a_kept a_laid s_hasImage a_refusals a_row s_rows a_letters s_lettered a_hit a_lead a_defeat a_defeater s_ins s_outs a_order s_ordered a_is a_was s_reading s_isWell a_depths a_ways s_z, caI G a_w 43 (upd (upd g_w ((nI 0) + x1).toNatClampNeg x2) ((nI 8) + x1).toNatClampNeg x3)] := hD
    refine lv_iconst (v := nI 1) hx hb dX11_becomes_26 kc_1 ?_
    exact W.zret (v := nI 1) hx hb hr rfl (fun t ht hW => ⟨⟨_, (upd (upd g_w ((nI 0) + x1).toNatClampNeg x2) ((nI 8) + x1).toNatClampNeg x3), rfl, h, ⟨by rw [ht]; exact hP, hD⟩⟩, hS.F ht⟩) hS.2.2 dX11_becomes_27
  · replace h := h.2 c
    refine lv_iconst (v := nI 0) hx hb dX11_becomes_5 kc_0 ?_
    exact W.zret (v := nI 0) hx hb hr rfl (fun t ht hW => ⟨⟨_, g_w, rfl, h, ⟨by rw [ht]; exact hP, hD⟩⟩, hS.F ht⟩) hS.2.2 dX11_becomes_6
set_option maxHeartbeats 4000000 in
set_option maxRecDepth 100000 in
theorem c_X11_links (l : Launch) (G : hcG) (h0 : Nat) (a_w : Nat) (a_kept : Nat) (a_laid : Nat) (a_refusals : Nat) (a_row : Nat) (a_letters : Nat) (a_hit : Nat) (a_lead : Nat) (a_defeat : Nat) (a_defeater : Nat) (a_order : Nat) (a_is : Nat) (a_was : Nat) (a_depths : Nat) (a_ways : Nat) (sz : Nat) (s_hasImage : Int32) (s_rows : Int32) (s_lettered : Int32) (s_ins : Int32) (s_outs : Int32) (s_ordered : Int32) (s_reading : Int32) (s_isWell : Int32) (s_z : Int32) (g_w : Nat → Int32) (g_letters : Nat → Int32) (x1 : Int32) (post : Int32 → (Nat → Int32) → Prop) (h : wp_X11_links post g_w g_letters x1) : Met l yX11_links wsX11_links ({ frames := 2, cells := 0, slots := 0, locals := 46 }) (hcPc G [.ref h0, .int x1] [ceX11 h0 a_w a_kept a_laid s_hasImage a_refusals a_row s_rows a_letters s_lettered a_hit a_lead a_defeat a_defeater s_ins s_outs a_order s_ordered a_is a_was s_reading s_isWell a_depths a_ways s_z, caI G a_w 43 g_w, caI G a_letters 96 g_letters] sz) (va_Qi (fun (r : Int32) (u : (Nat → Int32)) => post r u) (hcB G (va_A [ceX11 h0 a_w a_kept a_laid s_hasImage a_refusals a_row s_rows a_letters s_lettered a_hit a_lead a_defeat a_defeater s_ins s_outs a_order s_ordered a_is a_was s_reading s_isWell a_depths a_ways s_z, caI G a_w 43 g_w, caI G a_letters 96 g_letters] sz) (fun u : (Nat → Int32) => [ceX11 h0 a_w a_kept a_laid s_hasImage a_refusals a_row s_rows a_letters s_lettered a_hit a_lead a_defeat a_defeater s_ins s_outs a_order s_ordered a_is a_was s_reading s_isWell a_depths a_ways s_z, caI G a_w 43 u, caI G a_letters 96 g_letters])) (va_A [ceX11 h0 a_w a_kept a_laid s_hasImage a_refusals a_row s_rows a_letters s_lettered a_hit a_lead a_defeat a_defeater s_ins s_outs a_order s_ordered a_is a_was s_reading s_isWell a_depths a_ways s_z, caI G a_w 43 g_w, caI G a_letters 96 g_letters] sz)) 0 0 (va_A [ceX11 h0 a_w a_kept a_laid s_hasImage a_refusals a_row s_rows a_letters s_lettered a_hit a_lead a_defeat a_defeater s_ins s_outs a_order s_ordered a_is a_was s_reading s_isWell a_depths a_ways s_z, caI G a_w 43 g_w, caI G a_letters 96 g_letters] sz) := by
  refine Met.ofW (cc := cX11_links) (maxL := 5) (ret := (some .boolean)) (by decide) rfl ?_
  intro p e s m args below meth c s₁ B hml hv
  obtain ⟨rfl, hsz, hP, hK, hD0⟩ := hv
  have hx := B.exec
  have hb := B.bytes
  have hr := B.returns
  have hts := atoms_spec (ws := wsX11_links) B.pre
  have hown : s.vm.findClass RX11 = some m.cls := findClass_of_methodNamed B.named
  have hlocks := B.notSynchronized
  subst hsz
  have hD := hD0.self (sz := s.heap.size)
  generalize hAe : va_A [ceX11 h0 a_w a_kept a_laid s_hasImage a_refusals a_row s_rows a_letters s_lettered a_hit a_lead a_defeat a_defeater s_ins s_outs a_order s_ordered a_is a_was s_reading s_isWell a_depths a_ways s_z, caI G a_w 43 g_w, caI G a_letters 96 g_letters] s.heap.size = A at hD ⊢
  have hA : ∀ q : Nat, s.heap.size ≤ q → A q := fun q h => by rw [← hAe]; exact Or.inr h
  have hS : va_S A s.heap s.heap [] := va_S.rf
  have hP : va_P G.1 vwCl [ceX11 h0 a_w a_kept a_laid s_hasImage a_refusals a_row s_rows a_letters s_lettered a_hit a_lead a_defeat a_defeater s_ins s_outs a_order s_ordered a_is a_was s_reading s_isWell a_depths a_ways s_z, caI G a_w 43 g_w, caI G a_letters 96 g_letters] s.heap := hP
  have hl := lv_entry ([.ref h0, .int x1]) (n := 5) (Nat.le_of_ble_eq_true rfl)
  rw [lg_entry_eq]
  generalize (lg_sl ([.ref h0, .int x1]) ++ List.replicate (5 - (lg_sl ([.ref h0, .int x1])).length) Slot.unset).toArray = ls at hl ⊢
  have hl : lv_has ls 5 [(0, .ref h0), (1, .int x1)] := hl
  have kf0 := hts (.fieldLink RX11 25 "HallOfClaimsModel" "letters" "[I") (List.mem_of_getElem? (i := 1) (by decide +kernel))
  have kf1 := hts (.fieldLink RX11 9 "HallOfClaimsModel" "w" "[I") (List.mem_of_getElem? (i := 2) (by decide +kernel))
  have ki_X11 : ∀ w ∈ u_ws RX11 TX11 24, w ∈ wsX11_links := by decide +kernel
  have w80 : ∀ (K2 : Int32 → (Nat → Int32) → Prop), (∀ (v2 : Int32) (g_w : Nat → Int32) , K2 v2 g_w → ∀ (H : Heap) (locs : List Loc) (ls : Array Slot), va_P G.1 vwCl [ceX11 h0 a_w a_kept a_laid s_hasImage a_refusals a_row s_rows a_letters s_lettered a_hit a_lead a_defeat a_defeater s_ins s_outs a_order s_ordered a_is a_was s_reading s_isWell a_depths a_ways s_z, caI G a_w 43 g_w, caI G a_letters 96 g_letters] H → va_D A [ceX11 h0 a_w a_kept a_laid s_hasImage a_refusals a_row s_rows a_letters s_lettered a_hit a_lead a_defeat a_defeater s_ins s_outs a_order s_ordered a_is a_was s_reading s_isWell a_depths a_ways s_z, caI G a_w 43 g_w, caI G a_letters 96 g_letters] → va_S A s.heap H locs → lv_has ls 5 [(0, .ref h0), (2, .int v2)] → W p l e (headSpec wsX11_links ({ frames := 2, cells := 0, slots := 0, locals := 46 })).room s m ([.ref h0, .int x1] : List Value).toArray below meth c H locs 0 0 (MQ below (va_Qi (fun (r : Int32) (u : (Nat → Int32)) => post r u) (hcB G A (fun u : (Nat → Int32) => [ceX11 h0 a_w a_kept a_laid s_hasImage a_refusals a_row s_rows a_letters s_lettered a_hit a_lead a_defeat a_defeater s_ins s_outs a_order s_ordered a_is a_was s_reading s_isWell a_depths a_ways s_z, caI G a_w 43 u, caI G a_letters 96 g_letters])) A) ([.ref h0, .int x1] : List Value).toArray s 0 0 A) (F0 m 2 ls [])) → ∀ (v2 : Int32) (v3 : Int32) (v4 : Int32) (g_w : Nat → Int32) (t0 : Int32) , wp_X11_links_80 post g_letters x1 K2 v2 v3 v4 g_w t0 → ∀ (H : Heap) (locs : List Loc) (ls : Array Slot), va_P G.1 vwCl [ceX11 h0 a_w a_kept a_laid s_hasImage a_refusals a_row s_rows a_letters s_lettered a_hit a_lead a_defeat a_defeater s_ins s_outs a_order s_ordered a_is a_was s_reading s_isWell a_depths a_ways s_z, caI G a_w 43 g_w, caI G a_letters 96 g_letters] H → va_D A [ceX11 h0 a_w a_kept a_laid s_hasImage a_refusals a_row s_rows a_letters s_lettered a_hit a_lead a_defeat a_defeater s_ins s_outs a_order s_ordered a_is a_was s_reading s_isWell a_depths a_ways s_z, caI G a_w 43 g_w, caI G a_letters 96 g_letters] → va_S A s.heap H locs → lv_has ls 5 [(0, .ref h0), (2, .int v2), (3, .int v3), (4, .int v4)] → W p l e (headSpec wsX11_links ({ frames := 2, cells := 0, slots := 0, locals := 46 })).room s m ([.ref h0, .int x1] : List Value).toArray below meth c H locs 0 0 (MQ below (va_Qi (fun (r : Int32) (u : (Nat → Int32)) => post r u) (hcB G A (fun u : (Nat → Int32) => [ceX11 h0 a_w a_kept a_laid s_hasImage a_refusals a_row s_rows a_letters s_lettered a_hit a_lead a_defeat a_defeater s_ins s_outs a_order s_ordered a_is a_was s_reading s_isWell a_depths a_ways s_z, caI G a_w 43 u, caI G a_letters 96 g_letters])) A) ([.ref h0, .int x1] : List Value).toArray s 0 0 A) (F0 m 80 ls [.int t0, .ref a_w]) := by
    intro K2 hK2 v2 v3 v4 g_w t0 h H locs ls hP hD hS hl
    unfold wp_X11_links_80 at h
    refine lv_iload_n hx hb dX11_links_80 rfl (lv_at hl 2 rfl) ?_
    refine lv_iadd hx hb dX11_links_81 ?_
    refine lv_dup2_11 hx hb dX11_links_82 rfl rfl ?_
    have hin := h.1
    replace h := h.2
    refine va_iald hx hb hK.1 hP 1 0 rfl rfl hin dX11_links_83 ?_
    refine lv_iconst (v := nI 1) hx hb dX11_links_84 kc_1 ?_
    refine lv_iload hx hb dX11_links_85 (lv_at hl 3 rfl) ?_
    refine lv_ishl hx hb dX11_links_87 ?_
    refine lv_ior hx hb dX11_links_88 ?_
    have hin := h.1
    replace h := h.2
    refine va_iast hx hb hK.1 hP hD hS 1 0 rfl rfl hin dX11_links_89 (fun H locs hP hD hS => ?_)
    have hP : va_P G.1 vwCl [ceX11 h0 a_w a_kept a_laid s_hasImage a_refusals a_row s_rows a_letters s_lettered a_hit a_lead a_defeat a_defeater s_ins s_outs a_order s_ordered a_is a_was s_reading s_isWell a_depths a_ways s_z, caI G a_w 43 (upd g_w (t0 + v3).toNatClampNeg ((g_w (t0 + v3).toNatClampNeg) ||| ((nI 1) <<< (v4 &&& 31)))), caI G a_letters 96 g_letters] H := hP
    have hD : va_D A [ceX11 h0 a_w a_kept a_laid s_hasImage a_refusals a_row s_rows a_letters s_lettered a_hit a_lead a_defeat a_defeater s_ins s_outs a_order s_ordered a_is a_was s_reading s_isWell a_depths a_ways s_z, caI G a_w 43 (upd g_w (t0 + v3).toNatClampNeg ((g_w (t0 + v3).toNatClampNeg) ||| ((nI 1) <<< (v4 &&& 31)))), caI G a_letters 96 g_letters] := hD
    refine lv_iinc (v := v2 + nI 2) (lv' := [(2, .int (v2 + nI 2)), (0, .ref h0), (3, .int v3), (4, .int v4)]) hx hb dX11_links_90 hl (k := 1) rfl (congrArg (fun q => v2 + q) kc_2) (by decide) rfl (fun ls hl => ?_)
    refine lv_goto (tgt := 2) hx hb dX11_links_93 (by decide) ?_
    exact hK2 (v2 + nI 2) (upd g_w (t0 + v3).toNatClampNeg ((g_w (t0 + v3).toNatClampNeg) ||| ((nI 1) <<< (v4 &&& 31)))) h _ _ _ hP hD hS (lv_sub hl [1, 0] rfl)
  have w2 : ∀ (n : Nat) (v2 : Int32) (g_w : Nat → Int32) , wp_X11_links_2 post g_letters x1 n v2 g_w → ∀ (H : Heap) (locs : List Loc) (ls : Array Slot), va_P G.1 vwCl [ceX11 h0 a_w a_kept a_laid s_hasImage a_refusals a_row s_rows a_letters s_lettered a_hit a_lead a_defeat a_defeater s_ins s_outs a_order s_ordered a_is a_was s_reading s_isWell a_depths a_ways s_z, caI G a_w 43 g_w, caI G a_letters 96 g_letters] H → va_D A [ceX11 h0 a_w a_kept a_laid s_hasImage a_refusals a_row s_rows a_letters s_lettered a_hit a_lead a_defeat a_defeater s_ins s_outs a_order s_ordered a_is a_was s_reading s_isWell a_depths a_ways s_z, caI G a_w 43 g_w, caI G a_letters 96 g_letters] → va_S A s.heap H locs → lv_has ls 5 [(0, .ref h0), (2, .int v2)] → W p l e (headSpec wsX11_links ({ frames := 2, cells := 0, slots := 0, locals := 46 })).room s m ([.ref h0, .int x1] : List Value).toArray below meth c H locs 0 0 (MQ below (va_Qi (fun (r : Int32) (u : (Nat → Int32)) => post r u) (hcB G A (fun u : (Nat → Int32) => [ceX11 h0 a_w a_kept a_laid s_hasImage a_refusals a_row s_rows a_letters s_lettered a_hit a_lead a_defeat a_defeater s_ins s_outs a_order s_ordered a_is a_was s_reading s_isWell a_depths a_ways s_z, caI G a_w 43 u, caI G a_letters 96 g_letters])) A) ([.ref h0, .int x1] : List Value).toArray s 0 0 A) (F0 m 2 ls []) := by
    intro n
    induction n with
    | zero => intro v2 g_w h; exact h.elim
    | succ n ih =>
      intro v2 g_w h H locs ls hP hD hS hl
      unfold wp_X11_links_2 at h
      refine lv_aload_n hx hb dX11_links_2 rfl (lv_at hl 0 rfl) ?_
      refine va_get (D := G.1) (ci := 9) (v := .ref a_letters) (C := RX11) (T := TX11) (N := 24) hx hb hts ki_X11 hown hK.1 hP 0 rfl rfl 7 (by decide) kf0 (fun _ h9 => h9) rfl dX11_links_3 ?_
      refine lv_iload_n hx hb dX11_links_6 rfl (lv_at hl 1 rfl) ?_
      refine lv_iconst (v := nI 1) hx hb dX11_links_7 kc_1 ?_
      refine lv_iadd hx hb dX11_links_8 ?_
      have hin := h.1
      replace h := h.2
      refine va_iald hx hb hK.1 hP 2 0 rfl rfl hin dX11_links_9 ?_
      refine hc_ki (wr := [ceX11 h0 a_w a_kept a_laid s_hasImage a_refusals a_row s_rows a_letters s_lettered a_hit a_lead a_defeat a_defeater s_ins s_outs a_order s_ordered a_is a_was s_reading s_isWell a_depths a_ways s_z, caI G a_w 43 g_w, caI G a_letters 96 g_letters]) (va_runS (As := [.int (g_letters (v2 + (nI 1)).toNatClampNeg)]) (rest := []) ⟨hx, hb, hml, hown, hts⟩ (c_X11_isLink l G H.size (g_letters (v2 + (nI 1)).toNatClampNeg) _ h) (va_cwS 1 hts gX11_links_X11_isLink rfl rfl rfl (by decide +kernel) ⟨Nat.le_of_ble_eq_true rfl, Nat.le_of_ble_eq_true rfl⟩) (hc_pS hK hP hD [] rfl rfl) rfl rfl hl.1 rfl (lv_room (Nat.le_of_ble_eq_true rfl)) dX11_links_10 ⟨Nat.le_refl _, Nat.le_refl _⟩) hP hD hS hA [] [0, 1, 2] rfl rfl rfl (by decide) (fun r10 u H locs h hP hD hS => ?_)
      try dsimp only at h
      have hP : va_P G.1 vwCl [ceX11 h0 a_w a_kept a_laid s_hasImage a_refusals a_row s_rows a_letters s_lettered a_hit a_lead a_defeat a_defeater s_ins s_outs a_order s_ordered a_is a_was s_reading s_isWell a_depths a_ways s_z, caI G a_w 43 g_w, caI G a_letters 96 g_letters] H := hP
      have hD : va_D A [ceX11 h0 a_w a_kept a_laid s_hasImage a_refusals a_row s_rows a_letters s_lettered a_hit a_lead a_defeat a_defeater s_ins s_outs a_order s_ordered a_is a_was s_reading s_isWell a_depths a_ways s_z, caI G a_w 43 g_w, caI G a_letters 96 g_letters] := hD
      refine lv_if_eq (tgt := 96) hx hb dX11_links_13 (by decide) (fun c => ?_) (fun c => ?_)
      · replace h := h.1 c
        refine lv_iconst (v := nI 1) hx hb dX11_links_96 kc_1 ?_
        exact W.zret (v := nI 1) hx hb hr rfl (fun t ht hW => ⟨⟨_, g_w, rfl, h, ⟨by rw [ht]; exact hP, hD⟩⟩, hS.F ht⟩) hS.2.2 dX11_links_97
      · replace h := h.2 c
        refine lv_aload_n hx hb dX11_links_16 rfl (lv_at hl 0 rfl) ?_
        refine va_get (D := G.1) (ci := 9) (v := .ref a_letters) (C := RX11) (T := TX11) (N := 24) hx hb hts ki_X11 hown hK.1 hP 0 rfl rfl 7 (by decide) kf0 (fun _ h9 => h9) rfl dX11_links_17 ?_
        refine lv_iload_n hx hb dX11_links_20 rfl (lv_at hl 1 rfl) ?_
        have hin := h.1
        replace h := h.2
        refine va_iald hx hb hK.1 hP 2 0 rfl rfl hin dX11_links_21 ?_
        refine lv_bipush (v := nI 97) hx hb dX11_links_22 kb_97 ?_
        refine lv_isub hx hb dX11_links_24 ?_
        refine lv_istore_n (lv' := [(3, .int ((g_letters v2.toNatClampNeg) - (nI 97))), (0, .ref h0), (2, .int v2)]) hx hb dX11_links_25 rfl hl (by decide) rfl (fun ls hl => ?_)
        refine lv_aload_n hx hb dX11_links_26 rfl (lv_at hl 1 rfl) ?_
        refine va_get (D := G.1) (ci := 9) (v := .ref a_letters) (C := RX11) (T := TX11) (N := 24) hx hb hts ki_X11 hown hK.1 hP 0 rfl rfl 7 (by decide) kf0 (fun _ h9 => h9) rfl dX11_links_27 ?_
        refine lv_iload_n hx hb dX11_links_30 rfl (lv_at hl 2 rfl) ?_
        refine lv_iconst (v := nI 2) hx hb dX11_links_31 kc_2 ?_
        refine lv_iadd hx hb dX11_links_32 ?_
        have hin := h.1
        replace h := h.2
        refine va_iald hx hb hK.1 hP 2 0 rfl rfl hin dX11_links_33 ?_
        refine lv_bipush (v := nI 97) hx hb dX11_links_34 kb_97 ?_
        refine lv_isub hx hb dX11_links_36 ?_
        refine lv_istore (lv' := [(4, .int ((g_letters (v2 + (nI 2)).toNatClampNeg) - (nI 97))), (3, .int ((g_letters v2.toNatClampNeg) - (nI 97))), (0, .ref h0), (2, .int v2)]) hx hb dX11_links_37 hl (by decide) rfl (fun ls hl => ?_)
        refine lv_aload_n hx hb dX11_links_39 rfl (lv_at hl 2 rfl) ?_
        refine lv_iload hx hb dX11_links_40 (lv_at hl 0 rfl) ?_
        refine hc_ki (wr := [caI G a_letters 96 g_letters]) (va_runV (As := [.int ((g_letters (v2 + (nI 2)).toNatClampNeg) - (nI 97))]) (rest := []) ⟨hx, hb, hml, hown, hts⟩ (c_X11_isClaim l G h0 a_w a_kept a_laid a_refusals a_row a_letters a_hit a_lead a_defeat a_defeater a_order a_is a_was a_depths a_ways H.size s_hasImage s_rows s_lettered s_ins s_outs s_ordered s_reading s_isWell s_z g_w ((g_letters (v2 + (nI 2)).toNatClampNeg) - (nI 97)) _ h) (cwV 1 hts gX11_links_X11_isClaim rfl rfl rfl (by decide +kernel) ⟨Nat.le_of_ble_eq_true rfl, Nat.le_of_ble_eq_true rfl⟩) (hc_pV hK hP hD [0, 1] rfl rfl (ci := 9) 0 rfl rfl) rfl rfl hl.1 rfl (lv_room (Nat.le_of_ble_eq_true rfl)) dX11_links_42 ⟨Nat.le_refl _, Nat.le_refl _⟩) hP hD hS hA [0, 1] [2] rfl rfl rfl (by decide) (fun r42 u H locs h hP hD hS => ?_)
        try dsimp only at h
        have hP : va_P G.1 vwCl [caI G a_letters 96 g_letters, ceX11 h0 a_w a_kept a_laid s_hasImage a_refusals a_row s_rows a_letters s_lettered a_hit a_lead a_defeat a_defeater s_ins s_outs a_order s_ordered a_is a_was s_reading s_isWell a_depths a_ways s_z, caI G a_w 43 g_w] H := hP
        have hD : va_D A [caI G a_letters 96 g_letters, ceX11 h0 a_w a_kept a_laid s_hasImage a_refusals a_row s_rows a_letters s_lettered a_hit a_lead a_defeat a_defeater s_ins s_outs a_order s_ordered a_is a_was s_reading s_isWell a_depths a_ways s_z, caI G a_w 43 g_w] := hD
        refine lv_if_eq (tgt := 54) hx hb dX11_links_45 (by decide) (fun c => ?_) (fun c => ?_)
        · replace h := h.1 c
          refine lv_iconst (v := nI 0) hx hb dX11_links_54 kc_0 ?_
          exact W.zret (v := nI 0) hx hb hr rfl (fun t ht hW => ⟨⟨_, g_w, rfl, h, ⟨by rw [ht]; exact (hP.sub [1, 2, 0] rfl), (hD.sub [1, 2, 0] (by decide) rfl)⟩⟩, hS.F ht⟩) hS.2.2 dX11_links_55
        · replace h := h.2 c
          refine lv_iload_n hx hb dX11_links_48 rfl (lv_at hl 1 rfl) ?_
          refine lv_iload hx hb dX11_links_49 (lv_at hl 0 rfl) ?_
          refine lv_icmp_ne (tgt := 56) hx hb dX11_links_51 (by decide) (fun c => ?_) (fun c => ?_)
          · replace h := h.1 c
            refine lv_aload_n hx hb dX11_links_56 rfl (lv_at hl 2 rfl) ?_
            refine va_get (D := G.1) (ci := 9) (v := .ref a_w) (C := RX11) (T := TX11) (N := 24) hx hb hts ki_X11 hown hK.1 hP 1 rfl rfl 0 (by decide) kf1 (fun _ h9 => h9) rfl dX11_links_57 ?_
            refine lv_aload_n hx hb dX11_links_60 rfl (lv_at hl 2 rfl) ?_
            refine va_get (D := G.1) (ci := 9) (v := .ref a_letters) (C := RX11) (T := TX11) (N := 24) hx hb hts ki_X11 hown hK.1 hP 1 rfl rfl 7 (by decide) kf0 (fun _ h9 => h9) rfl dX11_links_61 ?_
            refine lv_iload_n hx hb dX11_links_64 rfl (lv_at hl 3 rfl) ?_
            refine lv_iconst (v := nI 1) hx hb dX11_links_65 kc_1 ?_
            refine lv_iadd hx hb dX11_links_66 ?_
            have hin := h.1
            replace h := h.2
            refine va_iald hx hb hK.1 hP 0 0 rfl rfl hin dX11_links_67 ?_
            refine lv_bipush (v := nI 62) hx hb dX11_links_68 kb_62 ?_
            refine lv_icmp_ne (tgt := 78) hx hb dX11_links_70 (by decide) (fun c => ?_) (fun c => ?_)
            · replace h := h.1 c
              refine lv_bipush (v := nI 32) hx hb dX11_links_78 kb_32 ?_
              exact w80 ((wp_X11_links_2 post g_letters x1 n)) ih v2 ((g_letters v2.toNatClampNeg) - (nI 97)) ((g_letters (v2 + (nI 2)).toNatClampNeg) - (nI 97)) g_w (nI 32) h _ _ _ (hP.sub [1, 2, 0] rfl) (hD.sub [1, 2, 0] (by decide) rfl) hS (lv_sub hl [2, 3, 1, 0] rfl)
            · replace h := h.2 c
              refine lv_bipush (v := nI 24) hx hb dX11_links_73 kb_24 ?_
              refine lv_goto (tgt := 80) hx hb dX11_links_75 (by decide) ?_
              exact w80 ((wp_X11_links_2 post g_letters x1 n)) ih v2 ((g_letters v2.toNatClampNeg) - (nI 97)) ((g_letters (v2 + (nI 2)).toNatClampNeg) - (nI 97)) g_w (nI 24) h _ _ _ (hP.sub [1, 2, 0] rfl) (hD.sub [1, 2, 0] (by decide) rfl) hS (lv_sub hl [2, 3, 1, 0] rfl)
          · replace h := h.2 c
            refine lv_iconst (v := nI 0) hx hb dX11_links_54 kc_0 ?_
            exact W.zret (v := nI 0) hx hb hr rfl (fun t ht hW => ⟨⟨_, g_w, rfl, h, ⟨by rw [ht]; exact (hP.sub [1, 2, 0] rfl), (hD.sub [1, 2, 0] (by decide) rfl)⟩⟩, hS.F ht⟩) hS.2.2 dX11_links_55
  unfold wp_X11_links at h
  refine lv_iload_n hx hb dX11_links_0 rfl (lv_at hl 1 rfl) ?_
  refine lv_istore_n (lv' := [(2, .int x1), (0, .ref h0), (1, .int x1)]) hx hb dX11_links_1 rfl hl (by decide) rfl (fun ls hl => ?_)
  obtain ⟨n2, h⟩ := h
  exact w2  n2 x1 g_w h _ _ _ hP hD hS (lv_sub hl [1, 0] rfl)
