set_option maxHeartbeats 4000000 in
set_option maxRecDepth 100000 in
theorem c_X10_letter (l : Launch) (G : hcG) (h0 : Nat) (a_now : Nat) (a_kept : Nat) (a_reader : Nat) (a_numbers : Nat) (a_strife : Nat) (a_settled : Nat) (a_selection : Nat) (a_dispute : Nat) (a_trials : Nat) (a_refusals : Nat) (a_reader_letters : Nat) (a_reader_draft : Nat) (a_reader_letters_numbers : Nat) (sz : Nat) (s_isKept : Int32) (g_refusals : Nat → Int32) (s_reader_letters_length : Int32) (g_reader_letters_numbers : Nat → Int32) (x1 : Int32) (post : Int32 → (Nat → Int32) → Int32 → (Nat → Int32) → Prop) (h : wp_X10_letter post g_reader_letters_numbers s_reader_letters_length g_refusals x1) : Met l yX10_letter wsX10_letter ({ frames := 1, cells := 0, slots := 0, locals := 22 }) (hcPc G [.ref h0, .int x1] [ceX10 h0 a_now a_kept a_reader a_numbers a_strife a_settled a_selection a_dispute a_trials a_refusals s_isKept, ceX5 a_reader a_reader_letters a_reader_draft, caI G a_refusals 7 g_refusals, ceX6 a_reader_letters a_reader_letters_numbers s_reader_letters_length, caI G a_reader_letters_numbers 96 g_reader_letters_numbers] sz) (va_Qi (fun (r : Int32) (u : (Nat → Int32) × Int32 × (Nat → Int32)) => post r u.1 u.2.1 u.2.2) (hcB G (va_A [ceX10 h0 a_now a_kept a_reader a_numbers a_strife a_settled a_selection a_dispute a_trials a_refusals s_isKept, ceX5 a_reader a_reader_letters a_reader_draft, caI G a_refusals 7 g_refusals, ceX6 a_reader_letters a_reader_letters_numbers s_reader_letters_length, caI G a_reader_letters_numbers 96 g_reader_letters_numbers] sz) (fun u : (Nat → Int32) × Int32 × (Nat → Int32) => [ceX10 h0 a_now a_kept a_reader a_numbers a_strife a_settled a_selection a_dispute a_trials a_refusals s_isKept, ceX5 a_reader a_reader_letters a_reader_draft, caI G a_refusals 7 u.2.2, ceX6 a_reader_letters a_reader_letters_numbers u.2.1, caI G a_reader_letters_numbers 96 u.1])) (va_A [ceX10 h0 a_now a_kept a_reader a_numbers a_strife a_settled a_selection a_dispute a_trials a_refusals s_isKept, ceX5 a_reader a_reader_letters a_reader_draft, caI G a_refusals 7 g_refusals, ceX6 a_reader_letters a_reader_letters_numbers s_reader_letters_length, caI G a_reader_letters_numbers 96 g_reader_letters_numbers] sz)) 0 0 (va_A [ceX10 h0 a_now a_kept a_reader a_numbers a_strife a_settled a_selection a_dispute a_trials a_refusals s_isKept, ceX5 a_reader a_reader_letters a_reader_draft, caI G a_refusals 7 g_refusals, ceX6 a_reader_letters a_reader_letters_numbers s_reader_letters_length, caI G a_reader_letters_numbers 96 g_reader_letters_numbers] sz) := by
  refine Met.ofW (cc := cX10_letter) (maxL := 2) (ret := (some .int)) (by decide) rfl ?_
  intro p e s m args below meth c s₁ B hml hv
  obtain ⟨rfl, hsz, hP, hK, hD0⟩ := hv
  have hx := B.exec
  have hb := B.bytes
  have hr := B.returns
  have hts := atoms_spec (ws := wsX10_letter) B.pre
  have hown : s.vm.findClass RX10 = some m.cls := findClass_of_methodNamed B.named
  have hlocks := B.notSynchronized
  subst hsz
  have hD := hD0.self (sz := s.heap.size)
  generalize hAe : va_A [ceX10 h0 a_now a_kept a_reader a_numbers a_strife a_settled a_selection a_dispute a_trials a_refusals s_isKept, ceX5 a_reader a_reader_letters a_reader_draft, caI G a_refusals 7 g_refusals, ceX6 a_reader_letters a_reader_letters_numbers s_reader_letters_length, caI G a_reader_letters_numbers 96 g_reader_letters_numbers] s.heap.size = A at hD ⊢
  have hA : ∀ q : Nat, s.heap.size ≤ q → A q := fun q h => by rw [← hAe]; exact Or.inr h
  have hS : va_S A s.heap s.heap [] := va_S.rf
  have hP : va_P G.1 vwCl [ceX10 h0 a_now a_kept a_reader a_numbers a_strife a_settled a_selection a_dispute a_trials a_refusals s_isKept, ceX5 a_reader a_reader_letters a_reader_draft, caI G a_refusals 7 g_refusals, ceX6 a_reader_letters a_reader_letters_numbers s_reader_letters_length, caI G a_reader_letters_numbers 96 g_reader_letters_numbers] s.heap := hP
  have hl := lv_entry ([.ref h0, .int x1]) (n := 2) (Nat.le_of_ble_eq_true rfl)
  rw [lg_entry_eq]
  generalize (lg_sl ([.ref h0, .int x1]) ++ List.replicate (2 - (lg_sl ([.ref h0, .int x1])).length) Slot.unset).toArray = ls at hl ⊢
  have hl : lv_has ls 2 [(0, .ref h0), (1, .int x1)] := hl
  have kf0 := hts (.fieldLink RX10 22 "HallOfClaims" "reader" "LHallOfClaims$Reader;") (List.mem_of_getElem? (i := 1) (by decide +kernel))
  have kf1 := hts (.fieldLink RX10 82 "HallOfClaims$Reader" "letters" "LHallOfClaims$Row;") (List.mem_of_getElem? (i := 2) (by decide +kernel))
  have ki_X10 : ∀ w ∈ u_ws RX10 TX10 11, w ∈ wsX10_letter := by decide +kernel
  have ki_X5 : ∀ w ∈ u_ws RX5 TX5 2, w ∈ wsX10_letter := by decide +kernel
  unfold wp_X10_letter at h
  refine lv_iload_n hx hb dX10_letter_0 rfl (lv_at hl 1 rfl) ?_
  refine lv_if_ge (tgt := 11) hx hb dX10_letter_1 (by decide) (fun c => ?_) (fun c => ?_)
  · replace h := h.1 c
    refine lv_iload_n hx hb dX10_letter_11 rfl (lv_at hl 1 rfl) ?_
    refine lv_sipush (v := nI 255) hx hb dX10_letter_12 ks_255 ?_
    refine lv_icmp_gt (tgt := 31) hx hb dX10_letter_15 (by decide) (fun c => ?_) (fun c => ?_)
    · replace h := h.1 c
      refine lv_aload_n hx hb dX10_letter_31 rfl (lv_at hl 0 rfl) ?_
      refine lv_bipush (v := (-6 : Int32)) hx hb dX10_letter_32 kb_m6 ?_
      refine hc_ki (va_runV (As := [.int ((-6 : Int32))]) (rest := []) ⟨hx, hb, hml, hown, hts⟩ (c_X10_refuse l G h0 a_now a_kept a_reader a_numbers a_strife a_settled a_selection a_dispute a_trials a_refusals H.size s_isKept g_refusals ((-6 : Int32)) _ h) (cwV 1 hts gX10_letter_X10_refuse rfl rfl rfl (by decide +kernel) ⟨Nat.le_of_ble_eq_true rfl, Nat.le_of_ble_eq_true rfl⟩) (hc_pV hK hP hD [0, 2] rfl rfl (ci := 8) 0 rfl rfl) rfl rfl hl.1 rfl (lv_room (Nat.le_of_ble_eq_true rfl)) dX10_letter_34 ⟨Nat.le_refl _, Nat.le_refl _⟩) hP hD hS hA [0, 2] [1, 3, 4] rfl rfl rfl (by decide) (fun r34 u H locs h hP hD hS => ?_)
      obtain ⟨g_refusals_34, rfl⟩ : ∃ z, z = u := ⟨_, rfl⟩
      try dsimp only at h
      have hP : va_P G.1 vwCl [ceX5 a_reader a_reader_letters a_reader_draft, ceX6 a_reader_letters a_reader_letters_numbers s_reader_letters_length, caI G a_reader_letters_numbers 96 g_reader_letters_numbers, ceX10 h0 a_now a_kept a_reader a_numbers a_strife a_settled a_selection a_dispute a_trials a_refusals s_isKept, caI G a_refusals 7 g_refusals_34] H := hP
      have hD : va_D A [ceX5 a_reader a_reader_letters a_reader_draft, ceX6 a_reader_letters a_reader_letters_numbers s_reader_letters_length, caI G a_reader_letters_numbers 96 g_reader_letters_numbers, ceX10 h0 a_now a_kept a_reader a_numbers a_strife a_settled a_selection a_dispute a_trials a_refusals s_isKept, caI G a_refusals 7 g_refusals_34] := hD
      exact W.iret (v := r34) hx hb hr (fun t ht hW => ⟨⟨_, ⟨g_reader_letters_numbers, s_reader_letters_length, g_refusals_34⟩, rfl, h, ⟨by rw [ht]; exact (hP.sub [3, 0, 4, 1, 2] rfl), (hD.sub [3, 0, 4, 1, 2] (by decide) rfl)⟩⟩, hS.F ht⟩) hS.2.2 dX10_letter_37
    · replace h := h.2 c
      refine lv_aload_n hx hb dX10_letter_18 rfl (lv_at hl 0 rfl) ?_
      refine va_get (D := G.1) (ci := 8) (v := .ref a_reader) (C := RX10) (T := TX10) (N := 11) hx hb hts ki_X10 hown hK.1 hP 0 rfl rfl 2 (by decide) kf0 (fun _ h9 => h9) rfl dX10_letter_19 ?_
      refine va_get (D := G.1) (ci := 3) (v := .ref a_reader_letters) (C := RX5) (T := TX5) (N := 2) hx hb hts ki_X5 hown hK.1 hP 1 rfl rfl 0 (by decide) kf1 (fun _ h9 => h9) rfl dX10_letter_22 ?_
      refine hc_ki (va_runV (As := []) (rest := []) ⟨hx, hb, hml, hown, hts⟩ (c_X6_isFull l G a_reader_letters a_reader_letters_numbers H.size 96 s_reader_letters_length g_reader_letters_numbers _ h) (cwV 0 hts gX10_letter_X6_isFull rfl rfl rfl (by decide +kernel) ⟨Nat.le_of_ble_eq_true rfl, Nat.le_of_ble_eq_true rfl⟩) (hc_pV hK hP hD [3, 4] rfl rfl (ci := 4) 3 rfl rfl) rfl rfl hl.1 rfl (lv_room (Nat.le_of_ble_eq_true rfl)) dX10_letter_25 ⟨Nat.le_refl _, Nat.le_refl _⟩) hP hD hS hA [3, 4] [0, 1, 2] rfl rfl rfl (by decide) (fun r25 u H locs h hP hD hS => ?_)
      try dsimp only at h
      have hP : va_P G.1 vwCl [ceX10 h0 a_now a_kept a_reader a_numbers a_strife a_settled a_selection a_dispute a_trials a_refusals s_isKept, ceX5 a_reader a_reader_letters a_reader_draft, caI G a_refusals 7 g_refusals, ceX6 a_reader_letters a_reader_letters_numbers s_reader_letters_length, caI G a_reader_letters_numbers 96 g_reader_letters_numbers] H := hP
      have hD : va_D A [ceX10 h0 a_now a_kept a_reader a_numbers a_strife a_settled a_selection a_dispute a_trials a_refusals s_isKept, ceX5 a_reader a_reader_letters a_reader_draft, caI G a_refusals 7 g_refusals, ceX6 a_reader_letters a_reader_letters_numbers s_reader_letters_length, caI G a_reader_letters_numbers 96 g_reader_letters_numbers] := hD
      refine lv_if_eq (tgt := 38) hx hb dX10_letter_28 (by decide) (fun c => ?_) (fun c => ?_)
      · replace h := h.1 c
        refine lv_aload_n hx hb dX10_letter_38 rfl (lv_at hl 0 rfl) ?_
        refine va_get (D := G.1) (ci := 8) (v := .ref a_reader) (C := RX10) (T := TX10) (N := 11) hx hb hts ki_X10 hown hK.1 hP 0 rfl rfl 2 (by decide) kf0 (fun _ h9 => h9) rfl dX10_letter_39 ?_
        refine va_get (D := G.1) (ci := 3) (v := .ref a_reader_letters) (C := RX5) (T := TX5) (N := 2) hx hb hts ki_X5 hown hK.1 hP 1 rfl rfl 0 (by decide) kf1 (fun _ h9 => h9) rfl dX10_letter_42 ?_
        refine lv_iload_n hx hb dX10_letter_45 rfl (lv_at hl 1 rfl) ?_
        refine hc_ki (va_runV (As := [.int x1]) (rest := []) ⟨hx, hb, hml, hown, hts⟩ (c_X6_add l G a_reader_letters a_reader_letters_numbers H.size 96 s_reader_letters_length g_reader_letters_numbers x1 _ h) (cwV 1 hts gX10_letter_X6_add rfl rfl rfl (by decide +kernel) ⟨Nat.le_of_ble_eq_true rfl, Nat.le_of_ble_eq_true rfl⟩) (hc_pV hK hP hD [3, 4] rfl rfl (ci := 4) 3 rfl rfl) rfl rfl hl.1 rfl (lv_room (Nat.le_of_ble_eq_true rfl)) dX10_letter_46 ⟨Nat.le_refl _, Nat.le_refl _⟩) hP hD hS hA [3, 4] [0, 1, 2] rfl rfl rfl (by decide) (fun r46 u H locs h hP hD hS => ?_)
        obtain ⟨g_reader_letters_numbers_46, s_reader_letters_length_46⟩ := u
        try dsimp only at h
        have hP : va_P G.1 vwCl [ceX10 h0 a_now a_kept a_reader a_numbers a_strife a_settled a_selection a_dispute a_trials a_refusals s_isKept, ceX5 a_reader a_reader_letters a_reader_draft, caI G a_refusals 7 g_refusals, ceX6 a_reader_letters a_reader_letters_numbers s_reader_letters_length_46, caI G a_reader_letters_numbers 96 g_reader_letters_numbers_46] H := hP
        have hD : va_D A [ceX10 h0 a_now a_kept a_reader a_numbers a_strife a_settled a_selection a_dispute a_trials a_refusals s_isKept, ceX5 a_reader a_reader_letters a_reader_draft, caI G a_refusals 7 g_refusals, ceX6 a_reader_letters a_reader_letters_numbers s_reader_letters_length_46, caI G a_reader_letters_numbers 96 g_reader_letters_numbers_46] := hD
        exact W.iret (v := r46) hx hb hr (fun t ht hW => ⟨⟨_, ⟨g_reader_letters_numbers_46, s_reader_letters_length_46, g_refusals⟩, rfl, h, ⟨by rw [ht]; exact hP, hD⟩⟩, hS.F ht⟩) hS.2.2 dX10_letter_49
      · replace h := h.2 c
        refine lv_aload_n hx hb dX10_letter_31 rfl (lv_at hl 0 rfl) ?_
        refine lv_bipush (v := (-6 : Int32)) hx hb dX10_letter_32 kb_m6 ?_
        refine hc_ki (va_runV (As := [.int ((-6 : Int32))]) (rest := []) ⟨hx, hb, hml, hown, hts⟩ (c_X10_refuse l G h0 a_now a_kept a_reader a_numbers a_strife a_settled a_selection a_dispute a_trials a_refusals H.size s_isKept g_refusals ((-6 : Int32)) _ h) (cwV 1 hts gX10_letter_X10_refuse rfl rfl rfl (by decide +kernel) ⟨Nat.le_of_ble_eq_true rfl, Nat.le_of_ble_eq_true rfl⟩) (hc_pV hK hP hD [0, 2] rfl rfl (ci := 8) 0 rfl rfl) rfl rfl hl.1 rfl (lv_room (Nat.le_of_ble_eq_true rfl)) dX10_letter_34 ⟨Nat.le_refl _, Nat.le_refl _⟩) hP hD hS hA [0, 2] [1, 3, 4] rfl rfl rfl (by decide) (fun r34 u H locs h hP hD hS => ?_)
        obtain ⟨g_refusals_34, rfl⟩ : ∃ z, z = u := ⟨_, rfl⟩
        try dsimp only at h
        have hP : va_P G.1 vwCl [ceX5 a_reader a_reader_letters a_reader_draft, ceX6 a_reader_letters a_reader_letters_numbers s_reader_letters_length, caI G a_reader_letters_numbers 96 g_reader_letters_numbers, ceX10 h0 a_now a_kept a_reader a_numbers a_strife a_settled a_selection a_dispute a_trials a_refusals s_isKept, caI G a_refusals 7 g_refusals_34] H := hP
        have hD : va_D A [ceX5 a_reader a_reader_letters a_reader_draft, ceX6 a_reader_letters a_reader_letters_numbers s_reader_letters_length, caI G a_reader_letters_numbers 96 g_reader_letters_numbers, ceX10 h0 a_now a_kept a_reader a_numbers a_strife a_settled a_selection a_dispute a_trials a_refusals s_isKept, caI G a_refusals 7 g_refusals_34] := hD
        exact W.iret (v := r34) hx hb hr (fun t ht hW => ⟨⟨_, ⟨g_reader_letters_numbers, s_reader_letters_length, g_refusals_34⟩, rfl, h, ⟨by rw [ht]; exact (hP.sub [3, 0, 4, 1, 2] rfl), (hD.sub [3, 0, 4, 1, 2] (by decide) rfl)⟩⟩, hS.F ht⟩) hS.2.2 dX10_letter_37
  · replace h := h.2 c
    refine lv_aload_n hx hb dX10_letter_4 rfl (lv_at hl 0 rfl) ?_
    refine lv_bipush (v := (-4 : Int32)) hx hb dX10_letter_5 kb_m4 ?_
    refine hc_ki (va_runV (As := [.int ((-4 : Int32))]) (rest := []) ⟨hx, hb, hml, hown, hts⟩ (c_X10_refuse l G h0 a_now a_kept a_reader a_numbers a_strife a_settled a_selection a_dispute a_trials a_refusals H.size s_isKept g_refusals ((-4 : Int32)) _ h) (cwV 1 hts gX10_letter_X10_refuse rfl rfl rfl (by decide +kernel) ⟨Nat.le_of_ble_eq_true rfl, Nat.le_of_ble_eq_true rfl⟩) (hc_pV hK hP hD [0, 2] rfl rfl (ci := 8) 0 rfl rfl) rfl rfl hl.1 rfl (lv_room (Nat.le_of_ble_eq_true rfl)) dX10_letter_7 ⟨Nat.le_refl _, Nat.le_refl _⟩) hP hD hS hA [0, 2] [1, 3, 4] rfl rfl rfl (by decide) (fun r7 u H locs h hP hD hS => ?_)
    obtain ⟨g_refusals_7, rfl⟩ : ∃ z, z = u := ⟨_, rfl⟩
    try dsimp only at h
    have hP : va_P G.1 vwCl [ceX5 a_reader a_reader_letters a_reader_draft, ceX6 a_reader_letters a_reader_letters_numbers s_reader_letters_length, caI G a_reader_letters_numbers 96 g_reader_letters_numbers, ceX10 h0 a_now a_kept a_reader a_numbers a_strife a_settled a_selection a_dispute a_trials a_refusals s_isKept, caI G a_refusals 7 g_refusals_7] H := hP
    have hD : va_D A [ceX5 a_reader a_reader_letters a_reader_draft, ceX6 a_reader_letters a_reader_letters_numbers s_reader_letters_length, caI G a_reader_letters_numbers 96 g_reader_letters_numbers, ceX10 h0 a_now a_kept a_reader a_numbers a_strife a_settled a_selection a_dispute a_trials a_refusals s_isKept, caI G a_refusals 7 g_refusals_7] := hD
    exact W.iret (v := r7) hx hb hr (fun t ht hW => ⟨⟨_, ⟨g_reader_letters_numbers, s_reader_letters_length, g_refusals_7⟩, rfl, h, ⟨by rw [ht]; exact (hP.sub [3, 0, 4, 1, 2] rfl), (hD.sub [3, 0, 4, 1, 2] (by decide) rfl)⟩⟩, hS.F ht⟩) hS.2.2 dX10_letter_10
set_option maxHeartbeats 4000000 in
set_option maxRecDepth 100000 in
theorem c_X10_hall (l : Launch) (G : hcG) (h0 : Nat) (a_now : Nat) (a_kept : Nat) (a_reader : Nat) (a_numbers : Nat) (a_strife : Nat) (a_settled : Nat) (a_selection : Nat) (a_dispute : Nat) (a_trials : Nat) (a_refusals : Nat) (a_reader_letters : Nat) (a_reader_draft : Nat) (a_reader_letters_numbers : Nat) (sz : Nat) (s_isKept : Int32) (s_now_size : Int32) (s_now_heard : Int32) (s_now_mode : Int32) (s_now_cast : Int64) (s_now_figures : Int64) (s_now_voices : Int64) (s_now_attacks : Int64) (s_now_supports : Int64) (s_reader_letters_length : Int32) (s_reader_draft_size : Int32) (s_reader_draft_heard : Int32) (s_reader_draft_mode : Int32) (s_reader_draft_cast : Int64) (s_reader_draft_figures : Int64) (s_reader_draft_voices : Int64) (s_reader_draft_attacks : Int64) (s_reader_draft_supports : Int64) (g_reader_letters_numbers : Nat → Int32) (post : Int32 → Int32 → Int32 → Int32 → Int64 → Int64 → Int64 → Int64 → Int64 → Int32 → Int32 → Int32 → Int32 → Int64 → Int64 → Int64 → Int64 → Int64 → Prop) (h : wp_X10_hall post s_now_size s_now_heard s_now_mode s_now_cast s_now_figures s_now_voices s_now_attacks s_now_supports g_reader_letters_numbers s_reader_letters_length s_reader_draft_size s_reader_draft_heard s_reader_draft_mode s_reader_draft_cast s_reader_draft_figures s_reader_draft_voices s_reader_draft_attacks s_reader_draft_supports) : Met l yX10_hall wsX10_hall ({ frames := 6, cells := 0, slots := 0, locals := 141 }) (hcPc G [.ref h0] [ceX10 h0 a_now a_kept a_reader a_numbers a_strife a_settled a_selection a_dispute a_trials a_refusals s_isKept, ceX3 a_now s_now_size s_now_heard s_now_mode s_now_cast s_now_figures s_now_voices s_now_attacks s_now_supports, ceX5 a_reader a_reader_letters a_reader_draft, ceX6 a_reader_letters a_reader_letters_numbers s_reader_letters_length, ceX3 a_reader_draft s_reader_draft_size s_reader_draft_heard s_reader_draft_mode s_reader_draft_cast s_reader_draft_figures s_reader_draft_voices s_reader_draft_attacks s_reader_draft_supports, caI G a_reader_letters_numbers 96 g_reader_letters_numbers] sz) (va_Qi (fun (r : Int32) (u : Int32 × Int32 × Int32 × Int64 × Int64 × Int64 × Int64 × Int64 × Int32 × Int32 × Int32 × Int32 × Int64 × Int64 × Int64 × Int64 × Int64) => post r u.1 u.2.1 u.2.2.1 u.2.2.2.1 u.2.2.2.2.1 u.2.2.2.2.2.1 u.2.2.2.2.2.2.1 u.2.2.2.2.2.2.2.1 u.2.2.2.2.2.2.2.2.1 u.2.2.2.2.2.2.2.2.2.1 u.2.2.2.2.2.2.2.2.2.2.1 u.2.2.2.2.2.2.2.2.2.2.2.1 u.2.2.2.2.2.2.2.2.2.2.2.2.1 u.2.2.2.2.2.2.2.2.2.2.2.2.2.1 u.2.2.2.2.2.2.2.2.2.2.2.2.2.2.1 u.2.2.2.2.2.2.2.2.2.2.2.2.2.2.2.1 u.2.2.2.2.2.2.2.2.2.2.2.2.2.2.2.2) (hcB G (va_A [ceX10 h0 a_now a_kept a_reader a_numbers a_strife a_settled a_selection a_dispute a_trials a_refusals s_isKept, ceX3 a_now s_now_size s_now_heard s_now_mode s_now_cast s_now_figures s_now_voices s_now_attacks s_now_supports, ceX5 a_reader a_reader_letters a_reader_draft, ceX6 a_reader_letters a_reader_letters_numbers s_reader_letters_length, ceX3 a_reader_draft s_reader_draft_size s_reader_draft_heard s_reader_draft_mode s_reader_draft_cast s_reader_draft_figures s_reader_draft_voices s_reader_draft_attacks s_reader_draft_supports, caI G a_reader_letters_numbers 96 g_reader_letters_numbers] sz) (fun u : Int32 × Int32 × Int32 × Int64 × Int64 × Int64 × Int64 × Int64 × Int32 × Int32 × Int32 × Int32 × Int64 × Int64 × Int64 × Int64 × Int64 => [ceX10 h0 a_now a_kept a_reader a_numbers a_strife a_settled a_selection a_dispute a_trials a_refusals s_isKept, ceX3 a_now u.1 u.2.1 u.2.2.1 u.2.2.2.1 u.2.2.2.2.1 u.2.2.2.2.2.1 u.2.2.2.2.2.2.1 u.2.2.2.2.2.2.2.1, ceX5 a_reader a_reader_letters a_reader_draft, ceX6 a_reader_letters a_reader_letters_numbers u.2.2.2.2.2.2.2.2.1, ceX3 a_reader_draft u.2.2.2.2.2.2.2.2.2.1 u.2.2.2.2.2.2.2.2.2.2.1 u.2.2.2.2.2.2.2.2.2.2.2.1 u.2.2.2.2.2.2.2.2.2.2.2.2.1 u.2.2.2.2.2.2.2.2.2.2.2.2.2.1 u.2.2.2.2.2.2.2.2.2.2.2.2.2.2.1 u.2.2.2.2.2.2.2.2.2.2.2.2.2.2.2.1 u.2.2.2.2.2.2.2.2.2.2.2.2.2.2.2.2, caI G a_reader_letters_numbers 96 g_reader_letters_numbers])) (va_A [ceX10 h0 a_now a_kept a_reader a_numbers a_strife a_settled a_selection a_dispute a_trials a_refusals s_isKept, ceX3 a_now s_now_size s_now_heard s_now_mode s_now_cast s_now_figures s_now_voices s_now_attacks s_now_supports, ceX5 a_reader a_reader_letters a_reader_draft, ceX6 a_reader_letters a_reader_letters_numbers s_reader_letters_length, ceX3 a_reader_draft s_reader_draft_size s_reader_draft_heard s_reader_draft_mode s_reader_draft_cast s_reader_draft_figures s_reader_draft_voices s_reader_draft_attacks s_reader_draft_supports, caI G a_reader_letters_numbers 96 g_reader_letters_numbers] sz)) 0 0 (va_A [ceX10 h0 a_now a_kept a_reader a_numbers a_strife a_settled a_selection a_dispute a_trials a_refusals s_isKept, ceX3 a_now s_now_size s_now_heard s_now_mode s_now_cast s_now_figures s_now_voices s_now_attacks s_now_supports, ceX5 a_reader a_reader_letters a_reader_draft, ceX6 a_reader_letters a_reader_letters_numbers s_reader_letters_length, ceX3 a_reader_draft s_reader_draft_size s_reader_draft_heard s_reader_draft_mode s_reader_draft_cast s_reader_draft_figures s_reader_draft_voices s_reader_draft_attacks s_reader_draft_supports, caI G a_reader_letters_numbers 96 g_reader_letters_numbers] sz) := by
  refine Met.ofW (cc := cX10_hall) (maxL := 2) (ret := (some .int)) (by decide) rfl ?_
  intro p e s m args below meth c s₁ B hml hv
  obtain ⟨rfl, hsz, hP, hK, hD0⟩ := hv
  have hx := B.exec
  have hb := B.bytes
  have hr := B.returns
  have hts := atoms_spec (ws := wsX10_hall) B.pre
  have hown : s.vm.findClass RX10 = some m.cls := findClass_of_methodNamed B.named
  have hlocks := B.notSynchronized
  subst hsz
  have hD := hD0.self (sz := s.heap.size)
  generalize hAe : va_A [ceX10 h0 a_now a_kept a_reader a_numbers a_strife a_settled a_selection a_dispute a_trials a_refusals s_isKept, ceX3 a_now s_now_size s_now_heard s_now_mode s_now_cast s_now_figures s_now_voices s_now_attacks s_now_supports, ceX5 a_reader a_reader_letters a_reader_draft, ceX6 a_reader_letters a_reader_letters_numbers s_reader_letters_length, ceX3 a_reader_draft s_reader_draft_size s_reader_draft_heard s_reader_draft_mode s_reader_draft_cast s_reader_draft_figures s_reader_draft_voices s_reader_draft_attacks s_reader_draft_supports, caI G a_reader_letters_numbers 96 g_reader_letters_numbers] s.heap.size = A at hD ⊢
  have hA : ∀ q : Nat, s.heap.size ≤ q → A q := fun q h => by rw [← hAe]; exact Or.inr h
  have hS : va_S A s.heap s.heap [] := va_S.rf
  have hP : va_P G.1 vwCl [ceX10 h0 a_now a_kept a_reader a_numbers a_strife a_settled a_selection a_dispute a_trials a_refusals s_isKept, ceX3 a_now s_now_size s_now_heard s_now_mode s_now_cast s_now_figures s_now_voices s_now_attacks s_now_supports, ceX5 a_reader a_reader_letters a_reader_draft, ceX6 a_reader_letters a_reader_letters_numbers s_reader_letters_length, ceX3 a_reader_draft s_reader_draft_size s_reader_draft_heard s_reader_draft_mode s_reader_draft_cast s_reader_draft_figures s_reader_draft_voices s_reader_draft_attacks s_reader_draft_supports, caI G a_reader_letters_numbers 96 g_reader_letters_numbers] s.heap := hP
  have hl := lv_entry ([.ref h0]) (n := 2) (Nat.le_of_ble_eq_true rfl)
  rw [lg_entry_eq]
  generalize (lg_sl ([.ref h0]) ++ List.replicate (2 - (lg_sl ([.ref h0])).length) Slot.unset).toArray = ls at hl ⊢
  have hl : lv_has ls 2 [(0, .ref h0)] := hl
  have kf0 := hts (.fieldLink RX10 22 "HallOfClaims" "reader" "LHallOfClaims$Reader;") (List.mem_of_getElem? (i := 1) (by decide +kernel))
  have kf1 := hts (.fieldLink RX10 10 "HallOfClaims" "now" "LHallOfClaims$Hall;") (List.mem_of_getElem? (i := 2) (by decide +kernel))
  have kf2 := hts (.fieldLink RX10 82 "HallOfClaims$Reader" "letters" "LHallOfClaims$Row;") (List.mem_of_getElem? (i := 3) (by decide +kernel))
  have kf3 := hts (.fieldLink RX10 96 "HallOfClaims$Row" "length" "I") (List.mem_of_getElem? (i := 4) (by decide +kernel))
  have ki_X10 : ∀ w ∈ u_ws RX10 TX10 11, w ∈ wsX10_hall := by decide +kernel
  have ki_X5 : ∀ w ∈ u_ws RX5 TX5 2, w ∈ wsX10_hall := by decide +kernel
  have ki_X6 : ∀ w ∈ u_ws RX6 TX6 2, w ∈ wsX10_hall := by decide +kernel
  unfold wp_X10_hall at h
  refine lv_aload_n hx hb dX10_hall_0 rfl (lv_at hl 0 rfl) ?_
  refine va_get (D := G.1) (ci := 8) (v := .ref a_reader) (C := RX10) (T := TX10) (N := 11) hx hb hts ki_X10 hown hK.1 hP 0 rfl rfl 2 (by decide) kf0 (fun _ h9 => h9) rfl dX10_hall_1 ?_
  refine lv_aload_n hx hb dX10_hall_4 rfl (lv_at hl 0 rfl) ?_
  refine va_get (D := G.1) (ci := 8) (v := .ref a_now) (C := RX10) (T := TX10) (N := 11) hx hb hts ki_X10 hown hK.1 hP 0 rfl rfl 0 (by decide) kf1 (fun _ h9 => h9) rfl dX10_hall_5 ?_
  refine hc_ki (va_runV (As := [.ref a_now]) (rest := []) ⟨hx, hb, hml, hown, hts⟩ (c_X5_read l G a_reader a_reader_letters a_reader_draft a_now a_reader_letters_numbers H.size s_now_size s_now_heard s_now_mode s_now_cast s_now_figures s_now_voices s_now_attacks s_now_supports s_reader_letters_length s_reader_draft_size s_reader_draft_heard s_reader_draft_mode s_reader_draft_cast s_reader_draft_figures s_reader_draft_voices s_reader_draft_attacks s_reader_draft_supports g_reader_letters_numbers _ h) (cwV 1 hts gX10_hall_X5_read rfl rfl rfl (by decide +kernel) ⟨Nat.le_of_ble_eq_true rfl, Nat.le_of_ble_eq_true rfl⟩) (hc_pV hK hP hD [2, 1, 3, 4, 5] rfl rfl (ci := 3) 2 rfl rfl) rfl rfl hl.1 rfl (lv_room (Nat.le_of_ble_eq_true rfl)) dX10_hall_8 ⟨Nat.le_refl _, Nat.le_refl _⟩) hP hD hS hA [2, 1, 3, 4, 5] [0] rfl rfl rfl (by decide) (fun r8 u H locs h hP hD hS => ?_)
  obtain ⟨s_reader_draft_size_8, s_reader_draft_heard_8, s_reader_draft_mode_8, s_reader_draft_cast_8, s_reader_draft_figures_8, s_reader_draft_voices_8, s_reader_draft_attacks_8, s_reader_draft_supports_8, s_now_size_8, s_now_heard_8, s_now_mode_8, s_now_cast_8, s_now_figures_8, s_now_voices_8, s_now_attacks_8, s_now_supports_8⟩ := u
  try dsimp only at h
  have hP : va_P G.1 vwCl [ceX10 h0 a_now a_kept a_reader a_numbers a_strife a_settled a_selection a_dispute a_trials a_refusals s_isKept, ceX5 a_reader a_reader_letters a_reader_draft, ceX3 a_now s_now_size_8 s_now_heard_8 s_now_mode_8 s_now_cast_8 s_now_figures_8 s_now_voices_8 s_now_attacks_8 s_now_supports_8, ceX6 a_reader_letters a_reader_letters_numbers s_reader_letters_length, ceX3 a_reader_draft s_reader_draft_size_8 s_reader_draft_heard_8 s_reader_draft_mode_8 s_reader_draft_cast_8 s_reader_draft_figures_8 s_reader_draft_voices_8 s_reader_draft_attacks_8 s_reader_draft_supports_8, caI G a_reader_letters_numbers 96 g_reader_letters_numbers] H := hP
  have hD : va_D A [ceX10 h0 a_now a_kept a_reader a_numbers a_strife a_settled a_selection a_dispute a_trials a_refusals s_isKept, ceX5 a_reader a_reader_letters a_reader_draft, ceX3 a_now s_now_size_8 s_now_heard_8 s_now_mode_8 s_now_cast_8 s_now_figures_8 s_now_voices_8 s_now_attacks_8 s_now_supports_8, ceX6 a_reader_letters a_reader_letters_numbers s_reader_letters_length, ceX3 a_reader_draft s_reader_draft_size_8 s_reader_draft_heard_8 s_reader_draft_mode_8 s_reader_draft_cast_8 s_reader_draft_figures_8 s_reader_draft_voices_8 s_reader_draft_attacks_8 s_reader_draft_supports_8, caI G a_reader_letters_numbers 96 g_reader_letters_numbers] := hD
  refine lv_istore_n (lv' := [(1, .int r8), (0, .ref h0)]) hx hb dX10_hall_11 rfl hl (by decide) rfl (fun ls hl => ?_)
  refine lv_aload_n hx hb dX10_hall_12 rfl (lv_at hl 1 rfl) ?_
  refine va_get (D := G.1) (ci := 8) (v := .ref a_reader) (C := RX10) (T := TX10) (N := 11) hx hb hts ki_X10 hown hK.1 hP 0 rfl rfl 2 (by decide) kf0 (fun _ h9 => h9) rfl dX10_hall_13 ?_
  refine va_get (D := G.1) (ci := 3) (v := .ref a_reader_letters) (C := RX5) (T := TX5) (N := 2) hx hb hts ki_X5 hown hK.1 hP 1 rfl rfl 0 (by decide) kf2 (fun _ h9 => h9) rfl dX10_hall_16 ?_
  refine lv_iconst (v := nI 0) hx hb dX10_hall_19 kc_0 ?_
  refine va_put (D := G.1) (ci := 4) (v := .int (nI 0)) (ty := .int) (C := RX6) (T := TX6) (N := 2) hx hb hts ki_X6 tyX6 tyX6_ok nmX6 hown hK.1 hP hD hS 3 rfl rfl 1 (by decide) kf3 (fun _ h9 => h9) rfl (by decide +kernel) rfl rfl (Nat.le_of_ble_eq_true rfl) dX10_hall_20 (fun H locs hP hD hS => ?_)
  have hP : va_P G.1 vwCl [ceX10 h0 a_now a_kept a_reader a_numbers a_strife a_settled a_selection a_dispute a_trials a_refusals s_isKept, ceX5 a_reader a_reader_letters a_reader_draft, ceX3 a_now s_now_size_8 s_now_heard_8 s_now_mode_8 s_now_cast_8 s_now_figures_8 s_now_voices_8 s_now_attacks_8 s_now_supports_8, ceX6 a_reader_letters a_reader_letters_numbers (nI 0), ceX3 a_reader_draft s_reader_draft_size_8 s_reader_draft_heard_8 s_reader_draft_mode_8 s_reader_draft_cast_8 s_reader_draft_figures_8 s_reader_draft_voices_8 s_reader_draft_attacks_8 s_reader_draft_supports_8, caI G a_reader_letters_numbers 96 g_reader_letters_numbers] H := hP
  have hD : va_D A [ceX10 h0 a_now a_kept a_reader a_numbers a_strife a_settled a_selection a_dispute a_trials a_refusals s_isKept, ceX5 a_reader a_reader_letters a_reader_draft, ceX3 a_now s_now_size_8 s_now_heard_8 s_now_mode_8 s_now_cast_8 s_now_figures_8 s_now_voices_8 s_now_attacks_8 s_now_supports_8, ceX6 a_reader_letters a_reader_letters_numbers (nI 0), ceX3 a_reader_draft s_reader_draft_size_8 s_reader_draft_heard_8 s_reader_draft_mode_8 s_reader_draft_cast_8 s_reader_draft_figures_8 s_reader_draft_voices_8 s_reader_draft_attacks_8 s_reader_draft_supports_8, caI G a_reader_letters_numbers 96 g_reader_letters_numbers] := hD
  refine lv_iload_n hx hb dX10_hall_23 rfl (lv_at hl 0 rfl) ?_
  exact W.iret (v := r8) hx hb hr (fun t ht hW => ⟨⟨_, ⟨s_now_size_8, s_now_heard_8, s_now_mode_8, s_now_cast_8, s_now_figures_8, s_now_voices_8, s_now_attacks_8, s_now_supports_8, (nI 0), s_reader_draft_size_8, s_reader_draft_heard_8, s_reader_draft_mode_8, s_reader_draft_cast_8, s_reader_draft_figures_8, s_reader_draft_voices_8, s_reader_draft_attacks_8, s_reader_draft_supports_8⟩, rfl, h, ⟨by rw [ht]; exact (hP.sub [0, 2, 1, 3, 4, 5] rfl), (hD.sub [0, 2, 1, 3, 4, 5] (by decide) rfl)⟩⟩, hS.F ht⟩) hS.2.2 dX10_hall_24
set_option maxHeartbeats 4000000 in
set_option maxRecDepth 100000 in
theorem c_X10_claims (l : Launch) (G : hcG) (h0 : Nat) (a_now : Nat) (a_kept : Nat) (a_reader : Nat) (a_numbers : Nat) (a_strife : Nat) (a_settled : Nat) (a_selection : Nat) (a_dispute : Nat) (a_trials : Nat) (a_refusals : Nat) (sz : Nat) (s_isKept : Int32) (s_now_size : Int32) (s_now_heard : Int32) (s_now_mode : Int32) (s_now_cast : Int64) (s_now_figures : Int64) (s_now_voices : Int64) (s_now_attacks : Int64) (s_now_supports : Int64) (g_refusals : Nat → Int32) (x1 : Int32) (x2 : Int32) (x3 : Int32) (post : Int32 → Int32 → Int32 → Int64 → Int64 → Int64 → (Nat → Int32) → Prop) (h : wp_X10_claims post s_now_size s_now_heard s_now_cast s_now_figures s_now_voices g_refusals x1 x2 x3) : Met l yX10_claims wsX10_claims ({ frames := 2, cells := 0, slots := 0, locals := 48 }) (hcPc G [.ref h0, .int x1, .int x2, .int x3] [ceX10 h0 a_now a_kept a_reader a_numbers a_strife a_settled a_selection a_dispute a_trials a_refusals s_isKept, ceX3 a_now s_now_size s_now_heard s_now_mode s_now_cast s_now_figures s_now_voices s_now_attacks s_now_supports, caI G a_refusals 7 g_refusals] sz) (va_Qi (fun (r : Int32) (u : Int32 × Int32 × Int64 × Int64 × Int64 × (Nat → Int32)) => post r u.1 u.2.1 u.2.2.1 u.2.2.2.1 u.2.2.2.2.1 u.2.2.2.2.2) (hcB G (va_A [ceX10 h0 a_now a_kept a_reader a_numbers a_strife a_settled a_selection a_dispute a_trials a_refusals s_isKept, ceX3 a_now s_now_size s_now_heard s_now_mode s_now_cast s_now_figures s_now_voices s_now_attacks s_now_supports, caI G a_refusals 7 g_refusals] sz) (fun u : Int32 × Int32 × Int64 × Int64 × Int64 × (Nat → Int32) => [ceX10 h0 a_now a_kept a_reader a_numbers a_strife a_settled a_selection a_dispute a_trials a_refusals s_isKept, ceX3 a_now u.1 u.2.1 s_now_mode u.2.2.1 u.2.2.2.1 u.2.2.2.2.1 s_now_attacks s_now_supports, caI G a_refusals 7 u.2.2.2.2.2])) (va_A [ceX10 h0 a_now a_kept a_reader a_numbers a_strife a_settled a_selection a_dispute a_trials a_refusals s_isKept, ceX3 a_now s_now_size s_now_heard s_now_mode s_now_cast s_now_figures s_now_voices s_now_attacks s_now_supports, caI G a_refusals 7 g_refusals] sz)) 0 0 (va_A [ceX10 h0 a_now a_kept a_reader a_numbers a_strife a_settled a_selection a_dispute a_trials a_refusals s_isKept, ceX3 a_now s_now_size s_now_heard s_now_mode s_now_cast s_now_figures s_now_voices s_now_attacks s_now_supports, caI G a_refusals 7 g_refusals] sz) := by
  refine Met.ofW (cc := cX10_claims) (maxL := 4) (ret := (some .int)) (by decide) rfl ?_
  intro p e s m args below meth c s₁ B hml hv
  obtain ⟨rfl, hsz, hP, hK, hD0⟩ := hv
  have hx := B.exec
  have hb := B.bytes
  have hr := B.returns
  have hts := atoms_spec (ws := wsX10_claims) B.pre
  have hown : s.vm.findClass RX10 = some m.cls := findClass_of_methodNamed B.named
  have hlocks := B.notSynchronized
  subst hsz
  have hD := hD0.self (sz := s.heap.size)
  generalize hAe : va_A [ceX10 h0 a_now a_kept a_reader a_numbers a_strife a_settled a_selection a_dispute a_trials a_refusals s_isKept, ceX3 a_now s_now_size s_now_heard s_now_mode s_now_cast s_now_figures s_now_voices s_now_attacks s_now_supports, caI G a_refusals 7 g_refusals] s.heap.size = A at hD ⊢
  have hA : ∀ q : Nat, s.heap.size ≤ q → A q := fun q h => by rw [← hAe]; exact Or.inr h
  have hS : va_S A s.heap s.heap [] := va_S.rf
  have hP : va_P G.1 vwCl [ceX10 h0 a_now a_kept a_reader a_numbers a_strife a_settled a_selection a_dispute a_trials a_refusals s_isKept, ceX3 a_now s_now_size s_now_heard s_now_mode s_now_cast s_now_figures s_now_voices s_now_attacks s_now_supports, caI G a_refusals 7 g_refusals] s.heap := hP
  have hl := lv_entry ([.ref h0, .int x1, .int x2, .int x3]) (n := 4) (Nat.le_of_ble_eq_true rfl)
  rw [lg_entry_eq]
  generalize (lg_sl ([.ref h0, .int x1, .int x2, .int x3]) ++ List.replicate (4 - (lg_sl ([.ref h0, .int x1, .int x2, .int x3])).length) Slot.unset).toArray = ls at hl ⊢
  have hl : lv_has ls 4 [(0, .ref h0), (1, .int x1), (2, .int x2), (3, .int x3)] := hl
  have kf0 := hts (.fieldLink RX10 10 "HallOfClaims" "now" "LHallOfClaims$Hall;") (List.mem_of_getElem? (i := 1) (by decide +kernel))
  have ki_X10 : ∀ w ∈ u_ws RX10 TX10 11, w ∈ wsX10_claims := by decide +kernel
  unfold wp_X10_claims at h
  refine lv_iload_n hx hb dX10_claims_0 rfl (lv_at hl 1 rfl) ?_
  refine hc_ki (va_runS (As := [.int x1]) (rest := []) ⟨hx, hb, hml, hown, hts⟩ (c_X10_isKind l G H.size x1 _ h) (va_cwS 1 hts gX10_claims_X10_isKind rfl rfl rfl (by decide +kernel) ⟨Nat.le_of_ble_eq_true rfl, Nat.le_of_ble_eq_true rfl⟩) (hc_pS hK hP hD [] rfl rfl) rfl rfl hl.1 rfl (lv_room (Nat.le_of_ble_eq_true rfl)) dX10_claims_1 ⟨Nat.le_refl _, Nat.le_refl _⟩) hP hD hS hA [] [0, 1, 2] rfl rfl rfl (by decide) (fun r1 u H locs h hP hD hS => ?_)
  try dsimp only at h
  have hP : va_P G.1 vwCl [ceX10 h0 a_now a_kept a_reader a_numbers a_strife a_settled a_selection a_dispute a_trials a_refusals s_isKept, ceX3 a_now s_now_size s_now_heard s_now_mode s_now_cast s_now_figures s_now_voices s_now_attacks s_now_supports, caI G a_refusals 7 g_refusals] H := hP
  have hD : va_D A [ceX10 h0 a_now a_kept a_reader a_numbers a_strife a_settled a_selection a_dispute a_trials a_refusals s_isKept, ceX3 a_now s_now_size s_now_heard s_now_mode s_now_cast s_now_figures s_now_voices s_now_attacks s_now_supports, caI G a_refusals 7 g_refusals] := hD
  refine lv_if_ne (tgt := 14) hx hb dX10_claims_4 (by decide) (fun c => ?_) (fun c => ?_)
  · replace h := h.1 c
    refine lv_iload_n hx hb dX10_claims_14 rfl (lv_at hl 2 rfl) ?_
    refine lv_if_lt (tgt := 22) hx hb dX10_claims_15 (by decide) (fun c => ?_) (fun c => ?_)
    · replace h := h.1 c
      refine lv_aload_n hx hb dX10_claims_22 rfl (lv_at hl 0 rfl) ?_
      refine lv_bipush (v := (-4 : Int32)) hx hb dX10_claims_23 kb_m4 ?_
      refine hc_ki (va_runV (As := [.int ((-4 : Int32))]) (rest := []) ⟨hx, hb, hml, hown, hts⟩ (c_X10_refuse l G h0 a_now a_kept a_reader a_numbers a_strife a_settled a_selection a_dispute a_trials a_refusals H.size s_isKept g_refusals ((-4 : Int32)) _ h) (cwV 1 hts gX10_claims_X10_refuse rfl rfl rfl (by decide +kernel) ⟨Nat.le_of_ble_eq_true rfl, Nat.le_of_ble_eq_true rfl⟩) (hc_pV hK hP hD [0, 2] rfl rfl (ci := 8) 0 rfl rfl) rfl rfl hl.1 rfl (lv_room (Nat.le_of_ble_eq_true rfl)) dX10_claims_25 ⟨Nat.le_refl _, Nat.le_refl _⟩) hP hD hS hA [0, 2] [1] rfl rfl rfl (by decide) (fun r25 u H locs h hP hD hS => ?_)
      obtain ⟨g_refusals_25, rfl⟩ : ∃ z, z = u := ⟨_, rfl⟩
      try dsimp only at h
      have hP : va_P G.1 vwCl [ceX3 a_now s_now_size s_now_heard s_now_mode s_now_cast s_now_figures s_now_voices s_now_attacks s_now_supports, ceX10 h0 a_now a_kept a_reader a_numbers a_strife a_settled a_selection a_dispute a_trials a_refusals s_isKept, caI G a_refusals 7 g_refusals_25] H := hP
      have hD : va_D A [ceX3 a_now s_now_size s_now_heard s_now_mode s_now_cast s_now_figures s_now_voices s_now_attacks s_now_supports, ceX10 h0 a_now a_kept a_reader a_numbers a_strife a_settled a_selection a_dispute a_trials a_refusals s_isKept, caI G a_refusals 7 g_refusals_25] := hD
      exact W.iret (v := r25) hx hb hr (fun t ht hW => ⟨⟨_, ⟨s_now_size, s_now_heard, s_now_cast, s_now_figures, s_now_voices, g_refusals_25⟩, rfl, h, ⟨by rw [ht]; exact (hP.sub [1, 0, 2] rfl), (hD.sub [1, 0, 2] (by decide) rfl)⟩⟩, hS.F ht⟩) hS.2.2 dX10_claims_28
    · replace h := h.2 c
      refine lv_iload_n hx hb dX10_claims_18 rfl (lv_at hl 3 rfl) ?_
      refine lv_if_ge (tgt := 29) hx hb dX10_claims_19 (by decide) (fun c => ?_) (fun c => ?_)
      · replace h := h.1 c
        refine lv_iload_n hx hb dX10_claims_29 rfl (lv_at hl 2 rfl) ?_
        refine lv_bipush (v := nI 10) hx hb dX10_claims_30 kb_10 ?_
        refine lv_icmp_ge (tgt := 51) hx hb dX10_claims_32 (by decide) (fun c => ?_) (fun c => ?_)
        · replace h := h.1 c
          refine lv_aload_n hx hb dX10_claims_51 rfl (lv_at hl 0 rfl) ?_
          refine lv_bipush (v := (-6 : Int32)) hx hb dX10_claims_52 kb_m6 ?_
          refine hc_ki (va_runV (As := [.int ((-6 : Int32))]) (rest := []) ⟨hx, hb, hml, hown, hts⟩ (c_X10_refuse l G h0 a_now a_kept a_reader a_numbers a_strife a_settled a_selection a_dispute a_trials a_refusals H.size s_isKept g_refusals ((-6 : Int32)) _ h) (cwV 1 hts gX10_claims_X10_refuse rfl rfl rfl (by decide +kernel) ⟨Nat.le_of_ble_eq_true rfl, Nat.le_of_ble_eq_true rfl⟩) (hc_pV hK hP hD [0, 2] rfl rfl (ci := 8) 0 rfl rfl) rfl rfl hl.1 rfl (lv_room (Nat.le_of_ble_eq_true rfl)) dX10_claims_54 ⟨Nat.le_refl _, Nat.le_refl _⟩) hP hD hS hA [0, 2] [1] rfl rfl rfl (by decide) (fun r54 u H locs h hP hD hS => ?_)
          obtain ⟨g_refusals_54, rfl⟩ : ∃ z, z = u := ⟨_, rfl⟩
          try dsimp only at h
          have hP : va_P G.1 vwCl [ceX3 a_now s_now_size s_now_heard s_now_mode s_now_cast s_now_figures s_now_voices s_now_attacks s_now_supports, ceX10 h0 a_now a_kept a_reader a_numbers a_strife a_settled a_selection a_dispute a_trials a_refusals s_isKept, caI G a_refusals 7 g_refusals_54] H := hP
          have hD : va_D A [ceX3 a_now s_now_size s_now_heard s_now_mode s_now_cast s_now_figures s_now_voices s_now_attacks s_now_supports, ceX10 h0 a_now a_kept a_reader a_numbers a_strife a_settled a_selection a_dispute a_trials a_refusals s_isKept, caI G a_refusals 7 g_refusals_54] := hD
          exact W.iret (v := r54) hx hb hr (fun t ht hW => ⟨⟨_, ⟨s_now_size, s_now_heard, s_now_cast, s_now_figures, s_now_voices, g_refusals_54⟩, rfl, h, ⟨by rw [ht]; exact (hP.sub [1, 0, 2] rfl), (hD.sub [1, 0, 2] (by decide) rfl)⟩⟩, hS.F ht⟩) hS.2.2 dX10_claims_57
        · replace h := h.2 c
          refine lv_iload_n hx hb dX10_claims_35 rfl (lv_at hl 3 rfl) ?_
          refine lv_bipush (v := nI 10) hx hb dX10_claims_36 kb_10 ?_
          refine lv_icmp_ge (tgt := 51) hx hb dX10_claims_38 (by decide) (fun c => ?_) (fun c => ?_)
          · replace h := h.1 c
            refine lv_aload_n hx hb dX10_claims_51 rfl (lv_at hl 0 rfl) ?_
            refine lv_bipush (v := (-6 : Int32)) hx hb dX10_claims_52 kb_m6 ?_
            refine hc_ki (va_runV (As := [.int ((-6 : Int32))]) (rest := []) ⟨hx, hb, hml, hown, hts⟩ (c_X10_refuse l G h0 a_now a_kept a_reader a_numbers a_strife a_settled a_selection a_dispute a_trials a_refusals H.size s_isKept g_refusals ((-6 : Int32)) _ h) (cwV 1 hts gX10_claims_X10_refuse rfl rfl rfl (by decide +kernel) ⟨Nat.le_of_ble_eq_true rfl, Nat.le_of_ble_eq_true rfl⟩) (hc_pV hK hP hD [0, 2] rfl rfl (ci := 8) 0 rfl rfl) rfl rfl hl.1 rfl (lv_room (Nat.le_of_ble_eq_true rfl)) dX10_claims_54 ⟨Nat.le_refl _, Nat.le_refl _⟩) hP hD hS hA [0, 2] [1] rfl rfl rfl (by decide) (fun r54 u H locs h hP hD hS => ?_)
            obtain ⟨g_refusals_54, rfl⟩ : ∃ z, z = u := ⟨_, rfl⟩
            try dsimp only at h
            have hP : va_P G.1 vwCl [ceX3 a_now s_now_size s_now_heard s_now_mode s_now_cast s_now_figures s_now_voices s_now_attacks s_now_supports, ceX10 h0 a_now a_kept a_reader a_numbers a_strife a_settled a_selection a_dispute a_trials a_refusals s_isKept, caI G a_refusals 7 g_refusals_54] H := hP
            have hD : va_D A [ceX3 a_now s_now_size s_now_heard s_now_mode s_now_cast s_now_figures s_now_voices s_now_attacks s_now_supports, ceX10 h0 a_now a_kept a_reader a_numbers a_strife a_settled a_selection a_dispute a_trials a_refusals s_isKept, caI G a_refusals 7 g_refusals_54] := hD
            exact W.iret (v := r54) hx hb hr (fun t ht hW => ⟨⟨_, ⟨s_now_size, s_now_heard, s_now_cast, s_now_figures, s_now_voices, g_refusals_54⟩, rfl, h, ⟨by rw [ht]; exact (hP.sub [1, 0, 2] rfl), (hD.sub [1, 0, 2] (by decide) rfl)⟩⟩, hS.F ht⟩) hS.2.2 dX10_claims_57
          · replace h := h.2 c
            refine lv_aload_n hx hb dX10_claims_41 rfl (lv_at hl 0 rfl) ?_
            refine va_get (D := G.1) (ci := 8) (v := .ref a_now) (C := RX10) (T := TX10) (N := 11) hx hb hts ki_X10 hown hK.1 hP 0 rfl rfl 0 (by decide) kf0 (fun _ h9 => h9) rfl dX10_claims_42 ?_
            refine hc_ki (va_runV (As := []) (rest := []) ⟨hx, hb, hml, hown, hts⟩ (c_X3_isFull l G a_now H.size s_now_size s_now_heard s_now_mode s_now_cast s_now_figures s_now_voices s_now_attacks s_now_supports _ h) (cwV 0 hts gX10_claims_X3_isFull rfl rfl rfl (by decide +kernel) ⟨Nat.le_of_ble_eq_true rfl, Nat.le_of_ble_eq_true rfl⟩) (hc_pV hK hP hD [1] rfl rfl (ci := 2) 1 rfl rfl) rfl rfl hl.1 rfl (lv_room (Nat.le_of_ble_eq_true rfl)) dX10_claims_45 ⟨Nat.le_refl _, Nat.le_refl _⟩) hP hD hS hA [1] [0, 2] rfl rfl rfl (by decide) (fun r45 u H locs h hP hD hS => ?_)
            try dsimp only at h
            have hP : va_P G.1 vwCl [ceX10 h0 a_now a_kept a_reader a_numbers a_strife a_settled a_selection a_dispute a_trials a_refusals s_isKept, caI G a_refusals 7 g_refusals, ceX3 a_now s_now_size s_now_heard s_now_mode s_now_cast s_now_figures s_now_voices s_now_attacks s_now_supports] H := hP
            have hD : va_D A [ceX10 h0 a_now a_kept a_reader a_numbers a_strife a_settled a_selection a_dispute a_trials a_refusals s_isKept, caI G a_refusals 7 g_refusals, ceX3 a_now s_now_size s_now_heard s_now_mode s_now_cast s_now_figures s_now_voices s_now_attacks s_now_supports] := hD
            refine lv_if_eq (tgt := 58) hx hb dX10_claims_48 (by decide) (fun c => ?_) (fun c => ?_)
            · replace h := h.1 c
              refine lv_aload_n hx hb dX10_claims_58 rfl (lv_at hl 0 rfl) ?_
              refine va_get (D := G.1) (ci := 8) (v := .ref a_now) (C := RX10) (T := TX10) (N := 11) hx hb hts ki_X10 hown hK.1 hP 0 rfl rfl 0 (by decide) kf0 (fun _ h9 => h9) rfl dX10_claims_59 ?_
              refine lv_iload_n hx hb dX10_claims_62 rfl (lv_at hl 1 rfl) ?_
              refine lv_iload_n hx hb dX10_claims_63 rfl (lv_at hl 2 rfl) ?_
              refine lv_iload_n hx hb dX10_claims_64 rfl (lv_at hl 3 rfl) ?_
              refine hc_ki (va_runV (As := [.int x1, .int x2, .int x3]) (rest := []) ⟨hx, hb, hml, hown, hts⟩ (c_X3_add l G a_now H.size s_now_size s_now_heard s_now_mode s_now_cast s_now_figures s_now_voices s_now_attacks s_now_supports x1 x2 x3 _ h) (cwV 3 hts gX10_claims_X3_add rfl rfl rfl (by decide +kernel) ⟨Nat.le_of_ble_eq_true rfl, Nat.le_of_ble_eq_true rfl⟩) (hc_pV hK hP hD [2] rfl rfl (ci := 2) 2 rfl rfl) rfl rfl hl.1 rfl (lv_room (Nat.le_of_ble_eq_true rfl)) dX10_claims_65 ⟨Nat.le_refl _, Nat.le_refl _⟩) hP hD hS hA [2] [0, 1] rfl rfl rfl (by decide) (fun r65 u H locs h hP hD hS => ?_)
              obtain ⟨s_now_size_65, s_now_heard_65, s_now_cast_65, s_now_figures_65, s_now_voices_65⟩ := u
              try dsimp only at h
              have hP : va_P G.1 vwCl [ceX10 h0 a_now a_kept a_reader a_numbers a_strife a_settled a_selection a_dispute a_trials a_refusals s_isKept, caI G a_refusals 7 g_refusals, ceX3 a_now s_now_size_65 s_now_heard_65 s_now_mode s_now_cast_65 s_now_figures_65 s_now_voices_65 s_now_attacks s_now_supports] H := hP
              have hD : va_D A [ceX10 h0 a_now a_kept a_reader a_numbers a_strife a_settled a_selection a_dispute a_trials a_refusals s_isKept, caI G a_refusals 7 g_refusals, ceX3 a_now s_now_size_65 s_now_heard_65 s_now_mode s_now_cast_65 s_now_figures_65 s_now_voices_65 s_now_attacks s_now_supports] := hD
              exact W.iret (v := r65) hx hb hr (fun t ht hW => ⟨⟨_, ⟨s_now_size_65, s_now_heard_65, s_now_cast_65, s_now_figures_65, s_now_voices_65, g_refusals⟩, rfl, h, ⟨by rw [ht]; exact (hP.sub [0, 2, 1] rfl), (hD.sub [0, 2, 1] (by decide) rfl)⟩⟩, hS.F ht⟩) hS.2.2 dX10_claims_68
            · replace h := h.2 c
              refine lv_aload_n hx hb dX10_claims_51 rfl (lv_at hl 0 rfl) ?_
              refine lv_bipush (v := (-6 : Int32)) hx hb dX10_claims_52 kb_m6 ?_
              refine hc_ki (va_runV (As := [.int ((-6 : Int32))]) (rest := []) ⟨hx, hb, hml, hown, hts⟩ (c_X10_refuse l G h0 a_now a_kept a_reader a_numbers a_strife a_settled a_selection a_dispute a_trials a_refusals H.size s_isKept g_refusals ((-6 : Int32)) _ h) (cwV 1 hts gX10_claims_X10_refuse rfl rfl rfl (by decide +kernel) ⟨Nat.le_of_ble_eq_true rfl, Nat.le_of_ble_eq_true rfl⟩) (hc_pV hK hP hD [0, 1] rfl rfl (ci := 8) 0 rfl rfl) rfl rfl hl.1 rfl (lv_room (Nat.le_of_ble_eq_true rfl)) dX10_claims_54 ⟨Nat.le_refl _, Nat.le_refl _⟩) hP hD hS hA [0, 1] [2] rfl rfl rfl (by decide) (fun r54 u H locs h hP hD hS => ?_)
              obtain ⟨g_refusals_54, rfl⟩ : ∃ z, z = u := ⟨_, rfl⟩
              try dsimp only at h
              have hP : va_P G.1 vwCl [ceX3 a_now s_now_size s_now_heard s_now_mode s_now_cast s_now_figures s_now_voices s_now_attacks s_now_supports, ceX10 h0 a_now a_kept a_reader a_numbers a_strife a_settled a_selection a_dispute a_trials a_refusals s_isKept, caI G a_refusals 7 g_refusals_54] H := hP
              have hD : va_D A [ceX3 a_now s_now_size s_now_heard s_now_mode s_now_cast s_now_figures s_now_voices s_now_attacks s_now_supports, ceX10 h0 a_now a_kept a_reader a_numbers a_strife a_settled a_selection a_dispute a_trials a_refusals s_isKept, caI G a_refusals 7 g_refusals_54] := hD
              exact W.iret (v := r54) hx hb hr (fun t ht hW => ⟨⟨_, ⟨s_now_size, s_now_heard, s_now_cast, s_now_figures, s_now_voices, g_refusals_54⟩, rfl, h, ⟨by rw [ht]; exact (hP.sub [1, 0, 2] rfl), (hD.sub [1, 0, 2] (by decide) rfl)⟩⟩, hS.F ht⟩) hS.2.2 dX10_claims_57
      · replace h := h.2 c
        refine lv_aload_n hx hb dX10_claims_22 rfl (lv_at hl 0 rfl) ?_
        refine lv_bipush (v := (-4 : Int32)) hx hb dX10_claims_23 kb_m4 ?_
        refine hc_ki (va_runV (As := [.int ((-4 : Int32))]) (rest := []) ⟨hx, hb, hml, hown, hts⟩ (c_X10_refuse l G h0 a_now a_kept a_reader a_numbers a_strife a_settled a_selection a_dispute a_trials a_refusals H.size s_isKept g_refusals ((-4 : Int32)) _ h) (cwV 1 hts gX10_claims_X10_refuse rfl rfl rfl (by decide +kernel) ⟨Nat.le_of_ble_eq_true rfl, Nat.le_of_ble_eq_true rfl⟩) (hc_pV hK hP hD [0, 2] rfl rfl (ci := 8) 0 rfl rfl) rfl rfl hl.1 rfl (lv_room (Nat.le_of_ble_eq_true rfl)) dX10_claims_25 ⟨Nat.le_refl _, Nat.le_refl _⟩) hP hD hS hA [0, 2] [1] rfl rfl rfl (by decide) (fun r25 u H locs h hP hD hS => ?_)
        obtain ⟨g_refusals_25, rfl⟩ : ∃ z, z = u := ⟨_, rfl⟩
        try dsimp only at h
        have hP : va_P G.1 vwCl [ceX3 a_now s_now_size s_now_heard s_now_mode s_now_cast s_now_figures s_now_voices s_now_attacks s_now_supports, ceX10 h0 a_now a_kept a_reader a_numbers a_strife a_settled a_selection a_dispute a_trials a_refusals s_isKept, caI G a_refusals 7 g_refusals_25] H := hP
        have hD : va_D A [ceX3 a_now s_now_size s_now_heard s_now_mode s_now_cast s_now_figures s_now_voices s_now_attacks s_now_supports, ceX10 h0 a_now a_kept a_reader a_numbers a_strife a_settled a_selection a_dispute a_trials a_refusals s_isKept, caI G a_refusals 7 g_refusals_25] := hD
        exact W.iret (v := r25) hx hb hr (fun t ht hW => ⟨⟨_, ⟨s_now_size, s_now_heard, s_now_cast, s_now_figures, s_now_voices, g_refusals_25⟩, rfl, h, ⟨by rw [ht]; exact (hP.sub [1, 0, 2] rfl), (hD.sub [1, 0, 2] (by decide) rfl)⟩⟩, hS.F ht⟩) hS.2.2 dX10_claims_28
  · replace h := h.2 c
    refine lv_aload_n hx hb dX10_claims_7 rfl (lv_at hl 0 rfl) ?_
    refine lv_bipush (v := (-2 : Int32)) hx hb dX10_claims_8 kb_m2 ?_
    refine hc_ki (va_runV (As := [.int ((-2 : Int32))]) (rest := []) ⟨hx, hb, hml, hown, hts⟩ (c_X10_refuse l G h0 a_now a_kept a_reader a_numbers a_strife a_settled a_selection a_dispute a_trials a_refusals H.size s_isKept g_refusals ((-2 : Int32)) _ h) (cwV 1 hts gX10_claims_X10_refuse rfl rfl rfl (by decide +kernel) ⟨Nat.le_of_ble_eq_true rfl, Nat.le_of_ble_eq_true rfl⟩) (hc_pV hK hP hD [0, 2] rfl rfl (ci := 8) 0 rfl rfl) rfl rfl hl.1 rfl (lv_room (Nat.le_of_ble_eq_true rfl)) dX10_claims_10 ⟨Nat.le_refl _, Nat.le_refl _⟩) hP hD hS hA [0, 2] [1] rfl rfl rfl (by decide) (fun r10 u H locs h hP hD hS => ?_)
    obtain ⟨g_refusals_10, rfl⟩ : ∃ z, z = u := ⟨_, rfl⟩
    try dsimp only at h
    have hP : va_P G.1 vwCl [ceX3 a_now s_now_size s_now_heard s_now_mode s_now_cast s_now_figures s_now_voices s_now_attacks s_now_supports, ceX10 h0 a_now a_kept a_reader a_numbers a_strife a_settled a_selection a_dispute a_trials a_refusals s_isKept, caI G a_refusals 7 g_refusals_10] H := hP
    have hD : va_D A [ceX3 a_now s_now_size s_now_heard s_now_mode s_now_cast s_now_figures s_now_voices s_now_attacks s_now_supports, ceX10 h0 a_now a_kept a_reader a_numbers a_strife a_settled a_selection a_dispute a_trials a_refusals s_isKept, caI G a_refusals 7 g_refusals_10] := hD
    exact W.iret (v := r10) hx hb hr (fun t ht hW => ⟨⟨_, ⟨s_now_size, s_now_heard, s_now_cast, s_now_figures, s_now_voices, g_refusals_10⟩, rfl, h, ⟨by rw [ht]; exact (hP.sub [1, 0, 2] rfl), (hD.sub [1, 0, 2] (by decide) rfl)⟩⟩, hS.F ht⟩) hS.2.2 dX10_claims_13
set_option maxHeartbeats 4000000 in
set_option maxRecDepth 100000 in
theorem c_X10_turns (l : Launch) (G : hcG) (h0 : Nat) (a_now : Nat) (a_kept : Nat) (a_reader : Nat) (a_numbers : Nat) (a_strife : Nat) (a_settled : Nat) (a_selection : Nat) (a_dispute : Nat) (a_trials : Nat) (a_refusals : Nat) (sz : Nat) (s_isKept : Int32) (s_now_size : Int32) (s_now_heard : Int32) (s_now_mode : Int32) (s_now_cast : Int64) (s_now_figures : Int64) (s_now_voices : Int64) (s_now_attacks : Int64) (s_now_supports : Int64) (g_refusals : Nat → Int32) (x1 : Int32) (post : Int32 → Int32 → (Nat → Int32) → Prop) (h : wp_X10_turns post s_now_size s_now_heard g_refusals x1) : Met l yX10_turns wsX10_turns ({ frames := 2, cells := 0, slots := 0, locals := 42 }) (hcPc G [.ref h0, .int x1] [ceX10 h0 a_now a_kept a_reader a_numbers a_strife a_settled a_selection a_dispute a_trials a_refusals s_isKept, ceX3 a_now s_now_size s_now_heard s_now_mode s_now_cast s_now_figures s_now_voices s_now_attacks s_now_supports, caI G a_refusals 7 g_refusals] sz) (va_Qi (fun (r : Int32) (u : Int32 × (Nat → Int32)) => post r u.1 u.2) (hcB G (va_A [ceX10 h0 a_now a_kept a_reader a_numbers a_strife a_settled a_selection a_dispute a_trials a_refusals s_isKept, ceX3 a_now s_now_size s_now_heard s_now_mode s_now_cast s_now_figures s_now_voices s_now_attacks s_now_supports, caI G a_refusals 7 g_refusals] sz) (fun u : Int32 × (Nat → Int32) => [ceX10 h0 a_now a_kept a_reader a_numbers a_strife a_settled a_selection a_dispute a_trials a_refusals s_isKept, ceX3 a_now s_now_size u.1 s_now_mode s_now_cast s_now_figures s_now_voices s_now_attacks s_now_supports, caI G a_refusals 7 u.2])) (va_A [ceX10 h0 a_now a_kept a_reader a_numbers a_strife a_settled a_selection a_dispute a_trials a_refusals s_isKept, ceX3 a_now s_now_size s_now_heard s_now_mode s_now_cast s_now_figures s_now_voices s_now_attacks s_now_supports, caI G a_refusals 7 g_refusals] sz)) 0 0 (va_A [ceX10 h0 a_now a_kept a_reader a_numbers a_strife a_settled a_selection a_dispute a_trials a_refusals s_isKept, ceX3 a_now s_now_size s_now_heard s_now_mode s_now_cast s_now_figures s_now_voices s_now_attacks s_now_supports, caI G a_refusals 7 g_refusals] sz) := by
  refine Met.ofW (cc := cX10_turns) (maxL := 2) (ret := (some .int)) (by decide) rfl ?_
  intro p e s m args below meth c s₁ B hml hv
  obtain ⟨rfl, hsz, hP, hK, hD0⟩ := hv
  have hx := B.exec
  have hb := B.bytes
  have hr := B.returns
  have hts := atoms_spec (ws := wsX10_turns) B.pre
  have hown : s.vm.findClass RX10 = some m.cls := findClass_of_methodNamed B.named
  have hlocks := B.notSynchronized
  subst hsz
  have hD := hD0.self (sz := s.heap.size)
  generalize hAe : va_A [ceX10 h0 a_now a_kept a_reader a_numbers a_strife a_settled a_selection a_dispute a_trials a_refusals s_isKept, ceX3 a_now s_now_size s_now_heard s_now_mode s_now_cast s_now_figures s_now_voices s_now_attacks s_now_supports, caI G a_refusals 7 g_refusals] s.heap.size = A at hD ⊢
  have hA : ∀ q : Nat, s.heap.size ≤ q → A q := fun q h => by rw [← hAe]; exact Or.inr h
  have hS : va_S A s.heap s.heap [] := va_S.rf
  have hP : va_P G.1 vwCl [ceX10 h0 a_now a_kept a_reader a_numbers a_strife a_settled a_selection a_dispute a_trials a_refusals s_isKept, ceX3 a_now s_now_size s_now_heard s_now_mode s_now_cast s_now_figures s_now_voices s_now_attacks s_now_supports, caI G a_refusals 7 g_refusals] s.heap := hP
  have hl := lv_entry ([.ref h0, .int x1]) (n := 2) (Nat.le_of_ble_eq_true rfl)
  rw [lg_entry_eq]
  generalize (lg_sl ([.ref h0, .int x1]) ++ List.replicate (2 - (lg_sl ([.ref h0, .int x1])).length) Slot.unset).toArray = ls at hl ⊢
  have hl : lv_has ls 2 [(0, .ref h0), (1, .int x1)] := hl
  have kf0 := hts (.fieldLink RX10 10 "HallOfClaims" "now" "LHallOfClaims$Hall;") (List.mem_of_getElem? (i := 1) (by decide +kernel))
  have ki_X10 : ∀ w ∈ u_ws RX10 TX10 11, w ∈ wsX10_turns := by decide +kernel
  unfold wp_X10_turns at h
  refine lv_aload_n hx hb dX10_turns_0 rfl (lv_at hl 0 rfl) ?_
  refine va_get (D := G.1) (ci := 8) (v := .ref a_now) (C := RX10) (T := TX10) (N := 11) hx hb hts ki_X10 hown hK.1 hP 0 rfl rfl 0 (by decide) kf0 (fun _ h9 => h9) rfl dX10_turns_1 ?_
  refine lv_iload_n hx hb dX10_turns_4 rfl (lv_at hl 1 rfl) ?_
  refine hc_ki (va_runV (As := [.int x1]) (rest := []) ⟨hx, hb, hml, hown, hts⟩ (c_X3_knows l G a_now H.size s_now_size s_now_heard s_now_mode s_now_cast s_now_figures s_now_voices s_now_attacks s_now_supports x1 _ h) (cwV 1 hts gX10_turns_X3_knows rfl rfl rfl (by decide +kernel) ⟨Nat.le_of_ble_eq_true rfl, Nat.le_of_ble_eq_true rfl⟩) (hc_pV hK hP hD [1] rfl rfl (ci := 2) 1 rfl rfl) rfl rfl hl.1 rfl (lv_room (Nat.le_of_ble_eq_true rfl)) dX10_turns_5 ⟨Nat.le_refl _, Nat.le_refl _⟩) hP hD hS hA [1] [0, 2] rfl rfl rfl (by decide) (fun r5 u H locs h hP hD hS => ?_)
  try dsimp only at h
  have hP : va_P G.1 vwCl [ceX10 h0 a_now a_kept a_reader a_numbers a_strife a_settled a_selection a_dispute a_trials a_refusals s_isKept, caI G a_refusals 7 g_refusals, ceX3 a_now s_now_size s_now_heard s_now_mode s_now_cast s_now_figures s_now_voices s_now_attacks s_now_supports] H := hP
  have hD : va_D A [ceX10 h0 a_now a_kept a_reader a_numbers a_strife a_settled a_selection a_dispute a_trials a_refusals s_isKept, caI G a_refusals 7 g_refusals, ceX3 a_now s_now_size s_now_heard s_now_mode s_now_cast s_now_figures s_now_voices s_now_attacks s_now_supports] := hD
  refine lv_if_ne (tgt := 17) hx hb dX10_turns_8 (by decide) (fun c => ?_) (fun c => ?_)
  · replace h := h.1 c
    refine lv_aload_n hx hb dX10_turns_17 rfl (lv_at hl 0 rfl) ?_
    refine va_get (D := G.1) (ci := 8) (v := .ref a_now) (C := RX10) (T := TX10) (N := 11) hx hb hts ki_X10 hown hK.1 hP 0 rfl rfl 0 (by decide) kf0 (fun _ h9 => h9) rfl dX10_turns_18 ?_
    refine lv_iload_n hx hb dX10_turns_21 rfl (lv_at hl 1 rfl) ?_
    refine hc_kv (va_runV (As := [.int x1]) (rest := []) ⟨hx, hb, hml, hown, hts⟩ (c_X3_flipHeard l G a_now H.size s_now_size s_now_heard s_now_mode s_now_cast s_now_figures s_now_voices s_now_attacks s_now_supports x1 _ h) (cwV 1 hts gX10_turns_X3_flipHeard rfl rfl rfl (by decide +kernel) ⟨Nat.le_of_ble_eq_true rfl, Nat.le_of_ble_eq_true rfl⟩) (hc_pV hK hP hD [2] rfl rfl (ci := 2) 2 rfl rfl) rfl rfl hl.1 rfl (lv_room (Nat.le_of_ble_eq_true rfl)) dX10_turns_22 ⟨Nat.le_refl _, Nat.le_refl _⟩) hP hD hS hA [2] [0, 1] rfl rfl rfl (by decide) (fun u H locs h hP hD hS => ?_)
    obtain ⟨s_now_heard_22, rfl⟩ : ∃ z, z = u := ⟨_, rfl⟩
    try dsimp only at h
    have hP : va_P G.1 vwCl [ceX10 h0 a_now a_kept a_reader a_numbers a_strife a_settled a_selection a_dispute a_trials a_refusals s_isKept, caI G a_refusals 7 g_refusals, ceX3 a_now s_now_size s_now_heard_22 s_now_mode s_now_cast s_now_figures s_now_voices s_now_attacks s_now_supports] H := hP
    have hD : va_D A [ceX10 h0 a_now a_kept a_reader a_numbers a_strife a_settled a_selection a_dispute a_trials a_refusals s_isKept, caI G a_refusals 7 g_refusals, ceX3 a_now s_now_size s_now_heard_22 s_now_mode s_now_cast s_now_figures s_now_voices s_now_attacks s_now_supports] := hD
    refine lv_aload_n hx hb dX10_turns_25 rfl (lv_at hl 0 rfl) ?_
    refine va_get (D := G.1) (ci := 8) (v := .ref a_now) (C := RX10) (T := TX10) (N := 11) hx hb hts ki_X10 hown hK.1 hP 0 rfl rfl 0 (by decide) kf0 (fun _ h9 => h9) rfl dX10_turns_26 ?_
    refine lv_iload_n hx hb dX10_turns_29 rfl (lv_at hl 1 rfl) ?_
    refine hc_ki (va_runV (As := [.int x1]) (rest := []) ⟨hx, hb, hml, hown, hts⟩ (c_X3_hears l G a_now H.size s_now_size s_now_heard_22 s_now_mode s_now_cast s_now_figures s_now_voices s_now_attacks s_now_supports x1 _ h) (cwV 1 hts gX10_turns_X3_hears rfl rfl rfl (by decide +kernel) ⟨Nat.le_of_ble_eq_true rfl, Nat.le_of_ble_eq_true rfl⟩) (hc_pV hK hP hD [2] rfl rfl (ci := 2) 2 rfl rfl) rfl rfl hl.1 rfl (lv_room (Nat.le_of_ble_eq_true rfl)) dX10_turns_30 ⟨Nat.le_refl _, Nat.le_refl _⟩) hP hD hS hA [2] [0, 1] rfl rfl rfl (by decide) (fun r30 u H locs h hP hD hS => ?_)
    try dsimp only at h
    have hP : va_P G.1 vwCl [ceX10 h0 a_now a_kept a_reader a_numbers a_strife a_settled a_selection a_dispute a_trials a_refusals s_isKept, caI G a_refusals 7 g_refusals, ceX3 a_now s_now_size s_now_heard_22 s_now_mode s_now_cast s_now_figures s_now_voices s_now_attacks s_now_supports] H := hP
    have hD : va_D A [ceX10 h0 a_now a_kept a_reader a_numbers a_strife a_settled a_selection a_dispute a_trials a_refusals s_isKept, caI G a_refusals 7 g_refusals, ceX3 a_now s_now_size s_now_heard_22 s_now_mode s_now_cast s_now_figures s_now_voices s_now_attacks s_now_supports] := hD
    refine lv_if_eq (tgt := 40) hx hb dX10_turns_33 (by decide) (fun c => ?_) (fun c => ?_)
    · replace h := h.1 c
      refine lv_iconst (v := nI 0) hx hb dX10_turns_40 kc_0 ?_
      exact W.iret (v := nI 0) hx hb hr (fun t ht hW => ⟨⟨_, ⟨s_now_heard_22, g_refusals⟩, rfl, h, ⟨by rw [ht]; exact (hP.sub [0, 2, 1] rfl), (hD.sub [0, 2, 1] (by decide) rfl)⟩⟩, hS.F ht⟩) hS.2.2 dX10_turns_41
    · replace h := h.2 c
      refine lv_iconst (v := nI 1) hx hb dX10_turns_36 kc_1 ?_
      refine lv_goto (tgt := 41) hx hb dX10_turns_37 (by decide) ?_
      exact W.iret (v := nI 1) hx hb hr (fun t ht hW => ⟨⟨_, ⟨s_now_heard_22, g_refusals⟩, rfl, h, ⟨by rw [ht]; exact (hP.sub [0, 2, 1] rfl), (hD.sub [0, 2, 1] (by decide) rfl)⟩⟩, hS.F ht⟩) hS.2.2 dX10_turns_41
  · replace h := h.2 c
    refine lv_aload_n hx hb dX10_turns_11 rfl (lv_at hl 0 rfl) ?_
    refine lv_iconst (v := (-1 : Int32)) hx hb dX10_turns_12 kc_m1 ?_
    refine hc_ki (va_runV (As := [.int ((-1 : Int32))]) (rest := []) ⟨hx, hb, hml, hown, hts⟩ (c_X10_refuse l G h0 a_now a_kept a_reader a_numbers a_strife a_settled a_selection a_dispute a_trials a_refusals H.size s_isKept g_refusals ((-1 : Int32)) _ h) (cwV 1 hts gX10_turns_X10_refuse rfl rfl rfl (by decide +kernel) ⟨Nat.le_of_ble_eq_true rfl, Nat.le_of_ble_eq_true rfl⟩) (hc_pV hK hP hD [0, 1] rfl rfl (ci := 8) 0 rfl rfl) rfl rfl hl.1 rfl (lv_room (Nat.le_of_ble_eq_true rfl)) dX10_turns_13 ⟨Nat.le_refl _, Nat.le_refl _⟩) hP hD hS hA [0, 1] [2] rfl rfl rfl (by decide) (fun r13 u H locs h hP hD hS => ?_)
    obtain ⟨g_refusals_13, rfl⟩ : ∃ z, z = u := ⟨_, rfl⟩
    try dsimp only at h
    have hP : va_P G.1 vwCl [ceX3 a_now s_now_size s_now_heard s_now_mode s_now_cast s_now_figures s_now_voices s_now_attacks s_now_supports, ceX10 h0 a_now a_kept a_reader a_numbers a_strife a_settled a_selection a_dispute a_trials a_refusals s_isKept, caI G a_refusals 7 g_refusals_13] H := hP
    have hD : va_D A [ceX3 a_now s_now_size s_now_heard s_now_mode s_now_cast s_now_figures s_now_voices s_now_attacks s_now_supports, ceX10 h0 a_now a_kept a_reader a_numbers a_strife a_settled a_selection a_dispute a_trials a_refusals s_isKept, caI G a_refusals 7 g_refusals_13] := hD
    exact W.iret (v := r13) hx hb hr (fun t ht hW => ⟨⟨_, ⟨s_now_heard, g_refusals_13⟩, rfl, h, ⟨by rw [ht]; exact (hP.sub [1, 0, 2] rfl), (hD.sub [1, 0, 2] (by decide) rfl)⟩⟩, hS.F ht⟩) hS.2.2 dX10_turns_16
set_option maxHeartbeats 4000000 in
set_option maxRecDepth 100000 in
theorem c_X10_kind (l : Launch) (G : hcG) (h0 : Nat) (a_now : Nat) (a_kept : Nat) (a_reader : Nat) (a_numbers : Nat) (a_strife : Nat) (a_settled : Nat) (a_selection : Nat) (a_dispute : Nat) (a_trials : Nat) (a_refusals : Nat) (sz : Nat) (s_isKept : Int32) (s_now_size : Int32) (s_now_heard : Int32) (s_now_mode : Int32) (s_now_cast : Int64) (s_now_figures : Int64) (s_now_voices : Int64) (s_now_attacks : Int64) (s_now_supports : Int64) (g_refusals : Nat → Int32) (x1 : Int32) (x2 : Int32) (x3 : Int32) (post : Int32 → Int64 → Int64 → (Nat → Int32) → Prop) (h : wp_X10_kind post s_now_size s_now_cast s_now_figures g_refusals x1 x2 x3) : Met l yX10_kind wsX10_kind ({ frames := 2, cells := 0, slots := 0, locals := 47 }) (hcPc G [.ref h0, .int x1, .int x2, .int x3] [ceX10 h0 a_now a_kept a_reader a_numbers a_strife a_settled a_selection a_dispute a_trials a_refusals s_isKept, ceX3 a_now s_now_size s_now_heard s_now_mode s_now_cast s_now_figures s_now_voices s_now_attacks s_now_supports, caI G a_refusals 7 g_refusals] sz) (va_Qi (fun (r : Int32) (u : Int64 × Int64 × (Nat → Int32)) => post r u.1 u.2.1 u.2.2) (hcB G (va_A [ceX10 h0 a_now a_kept a_reader a_numbers a_strife a_settled a_selection a_dispute a_trials a_refusals s_isKept, ceX3 a_now s_now_size s_now_heard s_now_mode s_now_cast s_now_figures s_now_voices s_now_attacks s_now_supports, caI G a_refusals 7 g_refusals] sz) (fun u : Int64 × Int64 × (Nat → Int32) => [ceX10 h0 a_now a_kept a_reader a_numbers a_strife a_settled a_selection a_dispute a_trials a_refusals s_isKept, ceX3 a_now s_now_size s_now_heard s_now_mode u.1 u.2.1 s_now_voices s_now_attacks s_now_supports, caI G a_refusals 7 u.2.2])) (va_A [ceX10 h0 a_now a_kept a_reader a_numbers a_strife a_settled a_selection a_dispute a_trials a_refusals s_isKept, ceX3 a_now s_now_size s_now_heard s_now_mode s_now_cast s_now_figures s_now_voices s_now_attacks s_now_supports, caI G a_refusals 7 g_refusals] sz)) 0 0 (va_A [ceX10 h0 a_now a_kept a_reader a_numbers a_strife a_settled a_selection a_dispute a_trials a_refusals s_isKept, ceX3 a_now s_now_size s_now_heard s_now_mode s_now_cast s_now_figures s_now_voices s_now_attacks s_now_supports, caI G a_refusals 7 g_refusals] sz) := by
  refine Met.ofW (cc := cX10_kind) (maxL := 5) (ret := (some .int)) (by decide) rfl ?_
  intro p e s m args below meth c s₁ B hml hv
  obtain ⟨rfl, hsz, hP, hK, hD0⟩ := hv
  have hx := B.exec
  have hb := B.bytes
  have hr := B.returns
  have hts := atoms_spec (ws := wsX10_kind) B.pre
  have hown : s.vm.findClass RX10 = some m.cls := findClass_of_methodNamed B.named
  have hlocks := B.notSynchronized
  subst hsz
  have hD := hD0.self (sz := s.heap.size)
  generalize hAe : va_A [ceX10 h0 a_now a_kept a_reader a_numbers a_strife a_settled a_selection a_dispute a_trials a_refusals s_isKept, ceX3 a_now s_now_size s_now_heard s_now_mode s_now_cast s_now_figures s_now_voices s_now_attacks s_now_supports, caI G a_refusals 7 g_refusals] s.heap.size = A at hD ⊢
  have hA : ∀ q : Nat, s.heap.size ≤ q → A q := fun q h => by rw [← hAe]; exact Or.inr h
  have hS : va_S A s.heap s.heap [] := va_S.rf
  have hP : va_P G.1 vwCl [ceX10 h0 a_now a_kept a_reader a_numbers a_strife a_settled a_selection a_dispute a_trials a_refusals s_isKept, ceX3 a_now s_now_size s_now_heard s_now_mode s_now_cast s_now_figures s_now_voices s_now_attacks s_now_supports, caI G a_refusals 7 g_refusals] s.heap := hP
  have hl := lv_entry ([.ref h0, .int x1, .int x2, .int x3]) (n := 5) (Nat.le_of_ble_eq_true rfl)
  rw [lg_entry_eq]
  generalize (lg_sl ([.ref h0, .int x1, .int x2, .int x3]) ++ List.replicate (5 - (lg_sl ([.ref h0, .int x1, .int x2, .int x3])).length) Slot.unset).toArray = ls at hl ⊢
  have hl : lv_has ls 5 [(0, .ref h0), (1, .int x1), (2, .int x2), (3, .int x3)] := hl
  have kf0 := hts (.fieldLink RX10 10 "HallOfClaims" "now" "LHallOfClaims$Hall;") (List.mem_of_getElem? (i := 1) (by decide +kernel))
  have ki_X10 : ∀ w ∈ u_ws RX10 TX10 11, w ∈ wsX10_kind := by decide +kernel
  unfold wp_X10_kind at h
  refine lv_aload_n hx hb dX10_kind_0 rfl (lv_at hl 0 rfl) ?_
  refine va_get (D := G.1) (ci := 8) (v := .ref a_now) (C := RX10) (T := TX10) (N := 11) hx hb hts ki_X10 hown hK.1 hP 0 rfl rfl 0 (by decide) kf0 (fun _ h9 => h9) rfl dX10_kind_1 ?_
  refine lv_iload_n hx hb dX10_kind_4 rfl (lv_at hl 1 rfl) ?_
  refine hc_ki (va_runV (As := [.int x1]) (rest := []) ⟨hx, hb, hml, hown, hts⟩ (c_X3_knows l G a_now H.size s_now_size s_now_heard s_now_mode s_now_cast s_now_figures s_now_voices s_now_attacks s_now_supports x1 _ h) (cwV 1 hts gX10_kind_X3_knows rfl rfl rfl (by decide +kernel) ⟨Nat.le_of_ble_eq_true rfl, Nat.le_of_ble_eq_true rfl⟩) (hc_pV hK hP hD [1] rfl rfl (ci := 2) 1 rfl rfl) rfl rfl hl.1 rfl (lv_room (Nat.le_of_ble_eq_true rfl)) dX10_kind_5 ⟨Nat.le_refl _, Nat.le_refl _⟩) hP hD hS hA [1] [0, 2] rfl rfl rfl (by decide) (fun r5 u H locs h hP hD hS => ?_)
  try dsimp only at h
  have hP : va_P G.1 vwCl [ceX10 h0 a_now a_kept a_reader a_numbers a_strife a_settled a_selection a_dispute a_trials a_refusals s_isKept, caI G a_refusals 7 g_refusals, ceX3 a_now s_now_size s_now_heard s_now_mode s_now_cast s_now_figures s_now_voices s_now_attacks s_now_supports] H := hP
  have hD : va_D A [ceX10 h0 a_now a_kept a_reader a_numbers a_strife a_settled a_selection a_dispute a_trials a_refusals s_isKept, caI G a_refusals 7 g_refusals, ceX3 a_now s_now_size s_now_heard s_now_mode s_now_cast s_now_figures s_now_voices s_now_attacks s_now_supports] := hD
  refine lv_if_ne (tgt := 17) hx hb dX10_kind_8 (by decide) (fun c => ?_) (fun c => ?_)
  · replace h := h.1 c
    refine lv_iload_n hx hb dX10_kind_17 rfl (lv_at hl 2 rfl) ?_
    refine hc_ki (va_runS (As := [.int x2]) (rest := []) ⟨hx, hb, hml, hown, hts⟩ (c_X10_isKind l G H.size x2 _ h) (va_cwS 1 hts gX10_kind_X10_isKind rfl rfl rfl (by decide +kernel) ⟨Nat.le_of_ble_eq_true rfl, Nat.le_of_ble_eq_true rfl⟩) (hc_pS hK hP hD [] rfl rfl) rfl rfl hl.1 rfl (lv_room (Nat.le_of_ble_eq_true rfl)) dX10_kind_18 ⟨Nat.le_refl _, Nat.le_refl _⟩) hP hD hS hA [] [0, 1, 2] rfl rfl rfl (by decide) (fun r18 u H locs h hP hD hS => ?_)
    try dsimp only at h
    have hP : va_P G.1 vwCl [ceX10 h0 a_now a_kept a_reader a_numbers a_strife a_settled a_selection a_dispute a_trials a_refusals s_isKept, caI G a_refusals 7 g_refusals, ceX3 a_now s_now_size s_now_heard s_now_mode s_now_cast s_now_figures s_now_voices s_now_attacks s_now_supports] H := hP
    have hD : va_D A [ceX10 h0 a_now a_kept a_reader a_numbers a_strife a_settled a_selection a_dispute a_trials a_refusals s_isKept, caI G a_refusals 7 g_refusals, ceX3 a_now s_now_size s_now_heard s_now_mode s_now_cast s_now_figures s_now_voices s_now_attacks s_now_supports] := hD
    refine lv_if_ne (tgt := 31) hx hb dX10_kind_21 (by decide) (fun c => ?_) (fun c => ?_)
    · replace h := h.1 c
      refine lv_iload_n hx hb dX10_kind_31 rfl (lv_at hl 3 rfl) ?_
      refine lv_if_ge (tgt := 42) hx hb dX10_kind_32 (by decide) (fun c => ?_) (fun c => ?_)
      · replace h := h.1 c
        refine lv_iload_n hx hb dX10_kind_42 rfl (lv_at hl 3 rfl) ?_
        refine lv_bipush (v := nI 10) hx hb dX10_kind_43 kb_10 ?_
        refine lv_icmp_lt (tgt := 55) hx hb dX10_kind_45 (by decide) (fun c => ?_) (fun c => ?_)
        · replace h := h.1 c
          refine lv_bipush (v := nI 10) hx hb dX10_kind_55 kb_10 ?_
          refine lv_aload_n hx hb dX10_kind_57 rfl (lv_at hl 0 rfl) ?_
          refine va_get (D := G.1) (ci := 8) (v := .ref a_now) (C := RX10) (T := TX10) (N := 11) hx hb hts ki_X10 hown hK.1 hP 0 rfl rfl 0 (by decide) kf0 (fun _ h9 => h9) rfl dX10_kind_58 ?_
          refine lv_iload_n hx hb dX10_kind_61 rfl (lv_at hl 1 rfl) ?_
          refine hc_ki (va_runV (As := [.int x1]) (rest := [.int (nI 10)]) ⟨hx, hb, hml, hown, hts⟩ (c_X3_kindOf l G a_now H.size s_now_size s_now_heard s_now_mode s_now_cast s_now_figures s_now_voices s_now_attacks s_now_supports x1 _ h) (cwV 1 hts gX10_kind_X3_kindOf rfl rfl rfl (by decide +kernel) ⟨Nat.le_of_ble_eq_true rfl, Nat.le_of_ble_eq_true rfl⟩) (hc_pV hK hP hD [2] rfl rfl (ci := 2) 2 rfl rfl) rfl rfl hl.1 rfl (lv_room (Nat.le_of_ble_eq_true rfl)) dX10_kind_62 ⟨Nat.le_refl _, Nat.le_refl _⟩) hP hD hS hA [2] [0, 1] rfl rfl rfl (by decide) (fun r62 u H locs h hP hD hS => ?_)
          try dsimp only at h
          have hP : va_P G.1 vwCl [ceX10 h0 a_now a_kept a_reader a_numbers a_strife a_settled a_selection a_dispute a_trials a_refusals s_isKept, caI G a_refusals 7 g_refusals, ceX3 a_now s_now_size s_now_heard s_now_mode s_now_cast s_now_figures s_now_voices s_now_attacks s_now_supports] H := hP
          have hD : va_D A [ceX10 h0 a_now a_kept a_reader a_numbers a_strife a_settled a_selection a_dispute a_trials a_refusals s_isKept, caI G a_refusals 7 g_refusals, ceX3 a_now s_now_size s_now_heard s_now_mode s_now_cast s_now_figures s_now_voices s_now_attacks s_now_supports] := hD
          refine lv_imul hx hb dX10_kind_65 ?_
          refine lv_aload_n hx hb dX10_kind_66 rfl (lv_at hl 0 rfl) ?_
          refine va_get (D := G.1) (ci := 8) (v := .ref a_now) (C := RX10) (T := TX10) (N := 11) hx hb hts ki_X10 hown hK.1 hP 0 rfl rfl 0 (by decide) kf0 (fun _ h9 => h9) rfl dX10_kind_67 ?_
          refine lv_iload_n hx hb dX10_kind_70 rfl (lv_at hl 1 rfl) ?_
          refine hc_ki (va_runV (As := [.int x1]) (rest := [.int ((nI 10) * r62)]) ⟨hx, hb, hml, hown, hts⟩ (c_X3_figureOf l G a_now H.size s_now_size s_now_heard s_now_mode s_now_cast s_now_figures s_now_voices s_now_attacks s_now_supports x1 _ h) (cwV 1 hts gX10_kind_X3_figureOf rfl rfl rfl (by decide +kernel) ⟨Nat.le_of_ble_eq_true rfl, Nat.le_of_ble_eq_true rfl⟩) (hc_pV hK hP hD [2] rfl rfl (ci := 2) 2 rfl rfl) rfl rfl hl.1 rfl (lv_room (Nat.le_of_ble_eq_true rfl)) dX10_kind_71 ⟨Nat.le_refl _, Nat.le_refl _⟩) hP hD hS hA [2] [0, 1] rfl rfl rfl (by decide) (fun r71 u H locs h hP hD hS => ?_)
          try dsimp only at h
          have hP : va_P G.1 vwCl [ceX10 h0 a_now a_kept a_reader a_numbers a_strife a_settled a_selection a_dispute a_trials a_refusals s_isKept, caI G a_refusals 7 g_refusals, ceX3 a_now s_now_size s_now_heard s_now_mode s_now_cast s_now_figures s_now_voices s_now_attacks s_now_supports] H := hP
          have hD : va_D A [ceX10 h0 a_now a_kept a_reader a_numbers a_strife a_settled a_selection a_dispute a_trials a_refusals s_isKept, caI G a_refusals 7 g_refusals, ceX3 a_now s_now_size s_now_heard s_now_mode s_now_cast s_now_figures s_now_voices s_now_attacks s_now_supports] := hD
          refine lv_iadd hx hb dX10_kind_74 ?_
          refine lv_istore (lv' := [(4, .int (((nI 10) * r62) + r71)), (0, .ref h0), (1, .int x1), (2, .int x2), (3, .int x3)]) hx hb dX10_kind_75 hl (by decide) rfl (fun ls hl => ?_)
          refine lv_aload_n hx hb dX10_kind_77 rfl (lv_at hl 1 rfl) ?_
          refine va_get (D := G.1) (ci := 8) (v := .ref a_now) (C := RX10) (T := TX10) (N := 11) hx hb hts ki_X10 hown hK.1 hP 0 rfl rfl 0 (by decide) kf0 (fun _ h9 => h9) rfl dX10_kind_78 ?_
          refine lv_iload_n hx hb dX10_kind_81 rfl (lv_at hl 2 rfl) ?_
          refine lv_iload_n hx hb dX10_kind_82 rfl (lv_at hl 3 rfl) ?_
          refine lv_iload_n hx hb dX10_kind_83 rfl (lv_at hl 4 rfl) ?_
          refine hc_kv (va_runV (As := [.int x1, .int x2, .int x3]) (rest := []) ⟨hx, hb, hml, hown, hts⟩ (c_X3_recast l G a_now H.size s_now_size s_now_heard s_now_mode s_now_cast s_now_figures s_now_voices s_now_attacks s_now_supports x1 x2 x3 _ h) (cwV 3 hts gX10_kind_X3_recast rfl rfl rfl (by decide +kernel) ⟨Nat.le_of_ble_eq_true rfl, Nat.le_of_ble_eq_true rfl⟩) (hc_pV hK hP hD [2] rfl rfl (ci := 2) 2 rfl rfl) rfl rfl hl.1 rfl (lv_room (Nat.le_of_ble_eq_true rfl)) dX10_kind_84 ⟨Nat.le_refl _, Nat.le_refl _⟩) hP hD hS hA [2] [0, 1] rfl rfl rfl (by decide) (fun u H locs h hP hD hS => ?_)
          obtain ⟨s_now_cast_84, s_now_figures_84⟩ := u
          try dsimp only at h
          have hP : va_P G.1 vwCl [ceX10 h0 a_now a_kept a_reader a_numbers a_strife a_settled a_selection a_dispute a_trials a_refusals s_isKept, caI G a_refusals 7 g_refusals, ceX3 a_now s_now_size s_now_heard s_now_mode s_now_cast_84 s_now_figures_84 s_now_voices s_now_attacks s_now_supports] H := hP
          have hD : va_D A [ceX10 h0 a_now a_kept a_reader a_numbers a_strife a_settled a_selection a_dispute a_trials a_refusals s_isKept, caI G a_refusals 7 g_refusals, ceX3 a_now s_now_size s_now_heard s_now_mode s_now_cast_84 s_now_figures_84 s_now_voices s_now_attacks s_now_supports] := hD
          refine lv_iload hx hb dX10_kind_87 (lv_at hl 0 rfl) ?_
          exact W.iret (v := ((nI 10) * r62) + r71) hx hb hr (fun t ht hW => ⟨⟨_, ⟨s_now_cast_84, s_now_figures_84, g_refusals⟩, rfl, h, ⟨by rw [ht]; exact (hP.sub [0, 2, 1] rfl), (hD.sub [0, 2, 1] (by decide) rfl)⟩⟩, hS.F ht⟩) hS.2.2 dX10_kind_89
        · replace h := h.2 c
          refine lv_aload_n hx hb dX10_kind_48 rfl (lv_at hl 0 rfl) ?_
          refine lv_bipush (v := (-6 : Int32)) hx hb dX10_kind_49 kb_m6 ?_
          refine hc_ki (va_runV (As := [.int ((-6 : Int32))]) (rest := []) ⟨hx, hb, hml, hown, hts⟩ (c_X10_refuse l G h0 a_now a_kept a_reader a_numbers a_strife a_settled a_selection a_dispute a_trials a_refusals H.size s_isKept g_refusals ((-6 : Int32)) _ h) (cwV 1 hts gX10_kind_X10_refuse rfl rfl rfl (by decide +kernel) ⟨Nat.le_of_ble_eq_true rfl, Nat.le_of_ble_eq_true rfl⟩) (hc_pV hK hP hD [0, 1] rfl rfl (ci := 8) 0 rfl rfl) rfl rfl hl.1 rfl (lv_room (Nat.le_of_ble_eq_true rfl)) dX10_kind_51 ⟨Nat.le_refl _, Nat.le_refl _⟩) hP hD hS hA [0, 1] [2] rfl rfl rfl (by decide) (fun r51 u H locs h hP hD hS => ?_)
          obtain ⟨g_refusals_51, rfl⟩ : ∃ z, z = u := ⟨_, rfl⟩
          try dsimp only at h
          have hP : va_P G.1 vwCl [ceX3 a_now s_now_size s_now_heard s_now_mode s_now_cast s_now_figures s_now_voices s_now_attacks s_now_supports, ceX10 h0 a_now a_kept a_reader a_numbers a_strife a_settled a_selection a_dispute a_trials a_refusals s_isKept, caI G a_refusals 7 g_refusals_51] H := hP
          have hD : va_D A [ceX3 a_now s_now_size s_now_heard s_now_mode s_now_cast s_now_figures s_now_voices s_now_attacks s_now_supports, ceX10 h0 a_now a_kept a_reader a_numbers a_strife a_settled a_selection a_dispute a_trials a_refusals s_isKept, caI G a_refusals 7 g_refusals_51] := hD
          exact W.iret (v := r51) hx hb hr (fun t ht hW => ⟨⟨_, ⟨s_now_cast, s_now_figures, g_refusals_51⟩, rfl, h, ⟨by rw [ht]; exact (hP.sub [1, 0, 2] rfl), (hD.sub [1, 0, 2] (by decide) rfl)⟩⟩, hS.F ht⟩) hS.2.2 dX10_kind_54
      · replace h := h.2 c
        refine lv_aload_n hx hb dX10_kind_35 rfl (lv_at hl 0 rfl) ?_
        refine lv_bipush (v := (-4 : Int32)) hx hb dX10_kind_36 kb_m4 ?_
        refine hc_ki (va_runV (As := [.int ((-4 : Int32))]) (rest := []) ⟨hx, hb, hml, hown, hts⟩ (c_X10_refuse l G h0 a_now a_kept a_reader a_numbers a_strife a_settled a_selection a_dispute a_trials a_refusals H.size s_isKept g_refusals ((-4 : Int32)) _ h) (cwV 1 hts gX10_kind_X10_refuse rfl rfl rfl (by decide +kernel) ⟨Nat.le_of_ble_eq_true rfl, Nat.le_of_ble_eq_true rfl⟩) (hc_pV hK hP hD [0, 1] rfl rfl (ci := 8) 0 rfl rfl) rfl rfl hl.1 rfl (lv_room (Nat.le_of_ble_eq_true rfl)) dX10_kind_38 ⟨Nat.le_refl _, Nat.le_refl _⟩) hP hD hS hA [0, 1] [2] rfl rfl rfl (by decide) (fun r38 u H locs h hP hD hS => ?_)
        obtain ⟨g_refusals_38, rfl⟩ : ∃ z, z = u := ⟨_, rfl⟩
        try dsimp only at h
        have hP : va_P G.1 vwCl [ceX3 a_now s_now_size s_now_heard s_now_mode s_now_cast s_now_figures s_now_voices s_now_attacks s_now_supports, ceX10 h0 a_now a_kept a_reader a_numbers a_strife a_settled a_selection a_dispute a_trials a_refusals s_isKept, caI G a_refusals 7 g_refusals_38] H := hP
        have hD : va_D A [ceX3 a_now s_now_size s_now_heard s_now_mode s_now_cast s_now_figures s_now_voices s_now_attacks s_now_supports, ceX10 h0 a_now a_kept a_reader a_numbers a_strife a_settled a_selection a_dispute a_trials a_refusals s_isKept, caI G a_refusals 7 g_refusals_38] := hD
        exact W.iret (v := r38) hx hb hr (fun t ht hW => ⟨⟨_, ⟨s_now_cast, s_now_figures, g_refusals_38⟩, rfl, h, ⟨by rw [ht]; exact (hP.sub [1, 0, 2] rfl), (hD.sub [1, 0, 2] (by decide) rfl)⟩⟩, hS.F ht⟩) hS.2.2 dX10_kind_41
    · replace h := h.2 c
      refine lv_aload_n hx hb dX10_kind_24 rfl (lv_at hl 0 rfl) ?_
      refine lv_bipush (v := (-2 : Int32)) hx hb dX10_kind_25 kb_m2 ?_
      refine hc_ki (va_runV (As := [.int ((-2 : Int32))]) (rest := []) ⟨hx, hb, hml, hown, hts⟩ (c_X10_refuse l G h0 a_now a_kept a_reader a_numbers a_strife a_settled a_selection a_dispute a_trials a_refusals H.size s_isKept g_refusals ((-2 : Int32)) _ h) (cwV 1 hts gX10_kind_X10_refuse rfl rfl rfl (by decide +kernel) ⟨Nat.le_of_ble_eq_true rfl, Nat.le_of_ble_eq_true rfl⟩) (hc_pV hK hP hD [0, 1] rfl rfl (ci := 8) 0 rfl rfl) rfl rfl hl.1 rfl (lv_room (Nat.le_of_ble_eq_true rfl)) dX10_kind_27 ⟨Nat.le_refl _, Nat.le_refl _⟩) hP hD hS hA [0, 1] [2] rfl rfl rfl (by decide) (fun r27 u H locs h hP hD hS => ?_)
      obtain ⟨g_refusals_27, rfl⟩ : ∃ z, z = u := ⟨_, rfl⟩
      try dsimp only at h
      have hP : va_P G.1 vwCl [ceX3 a_now s_now_size s_now_heard s_now_mode s_now_cast s_now_figures s_now_voices s_now_attacks s_now_supports, ceX10 h0 a_now a_kept a_reader a_numbers a_strife a_settled a_selection a_dispute a_trials a_refusals s_isKept, caI G a_refusals 7 g_refusals_27] H := hP
      have hD : va_D A [ceX3 a_now s_now_size s_now_heard s_now_mode s_now_cast s_now_figures s_now_voices s_now_attacks s_now_supports, ceX10 h0 a_now a_kept a_reader a_numbers a_strife a_settled a_selection a_dispute a_trials a_refusals s_isKept, caI G a_refusals 7 g_refusals_27] := hD
      exact W.iret (v := r27) hx hb hr (fun t ht hW => ⟨⟨_, ⟨s_now_cast, s_now_figures, g_refusals_27⟩, rfl, h, ⟨by rw [ht]; exact (hP.sub [1, 0, 2] rfl), (hD.sub [1, 0, 2] (by decide) rfl)⟩⟩, hS.F ht⟩) hS.2.2 dX10_kind_30
  · replace h := h.2 c
    refine lv_aload_n hx hb dX10_kind_11 rfl (lv_at hl 0 rfl) ?_
    refine lv_iconst (v := (-1 : Int32)) hx hb dX10_kind_12 kc_m1 ?_
    refine hc_ki (va_runV (As := [.int ((-1 : Int32))]) (rest := []) ⟨hx, hb, hml, hown, hts⟩ (c_X10_refuse l G h0 a_now a_kept a_reader a_numbers a_strife a_settled a_selection a_dispute a_trials a_refusals H.size s_isKept g_refusals ((-1 : Int32)) _ h) (cwV 1 hts gX10_kind_X10_refuse rfl rfl rfl (by decide +kernel) ⟨Nat.le_of_ble_eq_true rfl, Nat.le_of_ble_eq_true rfl⟩) (hc_pV hK hP hD [0, 1] rfl rfl (ci := 8) 0 rfl rfl) rfl rfl hl.1 rfl (lv_room (Nat.le_of_ble_eq_true rfl)) dX10_kind_13 ⟨Nat.le_refl _, Nat.le_refl _⟩) hP hD hS hA [0, 1] [2] rfl rfl rfl (by decide) (fun r13 u H locs h hP hD hS => ?_)
    obtain ⟨g_refusals_13, rfl⟩ : ∃ z, z = u := ⟨_, rfl⟩
    try dsimp only at h
    have hP : va_P G.1 vwCl [ceX3 a_now s_now_size s_now_heard s_now_mode s_now_cast s_now_figures s_now_voices s_now_attacks s_now_supports, ceX10 h0 a_now a_kept a_reader a_numbers a_strife a_settled a_selection a_dispute a_trials a_refusals s_isKept, caI G a_refusals 7 g_refusals_13] H := hP
    have hD : va_D A [ceX3 a_now s_now_size s_now_heard s_now_mode s_now_cast s_now_figures s_now_voices s_now_attacks s_now_supports, ceX10 h0 a_now a_kept a_reader a_numbers a_strife a_settled a_selection a_dispute a_trials a_refusals s_isKept, caI G a_refusals 7 g_refusals_13] := hD
    exact W.iret (v := r13) hx hb hr (fun t ht hW => ⟨⟨_, ⟨s_now_cast, s_now_figures, g_refusals_13⟩, rfl, h, ⟨by rw [ht]; exact (hP.sub [1, 0, 2] rfl), (hD.sub [1, 0, 2] (by decide) rfl)⟩⟩, hS.F ht⟩) hS.2.2 dX10_kind_16
set_option maxHeartbeats 4000000 in
set_option maxRecDepth 100000 in
theorem c_X10_attacks (l : Launch) (G : hcG) (h0 : Nat) (a_now : Nat) (a_kept : Nat) (a_reader : Nat) (a_numbers : Nat) (a_strife : Nat) (a_settled : Nat) (a_selection : Nat) (a_dispute : Nat) (a_trials : Nat) (a_refusals : Nat) (sz : Nat) (s_isKept : Int32) (s_now_size : Int32) (s_now_heard : Int32) (s_now_mode : Int32) (s_now_cast : Int64) (s_now_figures : Int64) (s_now_voices : Int64) (s_now_attacks : Int64) (s_now_supports : Int64) (g_refusals : Nat → Int32) (x1 : Int32) (x2 : Int32) (post : Int32 → Int64 → (Nat → Int32) → Prop) (h : wp_X10_attacks post s_now_size s_now_attacks g_refusals x1 x2) : Met l yX10_attacks wsX10_attacks ({ frames := 2, cells := 0, slots := 0, locals := 44 }) (hcPc G [.ref h0, .int x1, .int x2] [ceX10 h0 a_now a_kept a_reader a_numbers a_strife a_settled a_selection a_dispute a_trials a_refusals s_isKept, ceX3 a_now s_now_size s_now_heard s_now_mode s_now_cast s_now_figures s_now_voices s_now_attacks s_now_supports, caI G a_refusals 7 g_refusals] sz) (va_Qi (fun (r : Int32) (u : Int64 × (Nat → Int32)) => post r u.1 u.2) (hcB G (va_A [ceX10 h0 a_now a_kept a_reader a_numbers a_strife a_settled a_selection a_dispute a_trials a_refusals s_isKept, ceX3 a_now s_now_size s_now_heard s_now_mode s_now_cast s_now_figures s_now_voices s_now_attacks s_now_supports, caI G a_refusals 7 g_refusals] sz) (fun u : Int64 × (Nat → Int32) => [ceX10 h0 a_now a_kept a_reader a_numbers a_strife a_settled a_selection a_dispute a_trials a_refusals s_isKept, ceX3 a_now s_now_size s_now_heard s_now_mode s_now_cast s_now_figures s_now_voices u.1 s_now_supports, caI G a_refusals 7 u.2])) (va_A [ceX10 h0 a_now a_kept a_reader a_numbers a_strife a_settled a_selection a_dispute a_trials a_refusals s_isKept, ceX3 a_now s_now_size s_now_heard s_now_mode s_now_cast s_now_figures s_now_voices s_now_attacks s_now_supports, caI G a_refusals 7 g_refusals] sz)) 0 0 (va_A [ceX10 h0 a_now a_kept a_reader a_numbers a_strife a_settled a_selection a_dispute a_trials a_refusals s_isKept, ceX3 a_now s_now_size s_now_heard s_now_mode s_now_cast s_now_figures s_now_voices s_now_attacks s_now_supports, caI G a_refusals 7 g_refusals] sz) := by
  refine Met.ofW (cc := cX10_attacks) (maxL := 3) (ret := (some .int)) (by decide) rfl ?_
  intro p e s m args below meth c s₁ B hml hv
  obtain ⟨rfl, hsz, hP, hK, hD0⟩ := hv
  have hx := B.exec
  have hb := B.bytes
  have hr := B.returns
  have hts := atoms_spec (ws := wsX10_attacks) B.pre
  have hown : s.vm.findClass RX10 = some m.cls := findClass_of_methodNamed B.named
  have hlocks := B.notSynchronized
  subst hsz
  have hD := hD0.self (sz := s.heap.size)
  generalize hAe : va_A [ceX10 h0 a_now a_kept a_reader a_numbers a_strife a_settled a_selection a_dispute a_trials a_refusals s_isKept, ceX3 a_now s_now_size s_now_heard s_now_mode s_now_cast s_now_figures s_now_voices s_now_attacks s_now_supports, caI G a_refusals 7 g_refusals] s.heap.size = A at hD ⊢
  have hA : ∀ q : Nat, s.heap.size ≤ q → A q := fun q h => by rw [← hAe]; exact Or.inr h
  have hS : va_S A s.heap s.heap [] := va_S.rf
  have hP : va_P G.1 vwCl [ceX10 h0 a_now a_kept a_reader a_numbers a_strife a_settled a_selection a_dispute a_trials a_refusals s_isKept, ceX3 a_now s_now_size s_now_heard s_now_mode s_now_cast s_now_figures s_now_voices s_now_attacks s_now_supports, caI G a_refusals 7 g_refusals] s.heap := hP
  have hl := lv_entry ([.ref h0, .int x1, .int x2]) (n := 3) (Nat.le_of_ble_eq_true rfl)
  rw [lg_entry_eq]
  generalize (lg_sl ([.ref h0, .int x1, .int x2]) ++ List.replicate (3 - (lg_sl ([.ref h0, .int x1, .int x2])).length) Slot.unset).toArray = ls at hl ⊢
  have hl : lv_has ls 3 [(0, .ref h0), (1, .int x1), (2, .int x2)] := hl
  have kf0 := hts (.fieldLink RX10 10 "HallOfClaims" "now" "LHallOfClaims$Hall;") (List.mem_of_getElem? (i := 1) (by decide +kernel))
  have kf1 := hts (.fieldLink RX10 131 "HallOfClaims$Hall" "attacks" "J") (List.mem_of_getElem? (i := 2) (by decide +kernel))
  have ki_X10 : ∀ w ∈ u_ws RX10 TX10 11, w ∈ wsX10_attacks := by decide +kernel
  have ki_X3 : ∀ w ∈ u_ws RX3 TX3 8, w ∈ wsX10_attacks := by decide +kernel
  unfold wp_X10_attacks at h
  refine lv_aload_n hx hb dX10_attacks_0 rfl (lv_at hl 0 rfl) ?_
  refine va_get (D := G.1) (ci := 8) (v := .ref a_now) (C := RX10) (T := TX10) (N := 11) hx hb hts ki_X10 hown hK.1 hP 0 rfl rfl 0 (by decide) kf0 (fun _ h9 => h9) rfl dX10_attacks_1 ?_
  refine lv_iload_n hx hb dX10_attacks_4 rfl (lv_at hl 1 rfl) ?_
  refine hc_ki (va_runV (As := [.int x1]) (rest := []) ⟨hx, hb, hml, hown, hts⟩ (c_X3_knows l G a_now H.size s_now_size s_now_heard s_now_mode s_now_cast s_now_figures s_now_voices s_now_attacks s_now_supports x1 _ h) (cwV 1 hts gX10_attacks_X3_knows rfl rfl rfl (by decide +kernel) ⟨Nat.le_of_ble_eq_true rfl, Nat.le_of_ble_eq_true rfl⟩) (hc_pV hK hP hD [1] rfl rfl (ci := 2) 1 rfl rfl) rfl rfl hl.1 rfl (lv_room (Nat.le_of_ble_eq_true rfl)) dX10_attacks_5 ⟨Nat.le_refl _, Nat.le_refl _⟩) hP hD hS hA [1] [0, 2] rfl rfl rfl (by decide) (fun r5 u H locs h hP hD hS => ?_)
  try dsimp only at h
  have hP : va_P G.1 vwCl [ceX10 h0 a_now a_kept a_reader a_numbers a_strife a_settled a_selection a_dispute a_trials a_refusals s_isKept, caI G a_refusals 7 g_refusals, ceX3 a_now s_now_size s_now_heard s_now_mode s_now_cast s_now_figures s_now_voices s_now_attacks s_now_supports] H := hP
  have hD : va_D A [ceX10 h0 a_now a_kept a_reader a_numbers a_strife a_settled a_selection a_dispute a_trials a_refusals s_isKept, caI G a_refusals 7 g_refusals, ceX3 a_now s_now_size s_now_heard s_now_mode s_now_cast s_now_figures s_now_voices s_now_attacks s_now_supports] := hD
  refine lv_if_eq (tgt := 22) hx hb dX10_attacks_8 (by decide) (fun c => ?_) (fun c => ?_)
  · replace h := h.1 c
    refine lv_aload_n hx hb dX10_attacks_22 rfl (lv_at hl 0 rfl) ?_
    refine lv_iconst (v := (-1 : Int32)) hx hb dX10_attacks_23 kc_m1 ?_
    refine hc_ki (va_runV (As := [.int ((-1 : Int32))]) (rest := []) ⟨hx, hb, hml, hown, hts⟩ (c_X10_refuse l G h0 a_now a_kept a_reader a_numbers a_strife a_settled a_selection a_dispute a_trials a_refusals H.size s_isKept g_refusals ((-1 : Int32)) _ h) (cwV 1 hts gX10_attacks_X10_refuse rfl rfl rfl (by decide +kernel) ⟨Nat.le_of_ble_eq_true rfl, Nat.le_of_ble_eq_true rfl⟩) (hc_pV hK hP hD [0, 1] rfl rfl (ci := 8) 0 rfl rfl) rfl rfl hl.1 rfl (lv_room (Nat.le_of_ble_eq_true rfl)) dX10_attacks_24 ⟨Nat.le_refl _, Nat.le_refl _⟩) hP hD hS hA [0, 1] [2] rfl rfl rfl (by decide) (fun r24 u H locs h hP hD hS => ?_)
    obtain ⟨g_refusals_24, rfl⟩ : ∃ z, z = u := ⟨_, rfl⟩
    try dsimp only at h
    have hP : va_P G.1 vwCl [ceX3 a_now s_now_size s_now_heard s_now_mode s_now_cast s_now_figures s_now_voices s_now_attacks s_now_supports, ceX10 h0 a_now a_kept a_reader a_numbers a_strife a_settled a_selection a_dispute a_trials a_refusals s_isKept, caI G a_refusals 7 g_refusals_24] H := hP
    have hD : va_D A [ceX3 a_now s_now_size s_now_heard s_now_mode s_now_cast s_now_figures s_now_voices s_now_attacks s_now_supports, ceX10 h0 a_now a_kept a_reader a_numbers a_strife a_settled a_selection a_dispute a_trials a_refusals s_isKept, caI G a_refusals 7 g_refusals_24] := hD
    exact W.iret (v := r24) hx hb hr (fun t ht hW => ⟨⟨_, ⟨s_now_attacks, g_refusals_24⟩, rfl, h, ⟨by rw [ht]; exact (hP.sub [1, 0, 2] rfl), (hD.sub [1, 0, 2] (by decide) rfl)⟩⟩, hS.F ht⟩) hS.2.2 dX10_attacks_27
  · replace h := h.2 c
    refine lv_aload_n hx hb dX10_attacks_11 rfl (lv_at hl 0 rfl) ?_
    refine va_get (D := G.1) (ci := 8) (v := .ref a_now) (C := RX10) (T := TX10) (N := 11) hx hb hts ki_X10 hown hK.1 hP 0 rfl rfl 0 (by decide) kf0 (fun _ h9 => h9) rfl dX10_attacks_12 ?_
    refine lv_iload_n hx hb dX10_attacks_15 rfl (lv_at hl 2 rfl) ?_
    refine hc_ki (va_runV (As := [.int x2]) (rest := []) ⟨hx, hb, hml, hown, hts⟩ (c_X3_knows l G a_now H.size s_now_size s_now_heard s_now_mode s_now_cast s_now_figures s_now_voices s_now_attacks s_now_supports x2 _ h) (cwV 1 hts gX10_attacks_X3_knows rfl rfl rfl (by decide +kernel) ⟨Nat.le_of_ble_eq_true rfl, Nat.le_of_ble_eq_true rfl⟩) (hc_pV hK hP hD [2] rfl rfl (ci := 2) 2 rfl rfl) rfl rfl hl.1 rfl (lv_room (Nat.le_of_ble_eq_true rfl)) dX10_attacks_16 ⟨Nat.le_refl _, Nat.le_refl _⟩) hP hD hS hA [2] [0, 1] rfl rfl rfl (by decide) (fun r16 u H locs h hP hD hS => ?_)
    try dsimp only at h
    have hP : va_P G.1 vwCl [ceX10 h0 a_now a_kept a_reader a_numbers a_strife a_settled a_selection a_dispute a_trials a_refusals s_isKept, caI G a_refusals 7 g_refusals, ceX3 a_now s_now_size s_now_heard s_now_mode s_now_cast s_now_figures s_now_voices s_now_attacks s_now_supports] H := hP
    have hD : va_D A [ceX10 h0 a_now a_kept a_reader a_numbers a_strife a_settled a_selection a_dispute a_trials a_refusals s_isKept, caI G a_refusals 7 g_refusals, ceX3 a_now s_now_size s_now_heard s_now_mode s_now_cast s_now_figures s_now_voices s_now_attacks s_now_supports] := hD
    refine lv_if_ne (tgt := 28) hx hb dX10_attacks_19 (by decide) (fun c => ?_) (fun c => ?_)
    · replace h := h.1 c
      refine lv_iload_n hx hb dX10_attacks_28 rfl (lv_at hl 1 rfl) ?_
      refine lv_iload_n hx hb dX10_attacks_29 rfl (lv_at hl 2 rfl) ?_
      refine lv_icmp_ne (tgt := 40) hx hb dX10_attacks_30 (by decide) (fun c => ?_) (fun c => ?_)
      · replace h := h.1 c
        refine lv_aload_n hx hb dX10_attacks_40 rfl (lv_at hl 0 rfl) ?_
        refine va_get (D := G.1) (ci := 8) (v := .ref a_now) (C := RX10) (T := TX10) (N := 11) hx hb hts ki_X10 hown hK.1 hP 0 rfl rfl 0 (by decide) kf0 (fun _ h9 => h9) rfl dX10_attacks_41 ?_
        refine lv_iload_n hx hb dX10_attacks_44 rfl (lv_at hl 1 rfl) ?_
        refine lv_iload_n hx hb dX10_attacks_45 rfl (lv_at hl 2 rfl) ?_
        refine hc_kv (va_runV (As := [.int x1, .int x2]) (rest := []) ⟨hx, hb, hml, hown, hts⟩ (c_X3_flipAttack l G a_now H.size s_now_size s_now_heard s_now_mode s_now_cast s_now_figures s_now_voices s_now_attacks s_now_supports x1 x2 _ h) (cwV 2 hts gX10_attacks_X3_flipAttack rfl rfl rfl (by decide +kernel) ⟨Nat.le_of_ble_eq_true rfl, Nat.le_of_ble_eq_true rfl⟩) (hc_pV hK hP hD [2] rfl rfl (ci := 2) 2 rfl rfl) rfl rfl hl.1 rfl (lv_room (Nat.le_of_ble_eq_true rfl)) dX10_attacks_46 ⟨Nat.le_refl _, Nat.le_refl _⟩) hP hD hS hA [2] [0, 1] rfl rfl rfl (by decide) (fun u H locs h hP hD hS => ?_)
        obtain ⟨s_now_attacks_46, rfl⟩ : ∃ z, z = u := ⟨_, rfl⟩
        try dsimp only at h
        have hP : va_P G.1 vwCl [ceX10 h0 a_now a_kept a_reader a_numbers a_strife a_settled a_selection a_dispute a_trials a_refusals s_isKept, caI G a_refusals 7 g_refusals, ceX3 a_now s_now_size s_now_heard s_now_mode s_now_cast s_now_figures s_now_voices s_now_attacks_46 s_now_supports] H := hP
        have hD : va_D A [ceX10 h0 a_now a_kept a_reader a_numbers a_strife a_settled a_selection a_dispute a_trials a_refusals s_isKept, caI G a_refusals 7 g_refusals, ceX3 a_now s_now_size s_now_heard s_now_mode s_now_cast s_now_figures s_now_voices s_now_attacks_46 s_now_supports] := hD
        refine lv_aload_n hx hb dX10_attacks_49 rfl (lv_at hl 0 rfl) ?_
        refine va_get (D := G.1) (ci := 8) (v := .ref a_now) (C := RX10) (T := TX10) (N := 11) hx hb hts ki_X10 hown hK.1 hP 0 rfl rfl 0 (by decide) kf0 (fun _ h9 => h9) rfl dX10_attacks_50 ?_
        refine va_get (D := G.1) (ci := 2) (v := .long s_now_attacks_46) (C := RX3) (T := TX3) (N := 8) hx hb hts ki_X3 hown hK.1 hP 2 rfl rfl 6 (by decide) kf1 (fun _ h9 => h9) rfl dX10_attacks_53 ?_
        refine lv_iload_n hx hb dX10_attacks_56 rfl (lv_at hl 1 rfl) ?_
        refine lv_iload_n hx hb dX10_attacks_57 rfl (lv_at hl 2 rfl) ?_
        refine hc_ki (va_runS (As := [.long s_now_attacks_46, .int x1, .int x2]) (rest := []) ⟨hx, hb, hml, hown, hts⟩ (c_X0_has l G H.size s_now_attacks_46 x1 x2 _ h) (va_cwS 3 hts gX10_attacks_X0_has rfl rfl rfl (by decide +kernel) ⟨Nat.le_of_ble_eq_true rfl, Nat.le_of_ble_eq_true rfl⟩) (hc_pS hK hP hD [] rfl rfl) rfl rfl hl.1 rfl (lv_room (Nat.le_of_ble_eq_true rfl)) dX10_attacks_58 ⟨Nat.le_refl _, Nat.le_refl _⟩) hP hD hS hA [] [0, 1, 2] rfl rfl rfl (by decide) (fun r58 u H locs h hP hD hS => ?_)
        try dsimp only at h
        have hP : va_P G.1 vwCl [ceX10 h0 a_now a_kept a_reader a_numbers a_strife a_settled a_selection a_dispute a_trials a_refusals s_isKept, caI G a_refusals 7 g_refusals, ceX3 a_now s_now_size s_now_heard s_now_mode s_now_cast s_now_figures s_now_voices s_now_attacks_46 s_now_supports] H := hP
        have hD : va_D A [ceX10 h0 a_now a_kept a_reader a_numbers a_strife a_settled a_selection a_dispute a_trials a_refusals s_isKept, caI G a_refusals 7 g_refusals, ceX3 a_now s_now_size s_now_heard s_now_mode s_now_cast s_now_figures s_now_voices s_now_attacks_46 s_now_supports] := hD
        refine lv_if_eq (tgt := 68) hx hb dX10_attacks_61 (by decide) (fun c => ?_) (fun c => ?_)
        · replace h := h.1 c
          refine lv_iconst (v := nI 0) hx hb dX10_attacks_68 kc_0 ?_
          exact W.iret (v := nI 0) hx hb hr (fun t ht hW => ⟨⟨_, ⟨s_now_attacks_46, g_refusals⟩, rfl, h, ⟨by rw [ht]; exact (hP.sub [0, 2, 1] rfl), (hD.sub [0, 2, 1] (by decide) rfl)⟩⟩, hS.F ht⟩) hS.2.2 dX10_attacks_69
        · replace h := h.2 c
          refine lv_iconst (v := nI 1) hx hb dX10_attacks_64 kc_1 ?_
          refine lv_goto (tgt := 69) hx hb dX10_attacks_65 (by decide) ?_
          exact W.iret (v := nI 1) hx hb hr (fun t ht hW => ⟨⟨_, ⟨s_now_attacks_46, g_refusals⟩, rfl, h, ⟨by rw [ht]; exact (hP.sub [0, 2, 1] rfl), (hD.sub [0, 2, 1] (by decide) rfl)⟩⟩, hS.F ht⟩) hS.2.2 dX10_attacks_69
      · replace h := h.2 c
        refine lv_aload_n hx hb dX10_attacks_33 rfl (lv_at hl 0 rfl) ?_
        refine lv_bipush (v := (-3 : Int32)) hx hb dX10_attacks_34 kb_m3 ?_
        refine hc_ki (va_runV (As := [.int ((-3 : Int32))]) (rest := []) ⟨hx, hb, hml, hown, hts⟩ (c_X10_refuse l G h0 a_now a_kept a_reader a_numbers a_strife a_settled a_selection a_dispute a_trials a_refusals H.size s_isKept g_refusals ((-3 : Int32)) _ h) (cwV 1 hts gX10_attacks_X10_refuse rfl rfl rfl (by decide +kernel) ⟨Nat.le_of_ble_eq_true rfl, Nat.le_of_ble_eq_true rfl⟩) (hc_pV hK hP hD [0, 1] rfl rfl (ci := 8) 0 rfl rfl) rfl rfl hl.1 rfl (lv_room (Nat.le_of_ble_eq_true rfl)) dX10_attacks_36 ⟨Nat.le_refl _, Nat.le_refl _⟩) hP hD hS hA [0, 1] [2] rfl rfl rfl (by decide) (fun r36 u H locs h hP hD hS => ?_)
        obtain ⟨g_refusals_36, rfl⟩ : ∃ z, z = u := ⟨_, rfl⟩
        try dsimp only at h
        have hP : va_P G.1 vwCl [ceX3 a_now s_now_size s_now_heard s_now_mode s_now_cast s_now_figures s_now_voices s_now_attacks s_now_supports, ceX10 h0 a_now a_kept a_reader a_numbers a_strife a_settled a_selection a_dispute a_trials a_refusals s_isKept, caI G a_refusals 7 g_refusals_36] H := hP
        have hD : va_D A [ceX3 a_now s_now_size s_now_heard s_now_mode s_now_cast s_now_figures s_now_voices s_now_attacks s_now_supports, ceX10 h0 a_now a_kept a_reader a_numbers a_strife a_settled a_selection a_dispute a_trials a_refusals s_isKept, caI G a_refusals 7 g_refusals_36] := hD
        exact W.iret (v := r36) hx hb hr (fun t ht hW => ⟨⟨_, ⟨s_now_attacks, g_refusals_36⟩, rfl, h, ⟨by rw [ht]; exact (hP.sub [1, 0, 2] rfl), (hD.sub [1, 0, 2] (by decide) rfl)⟩⟩, hS.F ht⟩) hS.2.2 dX10_attacks_39
    · replace h := h.2 c
      refine lv_aload_n hx hb dX10_attacks_22 rfl (lv_at hl 0 rfl) ?_
      refine lv_iconst (v := (-1 : Int32)) hx hb dX10_attacks_23 kc_m1 ?_
      refine hc_ki (va_runV (As := [.int ((-1 : Int32))]) (rest := []) ⟨hx, hb, hml, hown, hts⟩ (c_X10_refuse l G h0 a_now a_kept a_reader a_numbers a_strife a_settled a_selection a_dispute a_trials a_refusals H.size s_isKept g_refusals ((-1 : Int32)) _ h) (cwV 1 hts gX10_attacks_X10_refuse rfl rfl rfl (by decide +kernel) ⟨Nat.le_of_ble_eq_true rfl, Nat.le_of_ble_eq_true rfl⟩) (hc_pV hK hP hD [0, 1] rfl rfl (ci := 8) 0 rfl rfl) rfl rfl hl.1 rfl (lv_room (Nat.le_of_ble_eq_true rfl)) dX10_attacks_24 ⟨Nat.le_refl _, Nat.le_refl _⟩) hP hD hS hA [0, 1] [2] rfl rfl rfl (by decide) (fun r24 u H locs h hP hD hS => ?_)
      obtain ⟨g_refusals_24, rfl⟩ : ∃ z, z = u := ⟨_, rfl⟩
      try dsimp only at h
      have hP : va_P G.1 vwCl [ceX3 a_now s_now_size s_now_heard s_now_mode s_now_cast s_now_figures s_now_voices s_now_attacks s_now_supports, ceX10 h0 a_now a_kept a_reader a_numbers a_strife a_settled a_selection a_dispute a_trials a_refusals s_isKept, caI G a_refusals 7 g_refusals_24] H := hP
      have hD : va_D A [ceX3 a_now s_now_size s_now_heard s_now_mode s_now_cast s_now_figures s_now_voices s_now_attacks s_now_supports, ceX10 h0 a_now a_kept a_reader a_numbers a_strife a_settled a_selection a_dispute a_trials a_refusals s_isKept, caI G a_refusals 7 g_refusals_24] := hD
      exact W.iret (v := r24) hx hb hr (fun t ht hW => ⟨⟨_, ⟨s_now_attacks, g_refusals_24⟩, rfl, h, ⟨by rw [ht]; exact (hP.sub [1, 0, 2] rfl), (hD.sub [1, 0, 2] (by decide) rfl)⟩⟩, hS.F ht⟩) hS.2.2 dX10_attacks_27
set_option maxHeartbeats 4000000 in
set_option maxRecDepth 100000 in
theorem c_X10_supports (l : Launch) (G : hcG) (h0 : Nat) (a_now : Nat) (a_kept : Nat) (a_reader : Nat) (a_numbers : Nat) (a_strife : Nat) (a_settled : Nat) (a_selection : Nat) (a_dispute : Nat) (a_trials : Nat) (a_refusals : Nat) (sz : Nat) (s_isKept : Int32) (s_now_size : Int32) (s_now_heard : Int32) (s_now_mode : Int32) (s_now_cast : Int64) (s_now_figures : Int64) (s_now_voices : Int64) (s_now_attacks : Int64) (s_now_supports : Int64) (g_refusals : Nat → Int32) (x1 : Int32) (x2 : Int32) (post : Int32 → Int64 → (Nat → Int32) → Prop) (h : wp_X10_supports post s_now_size s_now_supports g_refusals x1 x2) : Met l yX10_supports wsX10_supports ({ frames := 2, cells := 0, slots := 0, locals := 44 }) (hcPc G [.ref h0, .int x1, .int x2] [ceX10 h0 a_now a_kept a_reader a_numbers a_strife a_settled a_selection a_dispute a_trials a_refusals s_isKept, ceX3 a_now s_now_size s_now_heard s_now_mode s_now_cast s_now_figures s_now_voices s_now_attacks s_now_supports, caI G a_refusals 7 g_refusals] sz) (va_Qi (fun (r : Int32) (u : Int64 × (Nat → Int32)) => post r u.1 u.2) (hcB G (va_A [ceX10 h0 a_now a_kept a_reader a_numbers a_strife a_settled a_selection a_dispute a_trials a_refusals s_isKept, ceX3 a_now s_now_size s_now_heard s_now_mode s_now_cast s_now_figures s_now_voices s_now_attacks s_now_supports, caI G a_refusals 7 g_refusals] sz) (fun u : Int64 × (Nat → Int32) => [ceX10 h0 a_now a_kept a_reader a_numbers a_strife a_settled a_selection a_dispute a_trials a_refusals s_isKept, ceX3 a_now s_now_size s_now_heard s_now_mode s_now_cast s_now_figures s_now_voices s_now_attacks u.1, caI G a_refusals 7 u.2])) (va_A [ceX10 h0 a_now a_kept a_reader a_numbers a_strife a_settled a_selection a_dispute a_trials a_refusals s_isKept, ceX3 a_now s_now_size s_now_heard s_now_mode s_now_cast s_now_figures s_now_voices s_now_attacks s_now_supports, caI G a_refusals 7 g_refusals] sz)) 0 0 (va_A [ceX10 h0 a_now a_kept a_reader a_numbers a_strife a_settled a_selection a_dispute a_trials a_refusals s_isKept, ceX3 a_now s_now_size s_now_heard s_now_mode s_now_cast s_now_figures s_now_voices s_now_attacks s_now_supports, caI G a_refusals 7 g_refusals] sz) := by
  refine Met.ofW (cc := cX10_supports) (maxL := 3) (ret := (some .int)) (by decide) rfl ?_
  intro p e s m args below meth c s₁ B hml hv
  obtain ⟨rfl, hsz, hP, hK, hD0⟩ := hv
  have hx := B.exec
  have hb := B.bytes
  have hr := B.returns
  have hts := atoms_spec (ws := wsX10_supports) B.pre
  have hown : s.vm.findClass RX10 = some m.cls := findClass_of_methodNamed B.named
  have hlocks := B.notSynchronized
  subst hsz
  have hD := hD0.self (sz := s.heap.size)
  generalize hAe : va_A [ceX10 h0 a_now a_kept a_reader a_numbers a_strife a_settled a_selection a_dispute a_trials a_refusals s_isKept, ceX3 a_now s_now_size s_now_heard s_now_mode s_now_cast s_now_figures s_now_voices s_now_attacks s_now_supports, caI G a_refusals 7 g_refusals] s.heap.size = A at hD ⊢
  have hA : ∀ q : Nat, s.heap.size ≤ q → A q := fun q h => by rw [← hAe]; exact Or.inr h
  have hS : va_S A s.heap s.heap [] := va_S.rf
  have hP : va_P G.1 vwCl [ceX10 h0 a_now a_kept a_reader a_numbers a_strife a_settled a_selection a_dispute a_trials a_refusals s_isKept, ceX3 a_now s_now_size s_now_heard s_now_mode s_now_cast s_now_figures s_now_voices s_now_attacks s_now_supports, caI G a_refusals 7 g_refusals] s.heap := hP
  have hl := lv_entry ([.ref h0, .int x1, .int x2]) (n := 3) (Nat.le_of_ble_eq_true rfl)
  rw [lg_entry_eq]
  generalize (lg_sl ([.ref h0, .int x1, .int x2]) ++ List.replicate (3 - (lg_sl ([.ref h0, .int x1, .int x2])).length) Slot.unset).toArray = ls at hl ⊢
  have hl : lv_has ls 3 [(0, .ref h0), (1, .int x1), (2, .int x2)] := hl
  have kf0 := hts (.fieldLink RX10 10 "HallOfClaims" "now" "LHallOfClaims$Hall;") (List.mem_of_getElem? (i := 1) (by decide +kernel))
  have kf1 := hts (.fieldLink RX10 144 "HallOfClaims$Hall" "supports" "J") (List.mem_of_getElem? (i := 2) (by decide +kernel))
  have ki_X10 : ∀ w ∈ u_ws RX10 TX10 11, w ∈ wsX10_supports := by decide +kernel
  have ki_X3 : ∀ w ∈ u_ws RX3 TX3 8, w ∈ wsX10_supports := by decide +kernel
  unfold wp_X10_supports at h
  refine lv_aload_n hx hb dX10_supports_0 rfl (lv_at hl 0 rfl) ?_
  refine va_get (D := G.1) (ci := 8) (v := .ref a_now) (C := RX10) (T := TX10) (N := 11) hx hb hts ki_X10 hown hK.1 hP 0 rfl rfl 0 (by decide) kf0 (fun _ h9 => h9) rfl dX10_supports_1 ?_
  refine lv_iload_n hx hb dX10_supports_4 rfl (lv_at hl 1 rfl) ?_
  refine hc_ki (va_runV (As := [.int x1]) (rest := []) ⟨hx, hb, hml, hown, hts⟩ (c_X3_knows l G a_now H.size s_now_size s_now_heard s_now_mode s_now_cast s_now_figures s_now_voices s_now_attacks s_now_supports x1 _ h) (cwV 1 hts gX10_supports_X3_knows rfl rfl rfl (by decide +kernel) ⟨Nat.le_of_ble_eq_true rfl, Nat.le_of_ble_eq_true rfl⟩) (hc_pV hK hP hD [1] rfl rfl (ci := 2) 1 rfl rfl) rfl rfl hl.1 rfl (lv_room (Nat.le_of_ble_eq_true rfl)) dX10_supports_5 ⟨Nat.le_refl _, Nat.le_refl _⟩) hP hD hS hA [1] [0, 2] rfl rfl rfl (by decide) (fun r5 u H locs h hP hD hS => ?_)
  try dsimp only at h
  have hP : va_P G.1 vwCl [ceX10 h0 a_now a_kept a_reader a_numbers a_strife a_settled a_selection a_dispute a_trials a_refusals s_isKept, caI G a_refusals 7 g_refusals, ceX3 a_now s_now_size s_now_heard s_now_mode s_now_cast s_now_figures s_now_voices s_now_attacks s_now_supports] H := hP
  have hD : va_D A [ceX10 h0 a_now a_kept a_reader a_numbers a_strife a_settled a_selection a_dispute a_trials a_refusals s_isKept, caI G a_refusals 7 g_refusals, ceX3 a_now s_now_size s_now_heard s_now_mode s_now_cast s_now_figures s_now_voices s_now_attacks s_now_supports] := hD
  refine lv_if_eq (tgt := 22) hx hb dX10_supports_8 (by decide) (fun c => ?_) (fun c => ?_)
  · replace h := h.1 c
    refine lv_aload_n hx hb dX10_supports_22 rfl (lv_at hl 0 rfl) ?_
    refine lv_iconst (v := (-1 : Int32)) hx hb dX10_supports_23 kc_m1 ?_
    refine hc_ki (va_runV (As := [.int ((-1 : Int32))]) (rest := []) ⟨hx, hb, hml, hown, hts⟩ (c_X10_refuse l G h0 a_now a_kept a_reader a_numbers a_strife a_settled a_selection a_dispute a_trials a_refusals H.size s_isKept g_refusals ((-1 : Int32)) _ h) (cwV 1 hts gX10_supports_X10_refuse rfl rfl rfl (by decide +kernel) ⟨Nat.le_of_ble_eq_true rfl, Nat.le_of_ble_eq_true rfl⟩) (hc_pV hK hP hD [0, 1] rfl rfl (ci := 8) 0 rfl rfl) rfl rfl hl.1 rfl (lv_room (Nat.le_of_ble_eq_true rfl)) dX10_supports_24 ⟨Nat.le_refl _, Nat.le_refl _⟩) hP hD hS hA [0, 1] [2] rfl rfl rfl (by decide) (fun r24 u H locs h hP hD hS => ?_)
    obtain ⟨g_refusals_24, rfl⟩ : ∃ z, z = u := ⟨_, rfl⟩
    try dsimp only at h
    have hP : va_P G.1 vwCl [ceX3 a_now s_now_size s_now_heard s_now_mode s_now_cast s_now_figures s_now_voices s_now_attacks s_now_supports, ceX10 h0 a_now a_kept a_reader a_numbers a_strife a_settled a_selection a_dispute a_trials a_refusals s_isKept, caI G a_refusals 7 g_refusals_24] H := hP
    have hD : va_D A [ceX3 a_now s_now_size s_now_heard s_now_mode s_now_cast s_now_figures s_now_voices s_now_attacks s_now_supports, ceX10 h0 a_now a_kept a_reader a_numbers a_strife a_settled a_selection a_dispute a_trials a_refusals s_isKept, caI G a_refusals 7 g_refusals_24] := hD
    exact W.iret (v := r24) hx hb hr (fun t ht hW => ⟨⟨_, ⟨s_now_supports, g_refusals_24⟩, rfl, h, ⟨by rw [ht]; exact (hP.sub [1, 0, 2] rfl), (hD.sub [1, 0, 2] (by decide) rfl)⟩⟩, hS.F ht⟩) hS.2.2 dX10_supports_27
  · replace h := h.2 c
    refine lv_aload_n hx hb dX10_supports_11 rfl (lv_at hl 0 rfl) ?_
    refine va_get (D := G.1) (ci := 8) (v := .ref a_now) (C := RX10) (T := TX10) (N := 11) hx hb hts ki_X10 hown hK.1 hP 0 rfl rfl 0 (by decide) kf0 (fun _ h9 => h9) rfl dX10_supports_12 ?_
    refine lv_iload_n hx hb dX10_supports_15 rfl (lv_at hl 2 rfl) ?_
    refine hc_ki (va_runV (As := [.int x2]) (rest := []) ⟨hx, hb, hml, hown, hts⟩ (c_X3_knows l G a_now H.size s_now_size s_now_heard s_now_mode s_now_cast s_now_figures s_now_voices s_now_attacks s_now_supports x2 _ h) (cwV 1 hts gX10_supports_X3_knows rfl rfl rfl (by decide +kernel) ⟨Nat.le_of_ble_eq_true rfl, Nat.le_of_ble_eq_true rfl⟩) (hc_pV hK hP hD [2] rfl rfl (ci := 2) 2 rfl rfl) rfl rfl hl.1 rfl (lv_room (Nat.le_of_ble_eq_true rfl)) dX10_supports_16 ⟨Nat.le_refl _, Nat.le_refl _⟩) hP hD hS hA [2] [0, 1] rfl rfl rfl (by decide) (fun r16 u H locs h hP hD hS => ?_)
    try dsimp only at h
    have hP : va_P G.1 vwCl [ceX10 h0 a_now a_kept a_reader a_numbers a_strife a_settled a_selection a_dispute a_trials a_refusals s_isKept, caI G a_refusals 7 g_refusals, ceX3 a_now s_now_size s_now_heard s_now_mode s_now_cast s_now_figures s_now_voices s_now_attacks s_now_supports] H := hP
    have hD : va_D A [ceX10 h0 a_now a_kept a_reader a_numbers a_strife a_settled a_selection a_dispute a_trials a_refusals s_isKept, caI G a_refusals 7 g_refusals, ceX3 a_now s_now_size s_now_heard s_now_mode s_now_cast s_now_figures s_now_voices s_now_attacks s_now_supports] := hD
    refine lv_if_ne (tgt := 28) hx hb dX10_supports_19 (by decide) (fun c => ?_) (fun c => ?_)
    · replace h := h.1 c
      refine lv_iload_n hx hb dX10_supports_28 rfl (lv_at hl 1 rfl) ?_
      refine lv_iload_n hx hb dX10_supports_29 rfl (lv_at hl 2 rfl) ?_
      refine lv_icmp_ne (tgt := 40) hx hb dX10_supports_30 (by decide) (fun c => ?_) (fun c => ?_)
      · replace h := h.1 c
        refine lv_aload_n hx hb dX10_supports_40 rfl (lv_at hl 0 rfl) ?_
        refine va_get (D := G.1) (ci := 8) (v := .ref a_now) (C := RX10) (T := TX10) (N := 11) hx hb hts ki_X10 hown hK.1 hP 0 rfl rfl 0 (by decide) kf0 (fun _ h9 => h9) rfl dX10_supports_41 ?_
        refine lv_iload_n hx hb dX10_supports_44 rfl (lv_at hl 1 rfl) ?_
        refine lv_iload_n hx hb dX10_supports_45 rfl (lv_at hl 2 rfl) ?_
        refine hc_kv (va_runV (As := [.int x1, .int x2]) (rest := []) ⟨hx, hb, hml, hown, hts⟩ (c_X3_flipSupport l G a_now H.size s_now_size s_now_heard s_now_mode s_now_cast s_now_figures s_now_voices s_now_attacks s_now_supports x1 x2 _ h) (cwV 2 hts gX10_supports_X3_flipSupport rfl rfl rfl (by decide +kernel) ⟨Nat.le_of_ble_eq_true rfl, Nat.le_of_ble_eq_true rfl⟩) (hc_pV hK hP hD [2] rfl rfl (ci := 2) 2 rfl rfl) rfl rfl hl.1 rfl (lv_room (Nat.le_of_ble_eq_true rfl)) dX10_supports_46 ⟨Nat.le_refl _, Nat.le_refl _⟩) hP hD hS hA [2] [0, 1] rfl rfl rfl (by decide) (fun u H locs h hP hD hS => ?_)
        obtain ⟨s_now_supports_46, rfl⟩ : ∃ z, z = u := ⟨_, rfl⟩
        try dsimp only at h
        have hP : va_P G.1 vwCl [ceX10 h0 a_now a_kept a_reader a_numbers a_strife a_settled a_selection a_dispute a_trials a_refusals s_isKept, caI G a_refusals 7 g_refusals, ceX3 a_now s_now_size s_now_heard s_now_mode s_now_cast s_now_figures s_now_voices s_now_attacks s_now_supports_46] H := hP
        have hD : va_D A [ceX10 h0 a_now a_kept a_reader a_numbers a_strife a_settled a_selection a_dispute a_trials a_refusals s_isKept, caI G a_refusals 7 g_refusals, ceX3 a_now s_now_size s_now_heard s_now_mode s_now_cast s_now_figures s_now_voices s_now_attacks s_now_supports_46] := hD
        refine lv_aload_n hx hb dX10_supports_49 rfl (lv_at hl 0 rfl) ?_
        refine va_get (D := G.1) (ci := 8) (v := .ref a_now) (C := RX10) (T := TX10) (N := 11) hx hb hts ki_X10 hown hK.1 hP 0 rfl rfl 0 (by decide) kf0 (fun _ h9 => h9) rfl dX10_supports_50 ?_
        refine va_get (D := G.1) (ci := 2) (v := .long s_now_supports_46) (C := RX3) (T := TX3) (N := 8) hx hb hts ki_X3 hown hK.1 hP 2 rfl rfl 7 (by decide) kf1 (fun _ h9 => h9) rfl dX10_supports_53 ?_
        refine lv_iload_n hx hb dX10_supports_56 rfl (lv_at hl 1 rfl) ?_
        refine lv_iload_n hx hb dX10_supports_57 rfl (lv_at hl 2 rfl) ?_
        refine hc_ki (va_runS (As := [.long s_now_supports_46, .int x1, .int x2]) (rest := []) ⟨hx, hb, hml, hown, hts⟩ (c_X0_has l G H.size s_now_supports_46 x1 x2 _ h) (va_cwS 3 hts gX10_supports_X0_has rfl rfl rfl (by decide +kernel) ⟨Nat.le_of_ble_eq_true rfl, Nat.le_of_ble_eq_true rfl⟩) (hc_pS hK hP hD [] rfl rfl) rfl rfl hl.1 rfl (lv_room (Nat.le_of_ble_eq_true rfl)) dX10_supports_58 ⟨Nat.le_refl _, Nat.le_refl _⟩) hP hD hS hA [] [0, 1, 2] rfl rfl rfl (by decide) (fun r58 u H locs h hP hD hS => ?_)
        try dsimp only at h
        have hP : va_P G.1 vwCl [ceX10 h0 a_now a_kept a_reader a_numbers a_strife a_settled a_selection a_dispute a_trials a_refusals s_isKept, caI G a_refusals 7 g_refusals, ceX3 a_now s_now_size s_now_heard s_now_mode s_now_cast s_now_figures s_now_voices s_now_attacks s_now_supports_46] H := hP
        have hD : va_D A [ceX10 h0 a_now a_kept a_reader a_numbers a_strife a_settled a_selection a_dispute a_trials a_refusals s_isKept, caI G a_refusals 7 g_refusals, ceX3 a_now s_now_size s_now_heard s_now_mode s_now_cast s_now_figures s_now_voices s_now_attacks s_now_supports_46] := hD
        refine lv_if_eq (tgt := 68) hx hb dX10_supports_61 (by decide) (fun c => ?_) (fun c => ?_)
        · replace h := h.1 c
          refine lv_iconst (v := nI 0) hx hb dX10_supports_68 kc_0 ?_
          exact W.iret (v := nI 0) hx hb hr (fun t ht hW => ⟨⟨_, ⟨s_now_supports_46, g_refusals⟩, rfl, h, ⟨by rw [ht]; exact (hP.sub [0, 2, 1] rfl), (hD.sub [0, 2, 1] (by decide) rfl)⟩⟩, hS.F ht⟩) hS.2.2 dX10_supports_69
        · replace h := h.2 c
          refine lv_iconst (v := nI 1) hx hb dX10_supports_64 kc_1 ?_
          refine lv_goto (tgt := 69) hx hb dX10_supports_65 (by decide) ?_
          exact W.iret (v := nI 1) hx hb hr (fun t ht hW => ⟨⟨_, ⟨s_now_supports_46, g_refusals⟩, rfl, h, ⟨by rw [ht]; exact (hP.sub [0, 2, 1] rfl), (hD.sub [0, 2, 1] (by decide) rfl)⟩⟩, hS.F ht⟩) hS.2.2 dX10_supports_69
      · replace h := h.2 c
        refine lv_aload_n hx hb dX10_supports_33 rfl (lv_at hl 0 rfl) ?_
        refine lv_bipush (v := (-3 : Int32)) hx hb dX10_supports_34 kb_m3 ?_
        refine hc_ki (va_runV (As := [.int ((-3 : Int32))]) (rest := []) ⟨hx, hb, hml, hown, hts⟩ (c_X10_refuse l G h0 a_now a_kept a_reader a_numbers a_strife a_settled a_selection a_dispute a_trials a_refusals H.size s_isKept g_refusals ((-3 : Int32)) _ h) (cwV 1 hts gX10_supports_X10_refuse rfl rfl rfl (by decide +kernel) ⟨Nat.le_of_ble_eq_true rfl, Nat.le_of_ble_eq_true rfl⟩) (hc_pV hK hP hD [0, 1] rfl rfl (ci := 8) 0 rfl rfl) rfl rfl hl.1 rfl (lv_room (Nat.le_of_ble_eq_true rfl)) dX10_supports_36 ⟨Nat.le_refl _, Nat.le_refl _⟩) hP hD hS hA [0, 1] [2] rfl rfl rfl (by decide) (fun r36 u H locs h hP hD hS => ?_)
        obtain ⟨g_refusals_36, rfl⟩ : ∃ z, z = u := ⟨_, rfl⟩
        try dsimp only at h
        have hP : va_P G.1 vwCl [ceX3 a_now s_now_size s_now_heard s_now_mode s_now_cast s_now_figures s_now_voices s_now_attacks s_now_supports, ceX10 h0 a_now a_kept a_reader a_numbers a_strife a_settled a_selection a_dispute a_trials a_refusals s_isKept, caI G a_refusals 7 g_refusals_36] H := hP
        have hD : va_D A [ceX3 a_now s_now_size s_now_heard s_now_mode s_now_cast s_now_figures s_now_voices s_now_attacks s_now_supports, ceX10 h0 a_now a_kept a_reader a_numbers a_strife a_settled a_selection a_dispute a_trials a_refusals s_isKept, caI G a_refusals 7 g_refusals_36] := hD
        exact W.iret (v := r36) hx hb hr (fun t ht hW => ⟨⟨_, ⟨s_now_supports, g_refusals_36⟩, rfl, h, ⟨by rw [ht]; exact (hP.sub [1, 0, 2] rfl), (hD.sub [1, 0, 2] (by decide) rfl)⟩⟩, hS.F ht⟩) hS.2.2 dX10_supports_39
    · replace h := h.2 c
      refine lv_aload_n hx hb dX10_supports_22 rfl (lv_at hl 0 rfl) ?_
      refine lv_iconst (v := (-1 : Int32)) hx hb dX10_supports_23 kc_m1 ?_
      refine hc_ki (va_runV (As := [.int ((-1 : Int32))]) (rest := []) ⟨hx, hb, hml, hown, hts⟩ (c_X10_refuse l G h0 a_now a_kept a_reader a_numbers a_strife a_settled a_selection a_dispute a_trials a_refusals H.size s_isKept g_refusals ((-1 : Int32)) _ h) (cwV 1 hts gX10_supports_X10_refuse rfl rfl rfl (by decide +kernel) ⟨Nat.le_of_ble_eq_true rfl, Nat.le_of_ble_eq_true rfl⟩) (hc_pV hK hP hD [0, 1] rfl rfl (ci := 8) 0 rfl rfl) rfl rfl hl.1 rfl (lv_room (Nat.le_of_ble_eq_true rfl)) dX10_supports_24 ⟨Nat.le_refl _, Nat.le_refl _⟩) hP hD hS hA [0, 1] [2] rfl rfl rfl (by decide) (fun r24 u H locs h hP hD hS => ?_)
      obtain ⟨g_refusals_24, rfl⟩ : ∃ z, z = u := ⟨_, rfl⟩
      try dsimp only at h
      have hP : va_P G.1 vwCl [ceX3 a_now s_now_size s_now_heard s_now_mode s_now_cast s_now_figures s_now_voices s_now_attacks s_now_supports, ceX10 h0 a_now a_kept a_reader a_numbers a_strife a_settled a_selection a_dispute a_trials a_refusals s_isKept, caI G a_refusals 7 g_refusals_24] H := hP
      have hD : va_D A [ceX3 a_now s_now_size s_now_heard s_now_mode s_now_cast s_now_figures s_now_voices s_now_attacks s_now_supports, ceX10 h0 a_now a_kept a_reader a_numbers a_strife a_settled a_selection a_dispute a_trials a_refusals s_isKept, caI G a_refusals 7 g_refusals_24] := hD
      exact W.iret (v := r24) hx hb hr (fun t ht hW => ⟨⟨_, ⟨s_now_supports, g_refusals_24⟩, rfl, h, ⟨by rw [ht]; exact (hP.sub [1, 0, 2] rfl), (hD.sub [1, 0, 2] (by decide) rfl)⟩⟩, hS.F ht⟩) hS.2.2 dX10_supports_27
set_option maxHeartbeats 4000000 in
set_option maxRecDepth 100000 in
theorem c_X10_mode (l : Launch) (G : hcG) (h0 : Nat) (a_now : Nat) (a_kept : Nat) (a_reader : Nat) (a_numbers : Nat) (a_strife : Nat) (a_settled : Nat) (a_selection : Nat) (a_dispute : Nat) (a_trials : Nat) (a_refusals : Nat) (sz : Nat) (s_isKept : Int32) (s_now_size : Int32) (s_now_heard : Int32) (s_now_mode : Int32) (s_now_cast : Int64) (s_now_figures : Int64) (s_now_voices : Int64) (s_now_attacks : Int64) (s_now_supports : Int64) (g_refusals : Nat → Int32) (x1 : Int32) (post : Int32 → Int32 → (Nat → Int32) → Prop) (h : wp_X10_mode post s_now_mode g_refusals x1) : Met l yX10_mode wsX10_mode ({ frames := 1, cells := 0, slots := 0, locals := 22 }) (hcPc G [.ref h0, .int x1] [ceX10 h0 a_now a_kept a_reader a_numbers a_strife a_settled a_selection a_dispute a_trials a_refusals s_isKept, ceX3 a_now s_now_size s_now_heard s_now_mode s_now_cast s_now_figures s_now_voices s_now_attacks s_now_supports, caI G a_refusals 7 g_refusals] sz) (va_Qi (fun (r : Int32) (u : Int32 × (Nat → Int32)) => post r u.1 u.2) (hcB G (va_A [ceX10 h0 a_now a_kept a_reader a_numbers a_strife a_settled a_selection a_dispute a_trials a_refusals s_isKept, ceX3 a_now s_now_size s_now_heard s_now_mode s_now_cast s_now_figures s_now_voices s_now_attacks s_now_supports, caI G a_refusals 7 g_refusals] sz) (fun u : Int32 × (Nat → Int32) => [ceX10 h0 a_now a_kept a_reader a_numbers a_strife a_settled a_selection a_dispute a_trials a_refusals s_isKept, ceX3 a_now s_now_size s_now_heard u.1 s_now_cast s_now_figures s_now_voices s_now_attacks s_now_supports, caI G a_refusals 7 u.2])) (va_A [ceX10 h0 a_now a_kept a_reader a_numbers a_strife a_settled a_selection a_dispute a_trials a_refusals s_isKept, ceX3 a_now s_now_size s_now_heard s_now_mode s_now_cast s_now_figures s_now_voices s_now_attacks s_now_supports, caI G a_refusals 7 g_refusals] sz)) 0 0 (va_A [ceX10 h0 a_now a_kept a_reader a_numbers a_strife a_settled a_selection a_dispute a_trials a_refusals s_isKept, ceX3 a_now s_now_size s_now_heard s_now_mode s_now_cast s_now_figures s_now_voices s_now_attacks s_now_supports, caI G a_refusals 7 g_refusals] sz) := by
  refine Met.ofW (cc := cX10_mode) (maxL := 3) (ret := (some .int)) (by decide) rfl ?_
  intro p e s m args below meth c s₁ B hml hv
  obtain ⟨rfl, hsz, hP, hK, hD0⟩ := hv
  have hx := B.exec
  have hb := B.bytes
  have hr := B.returns
  have hts := atoms_spec (ws := wsX10_mode) B.pre
  have hown : s.vm.findClass RX10 = some m.cls := findClass_of_methodNamed B.named
  have hlocks := B.notSynchronized
  subst hsz
  have hD := hD0.self (sz := s.heap.size)
  generalize hAe : va_A [ceX10 h0 a_now a_kept a_reader a_numbers a_strife a_settled a_selection a_dispute a_trials a_refusals s_isKept, ceX3 a_now s_now_size s_now_heard s_now_mode s_now_cast s_now_figures s_now_voices s_now_attacks s_now_supports, caI G a_refusals 7 g_refusals] s.heap.size = A at hD ⊢
  have hA : ∀ q : Nat, s.heap.size ≤ q → A q := fun q h => by rw [← hAe]; exact Or.inr h
  have hS : va_S A s.heap s.heap [] := va_S.rf
  have hP : va_P G.1 vwCl [ceX10 h0 a_now a_kept a_reader a_numbers a_strife a_settled a_selection a_dispute a_trials a_refusals s_isKept, ceX3 a_now s_now_size s_now_heard s_now_mode s_now_cast s_now_figures s_now_voices s_now_attacks s_now_supports, caI G a_refusals 7 g_refusals] s.heap := hP
  have hl := lv_entry ([.ref h0, .int x1]) (n := 3) (Nat.le_of_ble_eq_true rfl)
  rw [lg_entry_eq]
  generalize (lg_sl ([.ref h0, .int x1]) ++ List.replicate (3 - (lg_sl ([.ref h0, .int x1])).length) Slot.unset).toArray = ls at hl ⊢
  have hl : lv_has ls 3 [(0, .ref h0), (1, .int x1)] := hl
  have kf0 := hts (.fieldLink RX10 10 "HallOfClaims" "now" "LHallOfClaims$Hall;") (List.mem_of_getElem? (i := 1) (by decide +kernel))
  have kf1 := hts (.fieldLink RX10 147 "HallOfClaims$Hall" "mode" "I") (List.mem_of_getElem? (i := 2) (by decide +kernel))
  have ki_X10 : ∀ w ∈ u_ws RX10 TX10 11, w ∈ wsX10_mode := by decide +kernel
  have ki_X3 : ∀ w ∈ u_ws RX3 TX3 8, w ∈ wsX10_mode := by decide +kernel
  unfold wp_X10_mode at h
  refine lv_iload_n hx hb dX10_mode_0 rfl (lv_at hl 1 rfl) ?_
  refine lv_if_ge (tgt := 11) hx hb dX10_mode_1 (by decide) (fun c => ?_) (fun c => ?_)
  · replace h := h.1 c
    refine lv_iload_n hx hb dX10_mode_11 rfl (lv_at hl 1 rfl) ?_
    refine lv_iconst (v := nI 4) hx hb dX10_mode_12 kc_4 ?_
    refine lv_icmp_lt (tgt := 23) hx hb dX10_mode_13 (by decide) (fun c => ?_) (fun c => ?_)
    · replace h := h.1 c
      refine lv_aload_n hx hb dX10_mode_23 rfl (lv_at hl 0 rfl) ?_
      refine va_get (D := G.1) (ci := 8) (v := .ref a_now) (C := RX10) (T := TX10) (N := 11) hx hb hts ki_X10 hown hK.1 hP 0 rfl rfl 0 (by decide) kf0 (fun _ h9 => h9) rfl dX10_mode_24 ?_
      refine va_get (D := G.1) (ci := 2) (v := .int s_now_mode) (C := RX3) (T := TX3) (N := 8) hx hb hts ki_X3 hown hK.1 hP 1 rfl rfl 2 (by decide) kf1 (fun _ h9 => h9) rfl dX10_mode_27 ?_
      refine lv_istore_n (lv' := [(2, .int s_now_mode), (0, .ref h0), (1, .int x1)]) hx hb dX10_mode_30 rfl hl (by decide) rfl (fun ls hl => ?_)
      refine lv_aload_n hx hb dX10_mode_31 rfl (lv_at hl 1 rfl) ?_
      refine va_get (D := G.1) (ci := 8) (v := .ref a_now) (C := RX10) (T := TX10) (N := 11) hx hb hts ki_X10 hown hK.1 hP 0 rfl rfl 0 (by decide) kf0 (fun _ h9 => h9) rfl dX10_mode_32 ?_
      refine lv_iload_n hx hb dX10_mode_35 rfl (lv_at hl 2 rfl) ?_
      refine va_put (D := G.1) (ci := 2) (v := .int x1) (ty := .int) (C := RX3) (T := TX3) (N := 8) hx hb hts ki_X3 tyX3 tyX3_ok nmX3 hown hK.1 hP hD hS 1 rfl rfl 2 (by decide) kf1 (fun _ h9 => h9) rfl (by decide +kernel) rfl rfl (Nat.le_of_ble_eq_true rfl) dX10_mode_36 (fun H locs hP hD hS => ?_)
      have hP : va_P G.1 vwCl [ceX10 h0 a_now a_kept a_reader a_numbers a_strife a_settled a_selection a_dispute a_trials a_refusals s_isKept, ceX3 a_now s_now_size s_now_heard x1 s_now_cast s_now_figures s_now_voices s_now_attacks s_now_supports, caI G a_refusals 7 g_refusals] H := hP
      have hD : va_D A [ceX10 h0 a_now a_kept a_reader a_numbers a_strife a_settled a_selection a_dispute a_trials a_refusals s_isKept, ceX3 a_now s_now_size s_now_heard x1 s_now_cast s_now_figures s_now_voices s_now_attacks s_now_supports, caI G a_refusals 7 g_refusals] := hD
      refine lv_iload_n hx hb dX10_mode_39 rfl (lv_at hl 0 rfl) ?_
      exact W.iret (v := s_now_mode) hx hb hr (fun t ht hW => ⟨⟨_, ⟨x1, g_refusals⟩, rfl, h, ⟨by rw [ht]; exact hP, hD⟩⟩, hS.F ht⟩) hS.2.2 dX10_mode_40
    · replace h := h.2 c
      refine lv_aload_n hx hb dX10_mode_16 rfl (lv_at hl 0 rfl) ?_
      refine lv_bipush (v := (-6 : Int32)) hx hb dX10_mode_17 kb_m6 ?_
      refine hc_ki (va_runV (As := [.int ((-6 : Int32))]) (rest := []) ⟨hx, hb, hml, hown, hts⟩ (c_X10_refuse l G h0 a_now a_kept a_reader a_numbers a_strife a_settled a_selection a_dispute a_trials a_refusals H.size s_isKept g_refusals ((-6 : Int32)) _ h) (cwV 1 hts gX10_mode_X10_refuse rfl rfl rfl (by decide +kernel) ⟨Nat.le_of_ble_eq_true rfl, Nat.le_of_ble_eq_true rfl⟩) (hc_pV hK hP hD [0, 2] rfl rfl (ci := 8) 0 rfl rfl) rfl rfl hl.1 rfl (lv_room (Nat.le_of_ble_eq_true rfl)) dX10_mode_19 ⟨Nat.le_refl _, Nat.le_refl _⟩) hP hD hS hA [0, 2] [1] rfl rfl rfl (by decide) (fun r19 u H locs h hP hD hS => ?_)
      obtain ⟨g_refusals_19, rfl⟩ : ∃ z, z = u := ⟨_, rfl⟩
      try dsimp only at h
      have hP : va_P G.1 vwCl [ceX3 a_now s_now_size s_now_heard s_now_mode s_now_cast s_now_figures s_now_voices s_now_attacks s_now_supports, ceX10 h0 a_now a_kept a_reader a_numbers a_strife a_settled a_selection a_dispute a_trials a_refusals s_isKept, caI G a_refusals 7 g_refusals_19] H := hP
      have hD : va_D A [ceX3 a_now s_now_size s_now_heard s_now_mode s_now_cast s_now_figures s_now_voices s_now_attacks s_now_supports, ceX10 h0 a_now a_kept a_reader a_numbers a_strife a_settled a_selection a_dispute a_trials a_refusals s_isKept, caI G a_refusals 7 g_refusals_19] := hD
      exact W.iret (v := r19) hx hb hr (fun t ht hW => ⟨⟨_, ⟨s_now_mode, g_refusals_19⟩, rfl, h, ⟨by rw [ht]; exact (hP.sub [1, 0, 2] rfl), (hD.sub [1, 0, 2] (by decide) rfl)⟩⟩, hS.F ht⟩) hS.2.2 dX10_mode_22
  · replace h := h.2 c
    refine lv_aload_n hx hb dX10_mode_4 rfl (lv_at hl 0 rfl) ?_
    refine lv_bipush (v := (-4 : Int32)) hx hb dX10_mode_5 kb_m4 ?_
    refine hc_ki (va_runV (As := [.int ((-4 : Int32))]) (rest := []) ⟨hx, hb, hml, hown, hts⟩ (c_X10_refuse l G h0 a_now a_kept a_reader a_numbers a_strife a_settled a_selection a_dispute a_trials a_refusals H.size s_isKept g_refusals ((-4 : Int32)) _ h) (cwV 1 hts gX10_mode_X10_refuse rfl rfl rfl (by decide +kernel) ⟨Nat.le_of_ble_eq_true rfl, Nat.le_of_ble_eq_true rfl⟩) (hc_pV hK hP hD [0, 2] rfl rfl (ci := 8) 0 rfl rfl) rfl rfl hl.1 rfl (lv_room (Nat.le_of_ble_eq_true rfl)) dX10_mode_7 ⟨Nat.le_refl _, Nat.le_refl _⟩) hP hD hS hA [0, 2] [1] rfl rfl rfl (by decide) (fun r7 u H locs h hP hD hS => ?_)
    obtain ⟨g_refusals_7, rfl⟩ : ∃ z, z = u := ⟨_, rfl⟩
    try dsimp only at h
    have hP : va_P G.1 vwCl [ceX3 a_now s_now_size s_now_heard s_now_mode s_now_cast s_now_figures s_now_voices s_now_attacks s_now_supports, ceX10 h0 a_now a_kept a_reader a_numbers a_strife a_settled a_selection a_dispute a_trials a_refusals s_isKept, caI G a_refusals 7 g_refusals_7] H := hP
    have hD : va_D A [ceX3 a_now s_now_size s_now_heard s_now_mode s_now_cast s_now_figures s_now_voices s_now_attacks s_now_supports, ceX10 h0 a_now a_kept a_reader a_numbers a_strife a_settled a_selection a_dispute a_trials a_refusals s_isKept, caI G a_refusals 7 g_refusals_7] := hD
    exact W.iret (v := r7) hx hb hr (fun t ht hW => ⟨⟨_, ⟨s_now_mode, g_refusals_7⟩, rfl, h, ⟨by rw [ht]; exact (hP.sub [1, 0, 2] rfl), (hD.sub [1, 0, 2] (by decide) rfl)⟩⟩, hS.F ht⟩) hS.2.2 dX10_mode_10
set_option maxHeartbeats 4000000 in
set_option maxRecDepth 100000 in
theorem c_X10_claim (l : Launch) (G : hcG) (h0 : Nat) (a_now : Nat) (a_kept : Nat) (a_reader : Nat) (a_numbers : Nat) (a_strife : Nat) (a_settled : Nat) (a_selection : Nat) (a_dispute : Nat) (a_trials : Nat) (a_refusals : Nat) (sz : Nat) (s_isKept : Int32) (s_now_size : Int32) (s_now_heard : Int32) (s_now_mode : Int32) (s_now_cast : Int64) (s_now_figures : Int64) (s_now_voices : Int64) (s_now_attacks : Int64) (s_now_supports : Int64) (s_strife_hits : Int64) (s_strife_leads : Int64) (s_strife_defeats : Int64) (s_strife_defeaters : Int64) (g_refusals : Nat → Int32) (x1 : Int32) (x2 : Int32) (post : Int32 → Int64 → Int64 → Int64 → Int64 → (Nat → Int32) → Prop) (h : wp_X10_claim post s_now_size s_now_heard s_now_mode s_now_cast s_now_figures s_now_voices s_now_attacks s_now_supports s_strife_hits s_strife_leads s_strife_defeats s_strife_defeaters g_refusals x1 x2) : Met l yX10_claim wsX10_claim ({ frames := 4, cells := 0, slots := 0, locals := 96 }) (hcPc G [.ref h0, .int x1, .int x2] [ceX10 h0 a_now a_kept a_reader a_numbers a_strife a_settled a_selection a_dispute a_trials a_refusals s_isKept, ceX3 a_now s_now_size s_now_heard s_now_mode s_now_cast s_now_figures s_now_voices s_now_attacks s_now_supports, ceX1 a_strife s_strife_hits s_strife_leads s_strife_defeats s_strife_defeaters, caI G a_refusals 7 g_refusals] sz) (va_Qi (fun (r : Int32) (u : Int64 × Int64 × Int64 × Int64 × (Nat → Int32)) => post r u.1 u.2.1 u.2.2.1 u.2.2.2.1 u.2.2.2.2) (hcB G (va_A [ceX10 h0 a_now a_kept a_reader a_numbers a_strife a_settled a_selection a_dispute a_trials a_refusals s_isKept, ceX3 a_now s_now_size s_now_heard s_now_mode s_now_cast s_now_figures s_now_voices s_now_attacks s_now_supports, ceX1 a_strife s_strife_hits s_strife_leads s_strife_defeats s_strife_defeaters, caI G a_refusals 7 g_refusals] sz) (fun u : Int64 × Int64 × Int64 × Int64 × (Nat → Int32) => [ceX10 h0 a_now a_kept a_reader a_numbers a_strife a_settled a_selection a_dispute a_trials a_refusals s_isKept, ceX3 a_now s_now_size s_now_heard s_now_mode s_now_cast s_now_figures s_now_voices s_now_attacks s_now_supports, ceX1 a_strife u.1 u.2.1 u.2.2.1 u.2.2.2.1, caI G a_refusals 7 u.2.2.2.2])) (va_A [ceX10 h0 a_now a_kept a_reader a_numbers a_strife a_settled a_selection a_dispute a_trials a_refusals s_isKept, ceX3 a_now s_now_size s_now_heard s_now_mode s_now_cast s_now_figures s_now_voices s_now_attacks s_now_supports, ceX1 a_strife s_strife_hits s_strife_leads s_strife_defeats s_strife_defeaters, caI G a_refusals 7 g_refusals] sz)) 0 0 (va_A [ceX10 h0 a_now a_kept a_reader a_numbers a_strife a_settled a_selection a_dispute a_trials a_refusals s_isKept, ceX3 a_now s_now_size s_now_heard s_now_mode s_now_cast s_now_figures s_now_voices s_now_attacks s_now_supports, ceX1 a_strife s_strife_hits s_strife_leads s_strife_defeats s_strife_defeaters, caI G a_refusals 7 g_refusals] sz) := by
  refine Met.ofW (cc := cX10_claim) (maxL := 3) (ret := (some .int)) (by decide) rfl ?_
  intro p e s m args below meth c s₁ B hml hv
  obtain ⟨rfl, hsz, hP, hK, hD0⟩ := hv
  have hx := B.exec
  have hb := B.bytes
  have hr := B.returns
  have hts := atoms_spec (ws := wsX10_claim) B.pre
  have hown : s.vm.findClass RX10 = some m.cls := findClass_of_methodNamed B.named
  have hlocks := B.notSynchronized
  subst hsz
  have hD := hD0.self (sz := s.heap.size)
  generalize hAe : va_A [ceX10 h0 a_now a_kept a_reader a_numbers a_strife a_settled a_selection a_dispute a_trials a_refusals s_isKept, ceX3 a_now s_now_size s_now_heard s_now_mode s_now_cast s_now_figures s_now_voices s_now_attacks s_now_supports, ceX1 a_strife s_strife_hits s_strife_leads s_strife_defeats s_strife_defeaters, caI G a_refusals 7 g_refusals] s.heap.size = A at hD ⊢
  have hA : ∀ q : Nat, s.heap.size ≤ q → A q := fun q h => by rw [← hAe]; exact Or.inr h
  have hS : va_S A s.heap s.heap [] := va_S.rf
  have hP : va_P G.1 vwCl [ceX10 h0 a_now a_kept a_reader a_numbers a_strife a_settled a_selection a_dispute a_trials a_refusals s_isKept, ceX3 a_now s_now_size s_now_heard s_now_mode s_now_cast s_now_figures s_now_voices s_now_attacks s_now_supports, ceX1 a_strife s_strife_hits s_strife_leads s_strife_defeats s_strife_defeaters, caI G a_refusals 7 g_refusals] s.heap := hP
  have hl := lv_entry ([.ref h0, .int x1, .int x2]) (n := 3) (Nat.le_of_ble_eq_true rfl)
  rw [lg_entry_eq]
  generalize (lg_sl ([.ref h0, .int x1, .int x2]) ++ List.replicate (3 - (lg_sl ([.ref h0, .int x1, .int x2])).length) Slot.unset).toArray = ls at hl ⊢
  have hl : lv_has ls 3 [(0, .ref h0), (1, .int x1), (2, .int x2)] := hl
  have kf0 := hts (.fieldLink RX10 10 "HallOfClaims" "now" "LHallOfClaims$Hall;") (List.mem_of_getElem? (i := 1) (by decide +kernel))
  have kf1 := hts (.fieldLink RX10 38 "HallOfClaims" "strife" "LHallOfClaims$Defeats;") (List.mem_of_getElem? (i := 2) (by decide +kernel))
  have kf2 := hts (.fieldLink RX10 170 "HallOfClaims$Defeats" "defeaters" "J") (List.mem_of_getElem? (i := 8) (by decide +kernel))
  have kf3 := hts (.fieldLink RX10 131 "HallOfClaims$Hall" "attacks" "J") (List.mem_of_getElem? (i := 3) (by decide +kernel))
  have kf4 := hts (.fieldLink RX10 144 "HallOfClaims$Hall" "supports" "J") (List.mem_of_getElem? (i := 4) (by decide +kernel))
  have kf5 := hts (.fieldLink RX10 161 "HallOfClaims$Defeats" "hits" "J") (List.mem_of_getElem? (i := 5) (by decide +kernel))
  have kf6 := hts (.fieldLink RX10 164 "HallOfClaims$Defeats" "leads" "J") (List.mem_of_getElem? (i := 6) (by decide +kernel))
  have kf7 := hts (.fieldLink RX10 167 "HallOfClaims$Defeats" "defeats" "J") (List.mem_of_getElem? (i := 7) (by decide +kernel))
  have ki_X10 : ∀ w ∈ u_ws RX10 TX10 11, w ∈ wsX10_claim := by decide +kernel
  have ki_X1 : ∀ w ∈ u_ws RX1 TX1 4, w ∈ wsX10_claim := by decide +kernel
  have ki_X3 : ∀ w ∈ u_ws RX3 TX3 8, w ∈ wsX10_claim := by decide +kernel
  unfold wp_X10_claim at h
  refine lv_aload_n hx hb dX10_claim_0 rfl (lv_at hl 0 rfl) ?_
  refine va_get (D := G.1) (ci := 8) (v := .ref a_now) (C := RX10) (T := TX10) (N := 11) hx hb hts ki_X10 hown hK.1 hP 0 rfl rfl 0 (by decide) kf0 (fun _ h9 => h9) rfl dX10_claim_1 ?_
  refine lv_iload_n hx hb dX10_claim_4 rfl (lv_at hl 1 rfl) ?_
  refine hc_ki (va_runV (As := [.int x1]) (rest := []) ⟨hx, hb, hml, hown, hts⟩ (c_X3_knows l G a_now H.size s_now_size s_now_heard s_now_mode s_now_cast s_now_figures s_now_voices s_now_attacks s_now_supports x1 _ h) (cwV 1 hts gX10_claim_X3_knows rfl rfl rfl (by decide +kernel) ⟨Nat.le_of_ble_eq_true rfl, Nat.le_of_ble_eq_true rfl⟩) (hc_pV hK hP hD [1] rfl rfl (ci := 2) 1 rfl rfl) rfl rfl hl.1 rfl (lv_room (Nat.le_of_ble_eq_true rfl)) dX10_claim_5 ⟨Nat.le_refl _, Nat.le_refl _⟩) hP hD hS hA [1] [0, 2, 3] rfl rfl rfl (by decide) (fun r5 u H locs h hP hD hS => ?_)
  try dsimp only at h
  have hP : va_P G.1 vwCl [ceX10 h0 a_now a_kept a_reader a_numbers a_strife a_settled a_selection a_dispute a_trials a_refusals s_isKept, ceX1 a_strife s_strife_hits s_strife_leads s_strife_defeats s_strife_defeaters, caI G a_refusals 7 g_refusals, ceX3 a_now s_now_size s_now_heard s_now_mode s_now_cast s_now_figures s_now_voices s_now_attacks s_now_supports] H := hP
  have hD : va_D A [ceX10 h0 a_now a_kept a_reader a_numbers a_strife a_settled a_selection a_dispute a_trials a_refusals s_isKept, ceX1 a_strife s_strife_hits s_strife_leads s_strife_defeats s_strife_defeaters, caI G a_refusals 7 g_refusals, ceX3 a_now s_now_size s_now_heard s_now_mode s_now_cast s_now_figures s_now_voices s_now_attacks s_now_supports] := hD
  refine lv_if_ne (tgt := 17) hx hb dX10_claim_8 (by decide) (fun c => ?_) (fun c => ?_)
  · replace h := h.1 c
    refine lv_iload_n hx hb dX10_claim_17 rfl (lv_at hl 2 rfl) ?_
    refine lv_if_lt (tgt := 27) hx hb dX10_claim_18 (by decide) (fun c => ?_) (fun c => ?_)
    · replace h := h.1 c
      refine lv_aload_n hx hb dX10_claim_27 rfl (lv_at hl 0 rfl) ?_
      refine lv_bipush (v := (-2 : Int32)) hx hb dX10_claim_28 kb_m2 ?_
      refine hc_ki (va_runV (As := [.int ((-2 : Int32))]) (rest := []) ⟨hx, hb, hml, hown, hts⟩ (c_X10_refuse l G h0 a_now a_kept a_reader a_numbers a_strife a_settled a_selection a_dispute a_trials a_refusals H.size s_isKept g_refusals ((-2 : Int32)) _ h) (cwV 1 hts gX10_claim_X10_refuse rfl rfl rfl (by decide +kernel) ⟨Nat.le_of_ble_eq_true rfl, Nat.le_of_ble_eq_true rfl⟩) (hc_pV hK hP hD [0, 2] rfl rfl (ci := 8) 0 rfl rfl) rfl rfl hl.1 rfl (lv_room (Nat.le_of_ble_eq_true rfl)) dX10_claim_30 ⟨Nat.le_refl _, Nat.le_refl _⟩) hP hD hS hA [0, 2] [1, 3] rfl rfl rfl (by decide) (fun r30 u H locs h hP hD hS => ?_)
      obtain ⟨g_refusals_30, rfl⟩ : ∃ z, z = u := ⟨_, rfl⟩
      try dsimp only at h
      have hP : va_P G.1 vwCl [ceX1 a_strife s_strife_hits s_strife_leads s_strife_defeats s_strife_defeaters, ceX3 a_now s_now_size s_now_heard s_now_mode s_now_cast s_now_figures s_now_voices s_now_attacks s_now_supports, ceX10 h0 a_now a_kept a_reader a_numbers a_strife a_settled a_selection a_dispute a_trials a_refusals s_isKept, caI G a_refusals 7 g_refusals_30] H := hP
      have hD : va_D A [ceX1 a_strife s_strife_hits s_strife_leads s_strife_defeats s_strife_defeaters, ceX3 a_now s_now_size s_now_heard s_now_mode s_now_cast s_now_figures s_now_voices s_now_attacks s_now_supports, ceX10 h0 a_now a_kept a_reader a_numbers a_strife a_settled a_selection a_dispute a_trials a_refusals s_isKept, caI G a_refusals 7 g_refusals_30] := hD
      exact W.iret (v := r30) hx hb hr (fun t ht hW => ⟨⟨_, ⟨s_strife_hits, s_strife_leads, s_strife_defeats, s_strife_defeaters, g_refusals_30⟩, rfl, h, ⟨by rw [ht]; exact (hP.sub [2, 1, 0, 3] rfl), (hD.sub [2, 1, 0, 3] (by decide) rfl)⟩⟩, hS.F ht⟩) hS.2.2 dX10_claim_33
    · replace h := h.2 c
      refine lv_iload_n hx hb dX10_claim_21 rfl (lv_at hl 2 rfl) ?_
      refine lv_bipush (v := nI 9) hx hb dX10_claim_22 kb_9 ?_
      refine lv_icmp_le (tgt := 34) hx hb dX10_claim_24 (by decide) (fun c => ?_) (fun c => ?_)
      · replace h := h.1 c
        refine lv_aload_n hx hb dX10_claim_34 rfl (lv_at hl 0 rfl) ?_
        refine va_get (D := G.1) (ci := 8) (v := .ref a_strife) (C := RX10) (T := TX10) (N := 11) hx hb hts ki_X10 hown hK.1 hP 0 rfl rfl 4 (by decide) kf1 (fun _ h9 => h9) rfl dX10_claim_35 ?_
        refine lv_aload_n hx hb dX10_claim_38 rfl (lv_at hl 0 rfl) ?_
        refine va_get (D := G.1) (ci := 8) (v := .ref a_now) (C := RX10) (T := TX10) (N := 11) hx hb hts ki_X10 hown hK.1 hP 0 rfl rfl 0 (by decide) kf0 (fun _ h9 => h9) rfl dX10_claim_39 ?_
        refine hc_kv (va_runV (As := [.ref a_now]) (rest := []) ⟨hx, hb, hml, hown, hts⟩ (c_X1_reckon l G a_strife a_now H.size s_strife_hits s_strife_leads s_strife_defeats s_strife_defeaters s_now_size s_now_heard s_now_mode s_now_cast s_now_figures s_now_voices s_now_attacks s_now_supports _ h) (cwV 1 hts gX10_claim_X1_reckon rfl rfl rfl (by decide +kernel) ⟨Nat.le_of_ble_eq_true rfl, Nat.le_of_ble_eq_true rfl⟩) (hc_pV hK hP hD [1, 3] rfl rfl (ci := 0) 1 rfl rfl) rfl rfl hl.1 rfl (lv_room (Nat.le_of_ble_eq_true rfl)) dX10_claim_42 ⟨Nat.le_refl _, Nat.le_refl _⟩) hP hD hS hA [1, 3] [0, 2] rfl rfl rfl (by decide) (fun u H locs h hP hD hS => ?_)
        obtain ⟨s_strife_hits_42, s_strife_leads_42, s_strife_defeats_42, s_strife_defeaters_42⟩ := u
        try dsimp only at h
        have hP : va_P G.1 vwCl [ceX10 h0 a_now a_kept a_reader a_numbers a_strife a_settled a_selection a_dispute a_trials a_refusals s_isKept, caI G a_refusals 7 g_refusals, ceX1 a_strife s_strife_hits_42 s_strife_leads_42 s_strife_defeats_42 s_strife_defeaters_42, ceX3 a_now s_now_size s_now_heard s_now_mode s_now_cast s_now_figures s_now_voices s_now_attacks s_now_supports] H := hP
        have hD : va_D A [ceX10 h0 a_now a_kept a_reader a_numbers a_strife a_settled a_selection a_dispute a_trials a_refusals s_isKept, caI G a_refusals 7 g_refusals, ceX1 a_strife s_strife_hits_42 s_strife_leads_42 s_strife_defeats_42 s_strife_defeaters_42, ceX3 a_now s_now_size s_now_heard s_now_mode s_now_cast s_now_figures s_now_voices s_now_attacks s_now_supports] := hD
        refine lv_iload_n hx hb dX10_claim_45 rfl (lv_at hl 2 rfl) ?_
        rcases hc_sw8 x2 with c | c | c | c | c | c | c | c | c | c
        · refine lv_tableOut (tgt := 200) hx hb dX10_claim_46 c (by decide) ?_
          replace h := h.1 c
          refine lv_aload_n hx hb dX10_claim_200 rfl (lv_at hl 0 rfl) ?_
          refine va_get (D := G.1) (ci := 8) (v := .ref a_strife) (C := RX10) (T := TX10) (N := 11) hx hb hts ki_X10 hown hK.1 hP 0 rfl rfl 4 (by decide) kf1 (fun _ h9 => h9) rfl dX10_claim_201 ?_
          refine va_get (D := G.1) (ci := 0) (v := .long s_strife_defeaters_42) (C := RX1) (T := TX1) (N := 4) hx hb hts ki_X1 hown hK.1 hP 2 rfl rfl 3 (by decide) kf2 (fun _ h9 => h9) rfl dX10_claim_204 ?_
          refine lv_iload_n hx hb dX10_claim_207 rfl (lv_at hl 1 rfl) ?_
          refine hc_ki (va_runS (As := [.long s_strife_defeaters_42, .int x1]) (rest := []) ⟨hx, hb, hml, hown, hts⟩ (c_X0_get l G H.size s_strife_defeaters_42 x1 _ h) (va_cwS 2 hts gX10_claim_X0_get rfl rfl rfl (by decide +kernel) ⟨Nat.le_of_ble_eq_true rfl, Nat.le_of_ble_eq_true rfl⟩) (hc_pS hK hP hD [] rfl rfl) rfl rfl hl.1 rfl (lv_room (Nat.le_of_ble_eq_true rfl)) dX10_claim_208 ⟨Nat.le_refl _, Nat.le_refl _⟩) hP hD hS hA [] [0, 1, 2, 3] rfl rfl rfl (by decide) (fun r208 u H locs h hP hD hS => ?_)
          try dsimp only at h
          have hP : va_P G.1 vwCl [ceX10 h0 a_now a_kept a_reader a_numbers a_strife a_settled a_selection a_dispute a_trials a_refusals s_isKept, caI G a_refusals 7 g_refusals, ceX1 a_strife s_strife_hits_42 s_strife_leads_42 s_strife_defeats_42 s_strife_defeaters_42, ceX3 a_now s_now_size s_now_heard s_now_mode s_now_cast s_now_figures s_now_voices s_now_attacks s_now_supports] H := hP
          have hD : va_D A [ceX10 h0 a_now a_kept a_reader a_numbers a_strife a_settled a_selection a_dispute a_trials a_refusals s_isKept, caI G a_refusals 7 g_refusals, ceX1 a_strife s_strife_hits_42 s_strife_leads_42 s_strife_defeats_42 s_strife_defeaters_42, ceX3 a_now s_now_size s_now_heard s_now_mode s_now_cast s_now_figures s_now_voices s_now_attacks s_now_supports] := hD
          exact W.iret (v := r208) hx hb hr (fun t ht hW => ⟨⟨_, ⟨s_strife_hits_42, s_strife_leads_42, s_strife_defeats_42, s_strife_defeaters_42, g_refusals⟩, rfl, h, ⟨by rw [ht]; exact (hP.sub [0, 3, 2, 1] rfl), (hD.sub [0, 3, 2, 1] (by decide) rfl)⟩⟩, hS.F ht⟩) hS.2.2 dX10_claim_211
        · refine lv_tableIn (tgt := 96) (off := 50) hx hb dX10_claim_46 (by rw [c]; decide) (by rw [c]; decide) (by rw [c]; decide +kernel) (by decide) ?_
          replace h := h.2.1 c
          refine lv_aload_n hx hb dX10_claim_96 rfl (lv_at hl 0 rfl) ?_
          refine va_get (D := G.1) (ci := 8) (v := .ref a_now) (C := RX10) (T := TX10) (N := 11) hx hb hts ki_X10 hown hK.1 hP 0 rfl rfl 0 (by decide) kf0 (fun _ h9 => h9) rfl dX10_claim_97 ?_
          refine lv_iload_n hx hb dX10_claim_100 rfl (lv_at hl 1 rfl) ?_
          refine hc_ki (va_runV (As := [.int x1]) (rest := []) ⟨hx, hb, hml, hown, hts⟩ (c_X3_kindOf l G a_now H.size s_now_size s_now_heard s_now_mode s_now_cast s_now_figures s_now_voices s_now_attacks s_now_supports x1 _ h) (cwV 1 hts gX10_claim_X3_kindOf rfl rfl rfl (by decide +kernel) ⟨Nat.le_of_ble_eq_true rfl, Nat.le_of_ble_eq_true rfl⟩) (hc_pV hK hP hD [3] rfl rfl (ci := 2) 3 rfl rfl) rfl rfl hl.1 rfl (lv_room (Nat.le_of_ble_eq_true rfl)) dX10_claim_101 ⟨Nat.le_refl _, Nat.le_refl _⟩) hP hD hS hA [3] [0, 1, 2] rfl rfl rfl (by decide) (fun r101 u H locs h hP hD hS => ?_)
          try dsimp only at h
          have hP : va_P G.1 vwCl [ceX10 h0 a_now a_kept a_reader a_numbers a_strife a_settled a_selection a_dispute a_trials a_refusals s_isKept, caI G a_refusals 7 g_refusals, ceX1 a_strife s_strife_hits_42 s_strife_leads_42 s_strife_defeats_42 s_strife_defeaters_42, ceX3 a_now s_now_size s_now_heard s_now_mode s_now_cast s_now_figures s_now_voices s_now_attacks s_now_supports] H := hP
          have hD : va_D A [ceX10 h0 a_now a_kept a_reader a_numbers a_strife a_settled a_selection a_dispute a_trials a_refusals s_isKept, caI G a_refusals 7 g_refusals, ceX1 a_strife s_strife_hits_42 s_strife_leads_42 s_strife_defeats_42 s_strife_defeaters_42, ceX3 a_now s_now_size s_now_heard s_now_mode s_now_cast s_now_figures s_now_voices s_now_attacks s_now_supports] := hD
          exact W.iret (v := r101) hx hb hr (fun t ht hW => ⟨⟨_, ⟨s_strife_hits_42, s_strife_leads_42, s_strife_defeats_42, s_strife_defeaters_42, g_refusals⟩, rfl, h, ⟨by rw [ht]; exact (hP.sub [0, 3, 2, 1] rfl), (hD.sub [0, 3, 2, 1] (by decide) rfl)⟩⟩, hS.F ht⟩) hS.2.2 dX10_claim_104
        · refine lv_tableIn (tgt := 105) (off := 59) hx hb dX10_claim_46 (by rw [c]; decide) (by rw [c]; decide) (by rw [c]; decide +kernel) (by decide) ?_
          replace h := h.2.2.1 c
          refine lv_aload_n hx hb dX10_claim_105 rfl (lv_at hl 0 rfl) ?_
          refine va_get (D := G.1) (ci := 8) (v := .ref a_now) (C := RX10) (T := TX10) (N := 11) hx hb hts ki_X10 hown hK.1 hP 0 rfl rfl 0 (by decide) kf0 (fun _ h9 => h9) rfl dX10_claim_106 ?_
          refine lv_iload_n hx hb dX10_claim_109 rfl (lv_at hl 1 rfl) ?_
          refine hc_ki (va_runV (As := [.int x1]) (rest := []) ⟨hx, hb, hml, hown, hts⟩ (c_X3_figureOf l G a_now H.size s_now_size s_now_heard s_now_mode s_now_cast s_now_figures s_now_voices s_now_attacks s_now_supports x1 _ h) (cwV 1 hts gX10_claim_X3_figureOf rfl rfl rfl (by decide +kernel) ⟨Nat.le_of_ble_eq_true rfl, Nat.le_of_ble_eq_true rfl⟩) (hc_pV hK hP hD [3] rfl rfl (ci := 2) 3 rfl rfl) rfl rfl hl.1 rfl (lv_room (Nat.le_of_ble_eq_true rfl)) dX10_claim_110 ⟨Nat.le_refl _, Nat.le_refl _⟩) hP hD hS hA [3] [0, 1, 2] rfl rfl rfl (by decide) (fun r110 u H locs h hP hD hS => ?_)
          try dsimp only at h
          have hP : va_P G.1 vwCl [ceX10 h0 a_now a_kept a_reader a_numbers a_strife a_settled a_selection a_dispute a_trials a_refusals s_isKept, caI G a_refusals 7 g_refusals, ceX1 a_strife s_strife_hits_42 s_strife_leads_42 s_strife_defeats_42 s_strife_defeaters_42, ceX3 a_now s_now_size s_now_heard s_now_mode s_now_cast s_now_figures s_now_voices s_now_attacks s_now_supports] H := hP
          have hD : va_D A [ceX10 h0 a_now a_kept a_reader a_numbers a_strife a_settled a_selection a_dispute a_trials a_refusals s_isKept, caI G a_refusals 7 g_refusals, ceX1 a_strife s_strife_hits_42 s_strife_leads_42 s_strife_defeats_42 s_strife_defeaters_42, ceX3 a_now s_now_size s_now_heard s_now_mode s_now_cast s_now_figures s_now_voices s_now_attacks s_now_supports] := hD
          exact W.iret (v := r110) hx hb hr (fun t ht hW => ⟨⟨_, ⟨s_strife_hits_42, s_strife_leads_42, s_strife_defeats_42, s_strife_defeaters_42, g_refusals⟩, rfl, h, ⟨by rw [ht]; exact (hP.sub [0, 3, 2, 1] rfl), (hD.sub [0, 3, 2, 1] (by decide) rfl)⟩⟩, hS.F ht⟩) hS.2.2 dX10_claim_113
        · refine lv_tableIn (tgt := 114) (off := 68) hx hb dX10_claim_46 (by rw [c]; decide) (by rw [c]; decide) (by rw [c]; decide +kernel) (by decide) ?_
          replace h := h.2.2.2.1 c
          refine lv_aload_n hx hb dX10_claim_114 rfl (lv_at hl 0 rfl) ?_
          refine va_get (D := G.1) (ci := 8) (v := .ref a_now) (C := RX10) (T := TX10) (N := 11) hx hb hts ki_X10 hown hK.1 hP 0 rfl rfl 0 (by decide) kf0 (fun _ h9 => h9) rfl dX10_claim_115 ?_
          refine lv_iload_n hx hb dX10_claim_118 rfl (lv_at hl 1 rfl) ?_
          refine hc_ki (va_runV (As := [.int x1]) (rest := []) ⟨hx, hb, hml, hown, hts⟩ (c_X3_speakerOf l G a_now H.size s_now_size s_now_heard s_now_mode s_now_cast s_now_figures s_now_voices s_now_attacks s_now_supports x1 _ h) (cwV 1 hts gX10_claim_X3_speakerOf rfl rfl rfl (by decide +kernel) ⟨Nat.le_of_ble_eq_true rfl, Nat.le_of_ble_eq_true rfl⟩) (hc_pV hK hP hD [3] rfl rfl (ci := 2) 3 rfl rfl) rfl rfl hl.1 rfl (lv_room (Nat.le_of_ble_eq_true rfl)) dX10_claim_119 ⟨Nat.le_refl _, Nat.le_refl _⟩) hP hD hS hA [3] [0, 1, 2] rfl rfl rfl (by decide) (fun r119 u H locs h hP hD hS => ?_)
          try dsimp only at h
          have hP : va_P G.1 vwCl [ceX10 h0 a_now a_kept a_reader a_numbers a_strife a_settled a_selection a_dispute a_trials a_refusals s_isKept, caI G a_refusals 7 g_refusals, ceX1 a_strife s_strife_hits_42 s_strife_leads_42 s_strife_defeats_42 s_strife_defeaters_42, ceX3 a_now s_now_size s_now_heard s_now_mode s_now_cast s_now_figures s_now_voices s_now_attacks s_now_supports] H := hP
          have hD : va_D A [ceX10 h0 a_now a_kept a_reader a_numbers a_strife a_settled a_selection a_dispute a_trials a_refusals s_isKept, caI G a_refusals 7 g_refusals, ceX1 a_strife s_strife_hits_42 s_strife_leads_42 s_strife_defeats_42 s_strife_defeaters_42, ceX3 a_now s_now_size s_now_heard s_now_mode s_now_cast s_now_figures s_now_voices s_now_attacks s_now_supports] := hD
          exact W.iret (v := r119) hx hb hr (fun t ht hW => ⟨⟨_, ⟨s_strife_hits_42, s_strife_leads_42, s_strife_defeats_42, s_strife_defeaters_42, g_refusals⟩, rfl, h, ⟨by rw [ht]; exact (hP.sub [0, 3, 2, 1] rfl), (hD.sub [0, 3, 2, 1] (by decide) rfl)⟩⟩, hS.F ht⟩) hS.2.2 dX10_claim_122
        · refine lv_tableIn (tgt := 123) (off := 77) hx hb dX10_claim_46 (by rw [c]; decide) (by rw [c]; decide) (by rw [c]; decide +kernel) (by decide) ?_
          replace h := h.2.2.2.2.1 c
          refine lv_aload_n hx hb dX10_claim_123 rfl (lv_at hl 0 rfl) ?_
          refine va_get (D := G.1) (ci := 8) (v := .ref a_now) (C := RX10) (T := TX10) (N := 11) hx hb hts ki_X10 hown hK.1 hP 0 rfl rfl 0 (by decide) kf0 (fun _ h9 => h9) rfl dX10_claim_124 ?_
          refine lv_iload_n hx hb dX10_claim_127 rfl (lv_at hl 1 rfl) ?_
          refine hc_ki (va_runV (As := [.int x1]) (rest := []) ⟨hx, hb, hml, hown, hts⟩ (c_X3_hears l G a_now H.size s_now_size s_now_heard s_now_mode s_now_cast s_now_figures s_now_voices s_now_attacks s_now_supports x1 _ h) (cwV 1 hts gX10_claim_X3_hears rfl rfl rfl (by decide +kernel) ⟨Nat.le_of_ble_eq_true rfl, Nat.le_of_ble_eq_true rfl⟩) (hc_pV hK hP hD [3] rfl rfl (ci := 2) 3 rfl rfl) rfl rfl hl.1 rfl (lv_room (Nat.le_of_ble_eq_true rfl)) dX10_claim_128 ⟨Nat.le_refl _, Nat.le_refl _⟩) hP hD hS hA [3] [0, 1, 2] rfl rfl rfl (by decide) (fun r128 u H locs h hP hD hS => ?_)
          try dsimp only at h
          have hP : va_P G.1 vwCl [ceX10 h0 a_now a_kept a_reader a_numbers a_strife a_settled a_selection a_dispute a_trials a_refusals s_isKept, caI G a_refusals 7 g_refusals, ceX1 a_strife s_strife_hits_42 s_strife_leads_42 s_strife_defeats_42 s_strife_defeaters_42, ceX3 a_now s_now_size s_now_heard s_now_mode s_now_cast s_now_figures s_now_voices s_now_attacks s_now_supports] H := hP
          have hD : va_D A [ceX10 h0 a_now a_kept a_reader a_numbers a_strife a_settled a_selection a_dispute a_trials a_refusals s_isKept, caI G a_refusals 7 g_refusals, ceX1 a_strife s_strife_hits_42 s_strife_leads_42 s_strife_defeats_42 s_strife_defeaters_42, ceX3 a_now s_now_size s_now_heard s_now_mode s_now_cast s_now_figures s_now_voices s_now_attacks s_now_supports] := hD
          refine lv_if_eq (tgt := 138) hx hb dX10_claim_131 (by decide) (fun c => ?_) (fun c => ?_)
          · replace h := h.1 c
            refine lv_iconst (v := nI 0) hx hb dX10_claim_138 kc_0 ?_
            exact W.iret (v := nI 0) hx hb hr (fun t ht hW => ⟨⟨_, ⟨s_strife_hits_42, s_strife_leads_42, s_strife_defeats_42, s_strife_defeaters_42, g_refusals⟩, rfl, h, ⟨by rw [ht]; exact (hP.sub [0, 3, 2, 1] rfl), (hD.sub [0, 3, 2, 1] (by decide) rfl)⟩⟩, hS.F ht⟩) hS.2.2 dX10_claim_139
          · replace h := h.2 c
            refine lv_iconst (v := nI 1) hx hb dX10_claim_134 kc_1 ?_
            refine lv_goto (tgt := 139) hx hb dX10_claim_135 (by decide) ?_
            exact W.iret (v := nI 1) hx hb hr (fun t ht hW => ⟨⟨_, ⟨s_strife_hits_42, s_strife_leads_42, s_strife_defeats_42, s_strife_defeaters_42, g_refusals⟩, rfl, h, ⟨by rw [ht]; exact (hP.sub [0, 3, 2, 1] rfl), (hD.sub [0, 3, 2, 1] (by decide) rfl)⟩⟩, hS.F ht⟩) hS.2.2 dX10_claim_139
        · refine lv_tableIn (tgt := 140) (off := 94) hx hb dX10_claim_46 (by rw [c]; decide) (by rw [c]; decide) (by rw [c]; decide +kernel) (by decide) ?_
          replace h := h.2.2.2.2.2.1 c
          refine lv_aload_n hx hb dX10_claim_140 rfl (lv_at hl 0 rfl) ?_
          refine va_get (D := G.1) (ci := 8) (v := .ref a_now) (C := RX10) (T := TX10) (N := 11) hx hb hts ki_X10 hown hK.1 hP 0 rfl rfl 0 (by decide) kf0 (fun _ h9 => h9) rfl dX10_claim_141 ?_
          refine va_get (D := G.1) (ci := 2) (v := .long s_now_attacks) (C := RX3) (T := TX3) (N := 8) hx hb hts ki_X3 hown hK.1 hP 3 rfl rfl 6 (by decide) kf3 (fun _ h9 => h9) rfl dX10_claim_144 ?_
          refine lv_iload_n hx hb dX10_claim_147 rfl (lv_at hl 1 rfl) ?_
          refine hc_ki (va_runS (As := [.long s_now_attacks, .int x1]) (rest := []) ⟨hx, hb, hml, hown, hts⟩ (c_X0_get l G H.size s_now_attacks x1 _ h) (va_cwS 2 hts gX10_claim_X0_get rfl rfl rfl (by decide +kernel) ⟨Nat.le_of_ble_eq_true rfl, Nat.le_of_ble_eq_true rfl⟩) (hc_pS hK hP hD [] rfl rfl) rfl rfl hl.1 rfl (lv_room (Nat.le_of_ble_eq_true rfl)) dX10_claim_148 ⟨Nat.le_refl _, Nat.le_refl _⟩) hP hD hS hA [] [0, 1, 2, 3] rfl rfl rfl (by decide) (fun r148 u H locs h hP hD hS => ?_)
          try dsimp only at h
          have hP : va_P G.1 vwCl [ceX10 h0 a_now a_kept a_reader a_numbers a_strife a_settled a_selection a_dispute a_trials a_refusals s_isKept, caI G a_refusals 7 g_refusals, ceX1 a_strife s_strife_hits_42 s_strife_leads_42 s_strife_defeats_42 s_strife_defeaters_42, ceX3 a_now s_now_size s_now_heard s_now_mode s_now_cast s_now_figures s_now_voices s_now_attacks s_now_supports] H := hP
          have hD : va_D A [ceX10 h0 a_now a_kept a_reader a_numbers a_strife a_settled a_selection a_dispute a_trials a_refusals s_isKept, caI G a_refusals 7 g_refusals, ceX1 a_strife s_strife_hits_42 s_strife_leads_42 s_strife_defeats_42 s_strife_defeaters_42, ceX3 a_now s_now_size s_now_heard s_now_mode s_now_cast s_now_figures s_now_voices s_now_attacks s_now_supports] := hD
          exact W.iret (v := r148) hx hb hr (fun t ht hW => ⟨⟨_, ⟨s_strife_hits_42, s_strife_leads_42, s_strife_defeats_42, s_strife_defeaters_42, g_refusals⟩, rfl, h, ⟨by rw [ht]; exact (hP.sub [0, 3, 2, 1] rfl), (hD.sub [0, 3, 2, 1] (by decide) rfl)⟩⟩, hS.F ht⟩) hS.2.2 dX10_claim_151
        · refine lv_tableIn (tgt := 152) (off := 106) hx hb dX10_claim_46 (by rw [c]; decide) (by rw [c]; decide) (by rw [c]; decide +kernel) (by decide) ?_
          replace h := h.2.2.2.2.2.2.1 c
          refine lv_aload_n hx hb dX10_claim_152 rfl (lv_at hl 0 rfl) ?_
          refine va_get (D := G.1) (ci := 8) (v := .ref a_now) (C := RX10) (T := TX10) (N := 11) hx hb hts ki_X10 hown hK.1 hP 0 rfl rfl 0 (by decide) kf0 (fun _ h9 => h9) rfl dX10_claim_153 ?_
          refine va_get (D := G.1) (ci := 2) (v := .long s_now_supports) (C := RX3) (T := TX3) (N := 8) hx hb hts ki_X3 hown hK.1 hP 3 rfl rfl 7 (by decide) kf4 (fun _ h9 => h9) rfl dX10_claim_156 ?_
          refine lv_iload_n hx hb dX10_claim_159 rfl (lv_at hl 1 rfl) ?_
          refine hc_ki (va_runS (As := [.long s_now_supports, .int x1]) (rest := []) ⟨hx, hb, hml, hown, hts⟩ (c_X0_get l G H.size s_now_supports x1 _ h) (va_cwS 2 hts gX10_claim_X0_get rfl rfl rfl (by decide +kernel) ⟨Nat.le_of_ble_eq_true rfl, Nat.le_of_ble_eq_true rfl⟩) (hc_pS hK hP hD [] rfl rfl) rfl rfl hl.1 rfl (lv_room (Nat.le_of_ble_eq_true rfl)) dX10_claim_160 ⟨Nat.le_refl _, Nat.le_refl _⟩) hP hD hS hA [] [0, 1, 2, 3] rfl rfl rfl (by decide) (fun r160 u H locs h hP hD hS => ?_)
          try dsimp only at h
          have hP : va_P G.1 vwCl [ceX10 h0 a_now a_kept a_reader a_numbers a_strife a_settled a_selection a_dispute a_trials a_refusals s_isKept, caI G a_refusals 7 g_refusals, ceX1 a_strife s_strife_hits_42 s_strife_leads_42 s_strife_defeats_42 s_strife_defeaters_42, ceX3 a_now s_now_size s_now_heard s_now_mode s_now_cast s_now_figures s_now_voices s_now_attacks s_now_supports] H := hP
          have hD : va_D A [ceX10 h0 a_now a_kept a_reader a_numbers a_strife a_settled a_selection a_dispute a_trials a_refusals s_isKept, caI G a_refusals 7 g_refusals, ceX1 a_strife s_strife_hits_42 s_strife_leads_42 s_strife_defeats_42 s_strife_defeaters_42, ceX3 a_now s_now_size s_now_heard s_now_mode s_now_cast s_now_figures s_now_voices s_now_attacks s_now_supports] := hD
          exact W.iret (v := r160) hx hb hr (fun t ht hW => ⟨⟨_, ⟨s_strife_hits_42, s_strife_leads_42, s_strife_defeats_42, s_strife_defeaters_42, g_refusals⟩, rfl, h, ⟨by rw [ht]; exact (hP.sub [0, 3, 2, 1] rfl), (hD.sub [0, 3, 2, 1] (by decide) rfl)⟩⟩, hS.F ht⟩) hS.2.2 dX10_claim_163
        · refine lv_tableIn (tgt := 164) (off := 118) hx hb dX10_claim_46 (by rw [c]; decide) (by rw [c]; decide) (by rw [c]; decide +kernel) (by decide) ?_
          replace h := h.2.2.2.2.2.2.2.1 c
          refine lv_aload_n hx hb dX10_claim_164 rfl (lv_at hl 0 rfl) ?_
          refine va_get (D := G.1) (ci := 8) (v := .ref a_strife) (C := RX10) (T := TX10) (N := 11) hx hb hts ki_X10 hown hK.1 hP 0 rfl rfl 4 (by decide) kf1 (fun _ h9 => h9) rfl dX10_claim_165 ?_
          refine va_get (D := G.1) (ci := 0) (v := .long s_strife_hits_42) (C := RX1) (T := TX1) (N := 4) hx hb hts ki_X1 hown hK.1 hP 2 rfl rfl 0 (by decide) kf5 (fun _ h9 => h9) rfl dX10_claim_168 ?_
          refine lv_iload_n hx hb dX10_claim_171 rfl (lv_at hl 1 rfl) ?_
          refine hc_ki (va_runS (As := [.long s_strife_hits_42, .int x1]) (rest := []) ⟨hx, hb, hml, hown, hts⟩ (c_X0_get l G H.size s_strife_hits_42 x1 _ h) (va_cwS 2 hts gX10_claim_X0_get rfl rfl rfl (by decide +kernel) ⟨Nat.le_of_ble_eq_true rfl, Nat.le_of_ble_eq_true rfl⟩) (hc_pS hK hP hD [] rfl rfl) rfl rfl hl.1 rfl (lv_room (Nat.le_of_ble_eq_true rfl)) dX10_claim_172 ⟨Nat.le_refl _, Nat.le_refl _⟩) hP hD hS hA [] [0, 1, 2, 3] rfl rfl rfl (by decide) (fun r172 u H locs h hP hD hS => ?_)
          try dsimp only at h
          have hP : va_P G.1 vwCl [ceX10 h0 a_now a_kept a_reader a_numbers a_strife a_settled a_selection a_dispute a_trials a_refusals s_isKept, caI G a_refusals 7 g_refusals, ceX1 a_strife s_strife_hits_42 s_strife_leads_42 s_strife_defeats_42 s_strife_defeaters_42, ceX3 a_now s_now_size s_now_heard s_now_mode s_now_cast s_now_figures s_now_voices s_now_attacks s_now_supports] H := hP
          have hD : va_D A [ceX10 h0 a_now a_kept a_reader a_numbers a_strife a_settled a_selection a_dispute a_trials a_refusals s_isKept, caI G a_refusals 7 g_refusals, ceX1 a_strife s_strife_hits_42 s_strife_leads_42 s_strife_defeats_42 s_strife_defeaters_42, ceX3 a_now s_now_size s_now_heard s_now_mode s_now_cast s_now_figures s_now_voices s_now_attacks s_now_supports] := hD
          exact W.iret (v := r172) hx hb hr (fun t ht hW => ⟨⟨_, ⟨s_strife_hits_42, s_strife_leads_42, s_strife_defeats_42, s_strife_defeaters_42, g_refusals⟩, rfl, h, ⟨by rw [ht]; exact (hP.sub [0, 3, 2, 1] rfl), (hD.sub [0, 3, 2, 1] (by decide) rfl)⟩⟩, hS.F ht⟩) hS.2.2 dX10_claim_175
        · refine lv_tableIn (tgt := 176) (off := 130) hx hb dX10_claim_46 (by rw [c]; decide) (by rw [c]; decide) (by rw [c]; decide +kernel) (by decide) ?_
          replace h := h.2.2.2.2.2.2.2.2.1 c
          refine lv_aload_n hx hb dX10_claim_176 rfl (lv_at hl 0 rfl) ?_
          refine va_get (D := G.1) (ci := 8) (v := .ref a_strife) (C := RX10) (T := TX10) (N := 11) hx hb hts ki_X10 hown hK.1 hP 0 rfl rfl 4 (by decide) kf1 (fun _ h9 => h9) rfl dX10_claim_177 ?_
          refine va_get (D := G.1) (ci := 0) (v := .long s_strife_leads_42) (C := RX1) (T := TX1) (N := 4) hx hb hts ki_X1 hown hK.1 hP 2 rfl rfl 1 (by decide) kf6 (fun _ h9 => h9) rfl dX10_claim_180 ?_
          refine lv_iload_n hx hb dX10_claim_183 rfl (lv_at hl 1 rfl) ?_
          refine hc_ki (va_runS (As := [.long s_strife_leads_42, .int x1]) (rest := []) ⟨hx, hb, hml, hown, hts⟩ (c_X0_get l G H.size s_strife_leads_42 x1 _ h) (va_cwS 2 hts gX10_claim_X0_get rfl rfl rfl (by decide +kernel) ⟨Nat.le_of_ble_eq_true rfl, Nat.le_of_ble_eq_true rfl⟩) (hc_pS hK hP hD [] rfl rfl) rfl rfl hl.1 rfl (lv_room (Nat.le_of_ble_eq_true rfl)) dX10_claim_184 ⟨Nat.le_refl _, Nat.le_refl _⟩) hP hD hS hA [] [0, 1, 2, 3] rfl rfl rfl (by decide) (fun r184 u H locs h hP hD hS => ?_)
          try dsimp only at h
          have hP : va_P G.1 vwCl [ceX10 h0 a_now a_kept a_reader a_numbers a_strife a_settled a_selection a_dispute a_trials a_refusals s_isKept, caI G a_refusals 7 g_refusals, ceX1 a_strife s_strife_hits_42 s_strife_leads_42 s_strife_defeats_42 s_strife_defeaters_42, ceX3 a_now s_now_size s_now_heard s_now_mode s_now_cast s_now_figures s_now_voices s_now_attacks s_now_supports] H := hP
          have hD : va_D A [ceX10 h0 a_now a_kept a_reader a_numbers a_strife a_settled a_selection a_dispute a_trials a_refusals s_isKept, caI G a_refusals 7 g_refusals, ceX1 a_strife s_strife_hits_42 s_strife_leads_42 s_strife_defeats_42 s_strife_defeaters_42, ceX3 a_now s_now_size s_now_heard s_now_mode s_now_cast s_now_figures s_now_voices s_now_attacks s_now_supports] := hD
          exact W.iret (v := r184) hx hb hr (fun t ht hW => ⟨⟨_, ⟨s_strife_hits_42, s_strife_leads_42, s_strife_defeats_42, s_strife_defeaters_42, g_refusals⟩, rfl, h, ⟨by rw [ht]; exact (hP.sub [0, 3, 2, 1] rfl), (hD.sub [0, 3, 2, 1] (by decide) rfl)⟩⟩, hS.F ht⟩) hS.2.2 dX10_claim_187
        · refine lv_tableIn (tgt := 188) (off := 142) hx hb dX10_claim_46 (by rw [c]; decide) (by rw [c]; decide) (by rw [c]; decide +kernel) (by decide) ?_
          replace h := h.2.2.2.2.2.2.2.2.2 c
          refine lv_aload_n hx hb dX10_claim_188 rfl (lv_at hl 0 rfl) ?_
          refine va_get (D := G.1) (ci := 8) (v := .ref a_strife) (C := RX10) (T := TX10) (N := 11) hx hb hts ki_X10 hown hK.1 hP 0 rfl rfl 4 (by decide) kf1 (fun _ h9 => h9) rfl dX10_claim_189 ?_
          refine va_get (D := G.1) (ci := 0) (v := .long s_strife_defeats_42) (C := RX1) (T := TX1) (N := 4) hx hb hts ki_X1 hown hK.1 hP 2 rfl rfl 2 (by decide) kf7 (fun _ h9 => h9) rfl dX10_claim_192 ?_
          refine lv_iload_n hx hb dX10_claim_195 rfl (lv_at hl 1 rfl) ?_
          refine hc_ki (va_runS (As := [.long s_strife_defeats_42, .int x1]) (rest := []) ⟨hx, hb, hml, hown, hts⟩ (c_X0_get l G H.size s_strife_defeats_42 x1 _ h) (va_cwS 2 hts gX10_claim_X0_get rfl rfl rfl (by decide +kernel) ⟨Nat.le_of_ble_eq_true rfl, Nat.le_of_ble_eq_true rfl⟩) (hc_pS hK hP hD [] rfl rfl) rfl rfl hl.1 rfl (lv_room (Nat.le_of_ble_eq_true rfl)) dX10_claim_196 ⟨Nat.le_refl _, Nat.le_refl _⟩) hP hD hS hA [] [0, 1, 2, 3] rfl rfl rfl (by decide) (fun r196 u H locs h hP hD hS => ?_)
          try dsimp only at h
          have hP : va_P G.1 vwCl [ceX10 h0 a_now a_kept a_reader a_numbers a_strife a_settled a_selection a_dispute a_trials a_refusals s_isKept, caI G a_refusals 7 g_refusals, ceX1 a_strife s_strife_hits_42 s_strife_leads_42 s_strife_defeats_42 s_strife_defeaters_42, ceX3 a_now s_now_size s_now_heard s_now_mode s_now_cast s_now_figures s_now_voices s_now_attacks s_now_supports] H := hP
          have hD : va_D A [ceX10 h0 a_now a_kept a_reader a_numbers a_strife a_settled a_selection a_dispute a_trials a_refusals s_isKept, caI G a_refusals 7 g_refusals, ceX1 a_strife s_strife_hits_42 s_strife_leads_42 s_strife_defeats_42 s_strife_defeaters_42, ceX3 a_now s_now_size s_now_heard s_now_mode s_now_cast s_now_figures s_now_voices s_now_attacks s_now_supports] := hD
          exact W.iret (v := r196) hx hb hr (fun t ht hW => ⟨⟨_, ⟨s_strife_hits_42, s_strife_leads_42, s_strife_defeats_42, s_strife_defeaters_42, g_refusals⟩, rfl, h, ⟨by rw [ht]; exact (hP.sub [0, 3, 2, 1] rfl), (hD.sub [0, 3, 2, 1] (by decide) rfl)⟩⟩, hS.F ht⟩) hS.2.2 dX10_claim_199
      · replace h := h.2 c
        refine lv_aload_n hx hb dX10_claim_27 rfl (lv_at hl 0 rfl) ?_
        refine lv_bipush (v := (-2 : Int32)) hx hb dX10_claim_28 kb_m2 ?_
        refine hc_ki (va_runV (As := [.int ((-2 : Int32))]) (rest := []) ⟨hx, hb, hml, hown, hts⟩ (c_X10_refuse l G h0 a_now a_kept a_reader a_numbers a_strife a_settled a_selection a_dispute a_trials a_refusals H.size s_isKept g_refusals ((-2 : Int32)) _ h) (cwV 1 hts gX10_claim_X10_refuse rfl rfl rfl (by decide +kernel) ⟨Nat.le_of_ble_eq_true rfl, Nat.le_of_ble_eq_true rfl⟩) (hc_pV hK hP hD [0, 2] rfl rfl (ci := 8) 0 rfl rfl) rfl rfl hl.1 rfl (lv_room (Nat.le_of_ble_eq_true rfl)) dX10_claim_30 ⟨Nat.le_refl _, Nat.le_refl _⟩) hP hD hS hA [0, 2] [1, 3] rfl rfl rfl (by decide) (fun r30 u H locs h hP hD hS => ?_)
        obtain ⟨g_refusals_30, rfl⟩ : ∃ z, z = u := ⟨_, rfl⟩
        try dsimp only at h
        have hP : va_P G.1 vwCl [ceX1 a_strife s_strife_hits s_strife_leads s_strife_defeats s_strife_defeaters, ceX3 a_now s_now_size s_now_heard s_now_mode s_now_cast s_now_figures s_now_voices s_now_attacks s_now_supports, ceX10 h0 a_now a_kept a_reader a_numbers a_strife a_settled a_selection a_dispute a_trials a_refusals s_isKept, caI G a_refusals 7 g_refusals_30] H := hP
        have hD : va_D A [ceX1 a_strife s_strife_hits s_strife_leads s_strife_defeats s_strife_defeaters, ceX3 a_now s_now_size s_now_heard s_now_mode s_now_cast s_now_figures s_now_voices s_now_attacks s_now_supports, ceX10 h0 a_now a_kept a_reader a_numbers a_strife a_settled a_selection a_dispute a_trials a_refusals s_isKept, caI G a_refusals 7 g_refusals_30] := hD
        exact W.iret (v := r30) hx hb hr (fun t ht hW => ⟨⟨_, ⟨s_strife_hits, s_strife_leads, s_strife_defeats, s_strife_defeaters, g_refusals_30⟩, rfl, h, ⟨by rw [ht]; exact (hP.sub [2, 1, 0, 3] rfl), (hD.sub [2, 1, 0, 3] (by decide) rfl)⟩⟩, hS.F ht⟩) hS.2.2 dX10_claim_33
  · replace h := h.2 c
    refine lv_aload_n hx hb dX10_claim_11 rfl (lv_at hl 0 rfl) ?_
    refine lv_iconst (v := (-1 : Int32)) hx hb dX10_claim_12 kc_m1 ?_
    refine hc_ki (va_runV (As := [.int ((-1 : Int32))]) (rest := []) ⟨hx, hb, hml, hown, hts⟩ (c_X10_refuse l G h0 a_now a_kept a_reader a_numbers a_strife a_settled a_selection a_dispute a_trials a_refusals H.size s_isKept g_refusals ((-1 : Int32)) _ h) (cwV 1 hts gX10_claim_X10_refuse rfl rfl rfl (by decide +kernel) ⟨Nat.le_of_ble_eq_true rfl, Nat.le_of_ble_eq_true rfl⟩) (hc_pV hK hP hD [0, 2] rfl rfl (ci := 8) 0 rfl rfl) rfl rfl hl.1 rfl (lv_room (Nat.le_of_ble_eq_true rfl)) dX10_claim_13 ⟨Nat.le_refl _, Nat.le_refl _⟩) hP hD hS hA [0, 2] [1, 3] rfl rfl rfl (by decide) (fun r13 u H locs h hP hD hS => ?_)
    obtain ⟨g_refusals_13, rfl⟩ : ∃ z, z = u := ⟨_, rfl⟩
    try dsimp only at h
    have hP : va_P G.1 vwCl [ceX1 a_strife s_strife_hits s_strife_leads s_strife_defeats s_strife_defeaters, ceX3 a_now s_now_size s_now_heard s_now_mode s_now_cast s_now_figures s_now_voices s_now_attacks s_now_supports, ceX10 h0 a_now a_kept a_reader a_numbers a_strife a_settled a_selection a_dispute a_trials a_refusals s_isKept, caI G a_refusals 7 g_refusals_13] H := hP
    have hD : va_D A [ceX1 a_strife s_strife_hits s_strife_leads s_strife_defeats s_strife_defeaters, ceX3 a_now s_now_size s_now_heard s_now_mode s_now_cast s_now_figures s_now_voices s_now_attacks s_now_supports, ceX10 h0 a_now a_kept a_reader a_numbers a_strife a_settled a_selection a_dispute a_trials a_refusals s_isKept, caI G a_refusals 7 g_refusals_13] := hD
    exact W.iret (v := r13) hx hb hr (fun t ht hW => ⟨⟨_, ⟨s_strife_hits, s_strife_leads, s_strife_defeats, s_strife_defeaters, g_refusals_13⟩, rfl, h, ⟨by rw [ht]; exact (hP.sub [2, 1, 0, 3] rfl), (hD.sub [2, 1, 0, 3] (by decide) rfl)⟩⟩, hS.F ht⟩) hS.2.2 dX10_claim_16
set_option maxHeartbeats 4000000 in
set_option maxRecDepth 100000 in
theorem c_X10_settle (l : Launch) (G : hcG) (h0 : Nat) (a_now : Nat) (a_kept : Nat) (a_reader : Nat) (a_numbers : Nat) (a_strife : Nat) (a_settled : Nat) (a_selection : Nat) (a_dispute : Nat) (a_trials : Nat) (a_refusals : Nat) (sz : Nat) (s_isKept : Int32) (s_now_size : Int32) (s_now_heard : Int32) (s_now_mode : Int32) (s_now_cast : Int64) (s_now_figures : Int64) (s_now_voices : Int64) (s_now_attacks : Int64) (s_now_supports : Int64) (s_strife_hits : Int64) (s_strife_leads : Int64) (s_strife_defeats : Int64) (s_strife_defeaters : Int64) (s_settled_in : Int32) (s_settled_out : Int32) (s_settled_length : Int32) (s_settled_order : Int64) (post : Int64 → Int64 → Int64 → Int64 → Int32 → Int32 → Int32 → Int64 → Prop) (h : wp_X10_settle post s_now_size s_now_heard s_now_mode s_now_cast s_now_figures s_now_attacks s_now_supports s_strife_hits s_strife_leads s_strife_defeats s_strife_defeaters s_settled_in s_settled_out s_settled_length s_settled_order) : Met l yX10_settle wsX10_settle ({ frames := 4, cells := 0, slots := 0, locals := 96 }) (hcPc G [.ref h0] [ceX10 h0 a_now a_kept a_reader a_numbers a_strife a_settled a_selection a_dispute a_trials a_refusals s_isKept, ceX3 a_now s_now_size s_now_heard s_now_mode s_now_cast s_now_figures s_now_voices s_now_attacks s_now_supports, ceX1 a_strife s_strife_hits s_strife_leads s_strife_defeats s_strife_defeaters, ceX9 a_settled s_settled_in s_settled_out s_settled_length s_settled_order] sz) (va_Qv (fun u : Int64 × Int64 × Int64 × Int64 × Int32 × Int32 × Int32 × Int64 => post u.1 u.2.1 u.2.2.1 u.2.2.2.1 u.2.2.2.2.1 u.2.2.2.2.2.1 u.2.2.2.2.2.2.1 u.2.2.2.2.2.2.2) (hcB G (va_A [ceX10 h0 a_now a_kept a_reader a_numbers a_strife a_settled a_selection a_dispute a_trials a_refusals s_isKept, ceX3 a_now s_now_size s_now_heard s_now_mode s_now_cast s_now_figures s_now_voices s_now_attacks s_now_supports, ceX1 a_strife s_strife_hits s_strife_leads s_strife_defeats s_strife_defeaters, ceX9 a_settled s_settled_in s_settled_out s_settled_length s_settled_order] sz) (fun u : Int64 × Int64 × Int64 × Int64 × Int32 × Int32 × Int32 × Int64 => [ceX10 h0 a_now a_kept a_reader a_numbers a_strife a_settled a_selection a_dispute a_trials a_refusals s_isKept, ceX3 a_now s_now_size s_now_heard s_now_mode s_now_cast s_now_figures s_now_voices s_now_attacks s_now_supports, ceX1 a_strife u.1 u.2.1 u.2.2.1 u.2.2.2.1, ceX9 a_settled u.2.2.2.2.1 u.2.2.2.2.2.1 u.2.2.2.2.2.2.1 u.2.2.2.2.2.2.2])) (va_A [ceX10 h0 a_now a_kept a_reader a_numbers a_strife a_settled a_selection a_dispute a_trials a_refusals s_isKept, ceX3 a_now s_now_size s_now_heard s_now_mode s_now_cast s_now_figures s_now_voices s_now_attacks s_now_supports, ceX1 a_strife s_strife_hits s_strife_leads s_strife_defeats s_strife_defeaters, ceX9 a_settled s_settled_in s_settled_out s_settled_length s_settled_order] sz)) 0 0 (va_A [ceX10 h0 a_now a_kept a_reader a_numbers a_strife a_settled a_selection a_dispute a_trials a_refusals s_isKept, ceX3 a_now s_now_size s_now_heard s_now_mode s_now_cast s_now_figures s_now_voices s_now_attacks s_now_supports, ceX1 a_strife s_strife_hits s_strife_leads s_strife_defeats s_strife_defeaters, ceX9 a_settled s_settled_in s_settled_out s_settled_length s_settled_order] sz) := by
  refine Met.ofW (cc := cX10_settle) (maxL := 1) (ret := none) (by decide) rfl ?_
  intro p e s m args below meth c s₁ B hml hv
  obtain ⟨rfl, hsz, hP, hK, hD0⟩ := hv
  have hx := B.exec
  have hb := B.bytes
  have hr := B.returns
  have hts := atoms_spec (ws := wsX10_settle) B.pre
  have hown : s.vm.findClass RX10 = some m.cls := findClass_of_methodNamed B.named
  have hlocks := B.notSynchronized
  subst hsz
  have hD := hD0.self (sz := s.heap.size)
  generalize hAe : va_A [ceX10 h0 a_now a_kept a_reader a_numbers a_strife a_settled a_selection a_dispute a_trials a_refusals s_isKept, ceX3 a_now s_now_size s_now_heard s_now_mode s_now_cast s_now_figures s_now_voices s_now_attacks s_now_supports, ceX1 a_strife s_strife_hits s_strife_leads s_strife_defeats s_strife_defeaters, ceX9 a_settled s_settled_in s_settled_out s_settled_length s_settled_order] s.heap.size = A at hD ⊢
  have hA : ∀ q : Nat, s.heap.size ≤ q → A q := fun q h => by rw [← hAe]; exact Or.inr h
  have hS : va_S A s.heap s.heap [] := va_S.rf
  have hP : va_P G.1 vwCl [ceX10 h0 a_now a_kept a_reader a_numbers a_strife a_settled a_selection a_dispute a_trials a_refusals s_isKept, ceX3 a_now s_now_size s_now_heard s_now_mode s_now_cast s_now_figures s_now_voices s_now_attacks s_now_supports, ceX1 a_strife s_strife_hits s_strife_leads s_strife_defeats s_strife_defeaters, ceX9 a_settled s_settled_in s_settled_out s_settled_length s_settled_order] s.heap := hP
  have hl := lv_entry ([.ref h0]) (n := 1) (Nat.le_of_ble_eq_true rfl)
  rw [lg_entry_eq]
  generalize (lg_sl ([.ref h0]) ++ List.replicate (1 - (lg_sl ([.ref h0])).length) Slot.unset).toArray = ls at hl ⊢
  have hl : lv_has ls 1 [(0, .ref h0)] := hl
  have kf0 := hts (.fieldLink RX10 38 "HallOfClaims" "strife" "LHallOfClaims$Defeats;") (List.mem_of_getElem? (i := 1) (by decide +kernel))
  have kf1 := hts (.fieldLink RX10 10 "HallOfClaims" "now" "LHallOfClaims$Hall;") (List.mem_of_getElem? (i := 2) (by decide +kernel))
  have kf2 := hts (.fieldLink RX10 45 "HallOfClaims" "settled" "LHallOfClaims$Turns;") (List.mem_of_getElem? (i := 3) (by decide +kernel))
  have ki_X10 : ∀ w ∈ u_ws RX10 TX10 11, w ∈ wsX10_settle := by decide +kernel
  unfold wp_X10_settle at h
  refine lv_aload_n hx hb dX10_settle_0 rfl (lv_at hl 0 rfl) ?_
  refine va_get (D := G.1) (ci := 8) (v := .ref a_strife) (C := RX10) (T := TX10) (N := 11) hx hb hts ki_X10 hown hK.1 hP 0 rfl rfl 4 (by decide) kf0 (fun _ h9 => h9) rfl dX10_settle_1 ?_
  refine lv_aload_n hx hb dX10_settle_4 rfl (lv_at hl 0 rfl) ?_
  refine va_get (D := G.1) (ci := 8) (v := .ref a_now) (C := RX10) (T := TX10) (N := 11) hx hb hts ki_X10 hown hK.1 hP 0 rfl rfl 0 (by decide) kf1 (fun _ h9 => h9) rfl dX10_settle_5 ?_
  refine hc_kv (va_runV (As := [.ref a_now]) (rest := []) ⟨hx, hb, hml, hown, hts⟩ (c_X1_reckon l G a_strife a_now H.size s_strife_hits s_strife_leads s_strife_defeats s_strife_defeaters s_now_size s_now_heard s_now_mode s_now_cast s_now_figures s_now_voices s_now_attacks s_now_supports _ h) (cwV 1 hts gX10_settle_X1_reckon rfl rfl rfl (by decide +kernel) ⟨Nat.le_of_ble_eq_true rfl, Nat.le_of_ble_eq_true rfl⟩) (hc_pV hK hP hD [2, 1] rfl rfl (ci := 0) 2 rfl rfl) rfl rfl hl.1 rfl (lv_room (Nat.le_of_ble_eq_true rfl)) dX10_settle_8 ⟨Nat.le_refl _, Nat.le_refl _⟩) hP hD hS hA [2, 1] [0, 3] rfl rfl rfl (by decide) (fun u H locs h hP hD hS => ?_)
  obtain ⟨s_strife_hits_8, s_strife_leads_8, s_strife_defeats_8, s_strife_defeaters_8⟩ := u
  try dsimp only at h
  have hP : va_P G.1 vwCl [ceX10 h0 a_now a_kept a_reader a_numbers a_strife a_settled a_selection a_dispute a_trials a_refusals s_isKept, ceX9 a_settled s_settled_in s_settled_out s_settled_length s_settled_order, ceX1 a_strife s_strife_hits_8 s_strife_leads_8 s_strife_defeats_8 s_strife_defeaters_8, ceX3 a_now s_now_size s_now_heard s_now_mode s_now_cast s_now_figures s_now_voices s_now_attacks s_now_supports] H := hP
  have hD : va_D A [ceX10 h0 a_now a_kept a_reader a_numbers a_strife a_settled a_selection a_dispute a_trials a_refusals s_isKept, ceX9 a_settled s_settled_in s_settled_out s_settled_length s_settled_order, ceX1 a_strife s_strife_hits_8 s_strife_leads_8 s_strife_defeats_8 s_strife_defeaters_8, ceX3 a_now s_now_size s_now_heard s_now_mode s_now_cast s_now_figures s_now_voices s_now_attacks s_now_supports] := hD
  refine lv_aload_n hx hb dX10_settle_11 rfl (lv_at hl 0 rfl) ?_
  refine va_get (D := G.1) (ci := 8) (v := .ref a_settled) (C := RX10) (T := TX10) (N := 11) hx hb hts ki_X10 hown hK.1 hP 0 rfl rfl 5 (by decide) kf2 (fun _ h9 => h9) rfl dX10_settle_12 ?_
  refine lv_aload_n hx hb dX10_settle_15 rfl (lv_at hl 0 rfl) ?_
  refine va_get (D := G.1) (ci := 8) (v := .ref a_now) (C := RX10) (T := TX10) (N := 11) hx hb hts ki_X10 hown hK.1 hP 0 rfl rfl 0 (by decide) kf1 (fun _ h9 => h9) rfl dX10_settle_16 ?_
  refine lv_aload_n hx hb dX10_settle_19 rfl (lv_at hl 0 rfl) ?_
  refine va_get (D := G.1) (ci := 8) (v := .ref a_strife) (C := RX10) (T := TX10) (N := 11) hx hb hts ki_X10 hown hK.1 hP 0 rfl rfl 4 (by decide) kf0 (fun _ h9 => h9) rfl dX10_settle_20 ?_
  refine hc_kv (va_runV (As := [.ref a_now, .ref a_strife]) (rest := []) ⟨hx, hb, hml, hown, hts⟩ (c_X9_run l G a_settled a_now a_strife H.size s_settled_in s_settled_out s_settled_length s_settled_order s_now_size s_now_heard s_now_mode s_now_cast s_now_figures s_now_voices s_now_attacks s_now_supports s_strife_hits_8 s_strife_leads_8 s_strife_defeats_8 s_strife_defeaters_8 _ h) (cwV 2 hts gX10_settle_X9_run rfl rfl rfl (by decide +kernel) ⟨Nat.le_of_ble_eq_true rfl, Nat.le_of_ble_eq_true rfl⟩) (hc_pV hK hP hD [1, 3, 2] rfl rfl (ci := 7) 1 rfl rfl) rfl rfl hl.1 rfl (lv_room (Nat.le_of_ble_eq_true rfl)) dX10_settle_23 ⟨Nat.le_refl _, Nat.le_refl _⟩) hP hD hS hA [1, 3, 2] [0] rfl rfl rfl (by decide) (fun u H locs h hP hD hS => ?_)
  obtain ⟨s_settled_in_23, s_settled_out_23, s_settled_length_23, s_settled_order_23⟩ := u
  try dsimp only at h
  have hP : va_P G.1 vwCl [ceX10 h0 a_now a_kept a_reader a_numbers a_strife a_settled a_selection a_dispute a_trials a_refusals s_isKept, ceX9 a_settled s_settled_in_23 s_settled_out_23 s_settled_length_23 s_settled_order_23, ceX3 a_now s_now_size s_now_heard s_now_mode s_now_cast s_now_figures s_now_voices s_now_attacks s_now_supports, ceX1 a_strife s_strife_hits_8 s_strife_leads_8 s_strife_defeats_8 s_strife_defeaters_8] H := hP
  have hD : va_D A [ceX10 h0 a_now a_kept a_reader a_numbers a_strife a_settled a_selection a_dispute a_trials a_refusals s_isKept, ceX9 a_settled s_settled_in_23 s_settled_out_23 s_settled_length_23 s_settled_order_23, ceX3 a_now s_now_size s_now_heard s_now_mode s_now_cast s_now_figures s_now_voices s_now_attacks s_now_supports, ceX1 a_strife s_strife_hits_8 s_strife_leads_8 s_strife_defeats_8 s_strife_defeaters_8] := hD
  exact W.vret hx hb hr (fun t ht hW => ⟨⟨⟨s_strife_hits_8, s_strife_leads_8, s_strife_defeats_8, s_strife_defeaters_8, s_settled_in_23, s_settled_out_23, s_settled_length_23, s_settled_order_23⟩, rfl, h, ⟨by rw [ht]; exact (hP.sub [0, 2, 3, 1] rfl), (hD.sub [0, 2, 3, 1] (by decide) rfl)⟩⟩, hS.F ht⟩) hS.2.2 dX10_settle_26
set_option maxHeartbeats 4000000 in
set_option maxRecDepth 100000 in
theorem c_X10_label (l : Launch) (G : hcG) (h0 : Nat) (a_now : Nat) (a_kept : Nat) (a_reader : Nat) (a_numbers : Nat) (a_strife : Nat) (a_settled : Nat) (a_selection : Nat) (a_dispute : Nat) (a_trials : Nat) (a_refusals : Nat) (sz : Nat) (s_isKept : Int32) (s_now_size : Int32) (s_now_heard : Int32) (s_now_mode : Int32) (s_now_cast : Int64) (s_now_figures : Int64) (s_now_voices : Int64) (s_now_attacks : Int64) (s_now_supports : Int64) (s_strife_hits : Int64) (s_strife_leads : Int64) (s_strife_defeats : Int64) (s_strife_defeaters : Int64) (s_settled_in : Int32) (s_settled_out : Int32) (s_settled_length : Int32) (s_settled_order : Int64) (g_refusals : Nat → Int32) (x1 : Int32) (post : Int32 → Int64 → Int64 → Int64 → Int64 → Int32 → Int32 → Int32 → Int64 → (Nat → Int32) → Prop) (h : wp_X10_label post s_now_size s_now_heard s_now_mode s_now_cast s_now_figures s_now_attacks s_now_supports s_strife_hits s_strife_leads s_strife_defeats s_strife_defeaters s_settled_in s_settled_out s_settled_length s_settled_order g_refusals x1) : Met l yX10_label wsX10_label ({ frames := 5, cells := 0, slots := 0, locals := 116 }) (hcPc G [.ref h0, .int x1] [ceX10 h0 a_now a_kept a_reader a_numbers a_strife a_settled a_selection a_dispute a_trials a_refusals s_isKept, ceX3 a_now s_now_size s_now_heard s_now_mode s_now_cast s_now_figures s_now_voices s_now_attacks s_now_supports, ceX1 a_strife s_strife_hits s_strife_leads s_strife_defeats s_strife_defeaters, ceX9 a_settled s_settled_in s_settled_out s_settled_length s_settled_order, caI G a_refusals 7 g_refusals] sz) (va_Qi (fun (r : Int32) (u : Int64 × Int64 × Int64 × Int64 × Int32 × Int32 × Int32 × Int64 × (Nat → Int32)) => post r u.1 u.2.1 u.2.2.1 u.2.2.2.1 u.2.2.2.2.1 u.2.2.2.2.2.1 u.2.2.2.2.2.2.1 u.2.2.2.2.2.2.2.1 u.2.2.2.2.2.2.2.2) (hcB G (va_A [ceX10 h0 a_now a_kept a_reader a_numbers a_strife a_settled a_selection a_dispute a_trials a_refusals s_isKept, ceX3 a_now s_now_size s_now_heard s_now_mode s_now_cast s_now_figures s_now_voices s_now_attacks s_now_supports, ceX1 a_strife s_strife_hits s_strife_leads s_strife_defeats s_strife_defeaters, ceX9 a_settled s_settled_in s_settled_out s_settled_length s_settled_order, caI G a_refusals 7 g_refusals] sz) (fun u : Int64 × Int64 × Int64 × Int64 × Int32 × Int32 × Int32 × Int64 × (Nat → Int32) => [ceX10 h0 a_now a_kept a_reader a_numbers a_strife a_settled a_selection a_dispute a_trials a_refusals s_isKept, ceX3 a_now s_now_size s_now_heard s_now_mode s_now_cast s_now_figures s_now_voices s_now_attacks s_now_supports, ceX1 a_strife u.1 u.2.1 u.2.2.1 u.2.2.2.1, ceX9 a_settled u.2.2.2.2.1 u.2.2.2.2.2.1 u.2.2.2.2.2.2.1 u.2.2.2.2.2.2.2.1, caI G a_refusals 7 u.2.2.2.2.2.2.2.2])) (va_A [ceX10 h0 a_now a_kept a_reader a_numbers a_strife a_settled a_selection a_dispute a_trials a_refusals s_isKept, ceX3 a_now s_now_size s_now_heard s_now_mode s_now_cast s_now_figures s_now_voices s_now_attacks s_now_supports, ceX1 a_strife s_strife_hits s_strife_leads s_strife_defeats s_strife_defeaters, ceX9 a_settled s_settled_in s_settled_out s_settled_length s_settled_order, caI G a_refusals 7 g_refusals] sz)) 0 0 (va_A [ceX10 h0 a_now a_kept a_reader a_numbers a_strife a_settled a_selection a_dispute a_trials a_refusals s_isKept, ceX3 a_now s_now_size s_now_heard s_now_mode s_now_cast s_now_figures s_now_voices s_now_attacks s_now_supports, ceX1 a_strife s_strife_hits s_strife_leads s_strife_defeats s_strife_defeaters, ceX9 a_settled s_settled_in s_settled_out s_settled_length s_settled_order, caI G a_refusals 7 g_refusals] sz) := by
  refine Met.ofW (cc := cX10_label) (maxL := 2) (ret := (some .int)) (by decide) rfl ?_
  intro p e s m args below meth c s₁ B hml hv
  obtain ⟨rfl, hsz, hP, hK, hD0⟩ := hv
  have hx := B.exec
  have hb := B.bytes
  have hr := B.returns
  have hts := atoms_spec (ws := wsX10_label) B.pre
  have hown : s.vm.findClass RX10 = some m.cls := findClass_of_methodNamed B.named
  have hlocks := B.notSynchronized
  subst hsz
  have hD := hD0.self (sz := s.heap.size)
  generalize hAe : va_A [ceX10 h0 a_now a_kept a_reader a_numbers a_strife a_settled a_selection a_dispute a_trials a_refusals s_isKept, ceX3 a_now s_now_size s_now_heard s_now_mode s_now_cast s_now_figures s_now_voices s_now_attacks s_now_supports, ceX1 a_strife s_strife_hits s_strife_leads s_strife_defeats s_strife_defeaters, ceX9 a_settled s_settled_in s_settled_out s_settled_length s_settled_order, caI G a_refusals 7 g_refusals] s.heap.size = A at hD ⊢
  have hA : ∀ q : Nat, s.heap.size ≤ q → A q := fun q h => by rw [← hAe]; exact Or.inr h
  have hS : va_S A s.heap s.heap [] := va_S.rf
  have hP : va_P G.1 vwCl [ceX10 h0 a_now a_kept a_reader a_numbers a_strife a_settled a_selection a_dispute a_trials a_refusals s_isKept, ceX3 a_now s_now_size s_now_heard s_now_mode s_now_cast s_now_figures s_now_voices s_now_attacks s_now_supports, ceX1 a_strife s_strife_hits s_strife_leads s_strife_defeats s_strife_defeaters, ceX9 a_settled s_settled_in s_settled_out s_settled_length s_settled_order, caI G a_refusals 7 g_refusals] s.heap := hP
  have hl := lv_entry ([.ref h0, .int x1]) (n := 2) (Nat.le_of_ble_eq_true rfl)
  rw [lg_entry_eq]
  generalize (lg_sl ([.ref h0, .int x1]) ++ List.replicate (2 - (lg_sl ([.ref h0, .int x1])).length) Slot.unset).toArray = ls at hl ⊢
  have hl : lv_has ls 2 [(0, .ref h0), (1, .int x1)] := hl
  have kf0 := hts (.fieldLink RX10 10 "HallOfClaims" "now" "LHallOfClaims$Hall;") (List.mem_of_getElem? (i := 1) (by decide +kernel))
  have kf1 := hts (.fieldLink RX10 45 "HallOfClaims" "settled" "LHallOfClaims$Turns;") (List.mem_of_getElem? (i := 2) (by decide +kernel))
  have ki_X10 : ∀ w ∈ u_ws RX10 TX10 11, w ∈ wsX10_label := by decide +kernel
  unfold wp_X10_label at h
  refine lv_aload_n hx hb dX10_label_0 rfl (lv_at hl 0 rfl) ?_
  refine va_get (D := G.1) (ci := 8) (v := .ref a_now) (C := RX10) (T := TX10) (N := 11) hx hb hts ki_X10 hown hK.1 hP 0 rfl rfl 0 (by decide) kf0 (fun _ h9 => h9) rfl dX10_label_1 ?_
  refine lv_iload_n hx hb dX10_label_4 rfl (lv_at hl 1 rfl) ?_
  refine hc_ki (va_runV (As := [.int x1]) (rest := []) ⟨hx, hb, hml, hown, hts⟩ (c_X3_knows l G a_now H.size s_now_size s_now_heard s_now_mode s_now_cast s_now_figures s_now_voices s_now_attacks s_now_supports x1 _ h) (cwV 1 hts gX10_label_X3_knows rfl rfl rfl (by decide +kernel) ⟨Nat.le_of_ble_eq_true rfl, Nat.le_of_ble_eq_true rfl⟩) (hc_pV hK hP hD [1] rfl rfl (ci := 2) 1 rfl rfl) rfl rfl hl.1 rfl (lv_room (Nat.le_of_ble_eq_true rfl)) dX10_label_5 ⟨Nat.le_refl _, Nat.le_refl _⟩) hP hD hS hA [1] [0, 2, 3, 4] rfl rfl rfl (by decide) (fun r5 u H locs h hP hD hS => ?_)
  try dsimp only at h
  have hP : va_P G.1 vwCl [ceX10 h0 a_now a_kept a_reader a_numbers a_strife a_settled a_selection a_dispute a_trials a_refusals s_isKept, ceX1 a_strife s_strife_hits s_strife_leads s_strife_defeats s_strife_defeaters, ceX9 a_settled s_settled_in s_settled_out s_settled_length s_settled_order, caI G a_refusals 7 g_refusals, ceX3 a_now s_now_size s_now_heard s_now_mode s_now_cast s_now_figures s_now_voices s_now_attacks s_now_supports] H := hP
  have hD : va_D A [ceX10 h0 a_now a_kept a_reader a_numbers a_strife a_settled a_selection a_dispute a_trials a_refusals s_isKept, ceX1 a_strife s_strife_hits s_strife_leads s_strife_defeats s_strife_defeaters, ceX9 a_settled s_settled_in s_settled_out s_settled_length s_settled_order, caI G a_refusals 7 g_refusals, ceX3 a_now s_now_size s_now_heard s_now_mode s_now_cast s_now_figures s_now_voices s_now_attacks s_now_supports] := hD
  refine lv_if_ne (tgt := 17) hx hb dX10_label_8 (by decide) (fun c => ?_) (fun c => ?_)
  · replace h := h.1 c
    refine lv_aload_n hx hb dX10_label_17 rfl (lv_at hl 0 rfl) ?_
    refine hc_kv (va_runV (As := []) (rest := []) ⟨hx, hb, hml, hown, hts⟩ (c_X10_settle l G h0 a_now a_kept a_reader a_numbers a_strife a_settled a_selection a_dispute a_trials a_refusals H.size s_isKept s_now_size s_now_heard s_now_mode s_now_cast s_now_figures s_now_voices s_now_attacks s_now_supports s_strife_hits s_strife_leads s_strife_defeats s_strife_defeaters s_settled_in s_settled_out s_settled_length s_settled_order _ h) (cwV 0 hts gX10_label_X10_settle rfl rfl rfl (by decide +kernel) ⟨Nat.le_of_ble_eq_true rfl, Nat.le_of_ble_eq_true rfl⟩) (hc_pV hK hP hD [0, 4, 1, 2] rfl rfl (ci := 8) 0 rfl rfl) rfl rfl hl.1 rfl (lv_room (Nat.le_of_ble_eq_true rfl)) dX10_label_18 ⟨Nat.le_refl _, Nat.le_refl _⟩) hP hD hS hA [0, 4, 1, 2] [3] rfl rfl rfl (by decide) (fun u H locs h hP hD hS => ?_)
    obtain ⟨s_strife_hits_18, s_strife_leads_18, s_strife_defeats_18, s_strife_defeaters_18, s_settled_in_18, s_settled_out_18, s_settled_length_18, s_settled_order_18⟩ := u
    try dsimp only at h
    have hP : va_P G.1 vwCl [caI G a_refusals 7 g_refusals, ceX10 h0 a_now a_kept a_reader a_numbers a_strife a_settled a_selection a_dispute a_trials a_refusals s_isKept, ceX3 a_now s_now_size s_now_heard s_now_mode s_now_cast s_now_figures s_now_voices s_now_attacks s_now_supports, ceX1 a_strife s_strife_hits_18 s_strife_leads_18 s_strife_defeats_18 s_strife_defeaters_18, ceX9 a_settled s_settled_in_18 s_settled_out_18 s_settled_length_18 s_settled_order_18] H := hP
    have hD : va_D A [caI G a_refusals 7 g_refusals, ceX10 h0 a_now a_kept a_reader a_numbers a_strife a_settled a_selection a_dispute a_trials a_refusals s_isKept, ceX3 a_now s_now_size s_now_heard s_now_mode s_now_cast s_now_figures s_now_voices s_now_attacks s_now_supports, ceX1 a_strife s_strife_hits_18 s_strife_leads_18 s_strife_defeats_18 s_strife_defeaters_18, ceX9 a_settled s_settled_in_18 s_settled_out_18 s_settled_length_18 s_settled_order_18] := hD
    refine lv_aload_n hx hb dX10_label_21 rfl (lv_at hl 0 rfl) ?_
    refine va_get (D := G.1) (ci := 8) (v := .ref a_settled) (C := RX10) (T := TX10) (N := 11) hx hb hts ki_X10 hown hK.1 hP 1 rfl rfl 5 (by decide) kf1 (fun _ h9 => h9) rfl dX10_label_22 ?_
    refine lv_aload_n hx hb dX10_label_25 rfl (lv_at hl 0 rfl) ?_
    refine va_get (D := G.1) (ci := 8) (v := .ref a_now) (C := RX10) (T := TX10) (N := 11) hx hb hts ki_X10 hown hK.1 hP 1 rfl rfl 0 (by decide) kf0 (fun _ h9 => h9) rfl dX10_label_26 ?_
    refine lv_iload_n hx hb dX10_label_29 rfl (lv_at hl 1 rfl) ?_
    refine hc_ki (va_runV (As := [.ref a_now, .int x1]) (rest := []) ⟨hx, hb, hml, hown, hts⟩ (c_X9_labelOf l G a_settled a_now H.size s_settled_in_18 s_settled_out_18 s_settled_length_18 s_settled_order_18 s_now_size s_now_heard s_now_mode s_now_cast s_now_figures s_now_voices s_now_attacks s_now_supports x1 _ h) (cwV 2 hts gX10_label_X9_labelOf rfl rfl rfl (by decide +kernel) ⟨Nat.le_of_ble_eq_true rfl, Nat.le_of_ble_eq_true rfl⟩) (hc_pV hK hP hD [4, 2] rfl rfl (ci := 7) 4 rfl rfl) rfl rfl hl.1 rfl (lv_room (Nat.le_of_ble_eq_true rfl)) dX10_label_30 ⟨Nat.le_refl _, Nat.le_refl _⟩) hP hD hS hA [4, 2] [0, 1, 3] rfl rfl rfl (by decide) (fun r30 u H locs h hP hD hS => ?_)
    try dsimp only at h
    have hP : va_P G.1 vwCl [caI G a_refusals 7 g_refusals, ceX10 h0 a_now a_kept a_reader a_numbers a_strife a_settled a_selection a_dispute a_trials a_refusals s_isKept, ceX1 a_strife s_strife_hits_18 s_strife_leads_18 s_strife_defeats_18 s_strife_defeaters_18, ceX9 a_settled s_settled_in_18 s_settled_out_18 s_settled_length_18 s_settled_order_18, ceX3 a_now s_now_size s_now_heard s_now_mode s_now_cast s_now_figures s_now_voices s_now_attacks s_now_supports] H := hP
    have hD : va_D A [caI G a_refusals 7 g_refusals, ceX10 h0 a_now a_kept a_reader a_numbers a_strife a_settled a_selection a_dispute a_trials a_refusals s_isKept, ceX1 a_strife s_strife_hits_18 s_strife_leads_18 s_strife_defeats_18 s_strife_defeaters_18, ceX9 a_settled s_settled_in_18 s_settled_out_18 s_settled_length_18 s_settled_order_18, ceX3 a_now s_now_size s_now_heard s_now_mode s_now_cast s_now_figures s_now_voices s_now_attacks s_now_supports] := hD
    exact W.iret (v := r30) hx hb hr (fun t ht hW => ⟨⟨_, ⟨s_strife_hits_18, s_strife_leads_18, s_strife_defeats_18, s_strife_defeaters_18, s_settled_in_18, s_settled_out_18, s_settled_length_18, s_settled_order_18, g_refusals⟩, rfl, h, ⟨by rw [ht]; exact (hP.sub [1, 4, 2, 3, 0] rfl), (hD.sub [1, 4, 2, 3, 0] (by decide) rfl)⟩⟩, hS.F ht⟩) hS.2.2 dX10_label_33
  · replace h := h.2 c
    refine lv_aload_n hx hb dX10_label_11 rfl (lv_at hl 0 rfl) ?_
    refine lv_iconst (v := (-1 : Int32)) hx hb dX10_label_12 kc_m1 ?_
    refine hc_ki (va_runV (As := [.int ((-1 : Int32))]) (rest := []) ⟨hx, hb, hml, hown, hts⟩ (c_X10_refuse l G h0 a_now a_kept a_reader a_numbers a_strife a_settled a_selection a_dispute a_trials a_refusals H.size s_isKept g_refusals ((-1 : Int32)) _ h) (cwV 1 hts gX10_label_X10_refuse rfl rfl rfl (by decide +kernel) ⟨Nat.le_of_ble_eq_true rfl, Nat.le_of_ble_eq_true rfl⟩) (hc_pV hK hP hD [0, 3] rfl rfl (ci := 8) 0 rfl rfl) rfl rfl hl.1 rfl (lv_room (Nat.le_of_ble_eq_true rfl)) dX10_label_13 ⟨Nat.le_refl _, Nat.le_refl _⟩) hP hD hS hA [0, 3] [1, 2, 4] rfl rfl rfl (by decide) (fun r13 u H locs h hP hD hS => ?_)
    obtain ⟨g_refusals_13, rfl⟩ : ∃ z, z = u := ⟨_, rfl⟩
    try dsimp only at h
    have hP : va_P G.1 vwCl [ceX1 a_strife s_strife_hits s_strife_leads s_strife_defeats s_strife_defeaters, ceX9 a_settled s_settled_in s_settled_out s_settled_length s_settled_order, ceX3 a_now s_now_size s_now_heard s_now_mode s_now_cast s_now_figures s_now_voices s_now_attacks s_now_supports, ceX10 h0 a_now a_kept a_reader a_numbers a_strife a_settled a_selection a_dispute a_trials a_refusals s_isKept, caI G a_refusals 7 g_refusals_13] H := hP
    have hD : va_D A [ceX1 a_strife s_strife_hits s_strife_leads s_strife_defeats s_strife_defeaters, ceX9 a_settled s_settled_in s_settled_out s_settled_length s_settled_order, ceX3 a_now s_now_size s_now_heard s_now_mode s_now_cast s_now_figures s_now_voices s_now_attacks s_now_supports, ceX10 h0 a_now a_kept a_reader a_numbers a_strife a_settled a_selection a_dispute a_trials a_refusals s_isKept, caI G a_refusals 7 g_refusals_13] := hD
    exact W.iret (v := r13) hx hb hr (fun t ht hW => ⟨⟨_, ⟨s_strife_hits, s_strife_leads, s_strife_defeats, s_strife_defeaters, s_settled_in, s_settled_out, s_settled_length, s_settled_order, g_refusals_13⟩, rfl, h, ⟨by rw [ht]; exact (hP.sub [3, 2, 0, 1, 4] rfl), (hD.sub [3, 2, 0, 1, 4] (by decide) rfl)⟩⟩, hS.F ht⟩) hS.2.2 dX10_label_16
set_option maxHeartbeats 4000000 in
set_option maxRecDepth 100000 in
theorem c_X10_turn (l : Launch) (G : hcG) (h0 : Nat) (a_now : Nat) (a_kept : Nat) (a_reader : Nat) (a_numbers : Nat) (a_strife : Nat) (a_settled : Nat) (a_selection : Nat) (a_dispute : Nat) (a_trials : Nat) (a_refusals : Nat) (sz : Nat) (s_isKept : Int32) (s_now_size : Int32) (s_now_heard : Int32) (s_now_mode : Int32) (s_now_cast : Int64) (s_now_figures : Int64) (s_now_voices : Int64) (s_now_attacks : Int64) (s_now_supports : Int64) (s_strife_hits : Int64) (s_strife_leads : Int64) (s_strife_defeats : Int64) (s_strife_defeaters : Int64) (s_settled_in : Int32) (s_settled_out : Int32) (s_settled_length : Int32) (s_settled_order : Int64) (g_refusals : Nat → Int32) (x1 : Int32) (post : Int32 → Int64 → Int64 → Int64 → Int64 → Int32 → Int32 → Int32 → Int64 → (Nat → Int32) → Prop) (h : wp_X10_turn post s_now_size s_now_heard s_now_mode s_now_cast s_now_figures s_now_attacks s_now_supports s_strife_hits s_strife_leads s_strife_defeats s_strife_defeaters s_settled_in s_settled_out s_settled_length s_settled_order g_refusals x1) : Met l yX10_turn wsX10_turn ({ frames := 5, cells := 0, slots := 0, locals := 116 }) (hcPc G [.ref h0, .int x1] [ceX10 h0 a_now a_kept a_reader a_numbers a_strife a_settled a_selection a_dispute a_trials a_refusals s_isKept, ceX3 a_now s_now_size s_now_heard s_now_mode s_now_cast s_now_figures s_now_voices s_now_attacks s_now_supports, ceX1 a_strife s_strife_hits s_strife_leads s_strife_defeats s_strife_defeaters, ceX9 a_settled s_settled_in s_settled_out s_settled_length s_settled_order, caI G a_refusals 7 g_refusals] sz) (va_Qi (fun (r : Int32) (u : Int64 × Int64 × Int64 × Int64 × Int32 × Int32 × Int32 × Int64 × (Nat → Int32)) => post r u.1 u.2.1 u.2.2.1 u.2.2.2.1 u.2.2.2.2.1 u.2.2.2.2.2.1 u.2.2.2.2.2.2.1 u.2.2.2.2.2.2.2.1 u.2.2.2.2.2.2.2.2) (hcB G (va_A [ceX10 h0 a_now a_kept a_reader a_numbers a_strife a_settled a_selection a_dispute a_trials a_refusals s_isKept, ceX3 a_now s_now_size s_now_heard s_now_mode s_now_cast s_now_figures s_now_voices s_now_attacks s_now_supports, ceX1 a_strife s_strife_hits s_strife_leads s_strife_defeats s_strife_defeaters, ceX9 a_settled s_settled_in s_settled_out s_settled_length s_settled_order, caI G a_refusals 7 g_refusals] sz) (fun u : Int64 × Int64 × Int64 × Int64 × Int32 × Int32 × Int32 × Int64 × (Nat → Int32) => [ceX10 h0 a_now a_kept a_reader a_numbers a_strife a_settled a_selection a_dispute a_trials a_refusals s_isKept, ceX3 a_now s_now_size s_now_heard s_now_mode s_now_cast s_now_figures s_now_voices s_now_attacks s_now_supports, ceX1 a_strife u.1 u.2.1 u.2.2.1 u.2.2.2.1, ceX9 a_settled u.2.2.2.2.1 u.2.2.2.2.2.1 u.2.2.2.2.2.2.1 u.2.2.2.2.2.2.2.1, caI G a_refusals 7 u.2.2.2.2.2.2.2.2])) (va_A [ceX10 h0 a_now a_kept a_reader a_numbers a_strife a_settled a_selection a_dispute a_trials a_refusals s_isKept, ceX3 a_now s_now_size s_now_heard s_now_mode s_now_cast s_now_figures s_now_voices s_now_attacks s_now_supports, ceX1 a_strife s_strife_hits s_strife_leads s_strife_defeats s_strife_defeaters, ceX9 a_settled s_settled_in s_settled_out s_settled_length s_settled_order, caI G a_refusals 7 g_refusals] sz)) 0 0 (va_A [ceX10 h0 a_now a_kept a_reader a_numbers a_strife a_settled a_selection a_dispute a_trials a_refusals s_isKept, ceX3 a_now s_now_size s_now_heard s_now_mode s_now_cast s_now_figures s_now_voices s_now_attacks s_now_supports, ceX1 a_strife s_strife_hits s_strife_leads s_strife_defeats s_strife_defeaters, ceX9 a_settled s_settled_in s_settled_out s_settled_length s_settled_order, caI G a_refusals 7 g_refusals] sz) := by
  refine Met.ofW (cc := cX10_turn) (maxL := 2) (ret := (some .int)) (by decide) rfl ?_
  intro p e s m args below meth c s₁ B hml hv
  obtain ⟨rfl, hsz, hP, hK, hD0⟩ := hv
  have hx := B.exec
  have hb := B.bytes
  have hr := B.returns
  have hts := atoms_spec (ws := wsX10_turn) B.pre
  have hown : s.vm.findClass RX10 = some m.cls := findClass_of_methodNamed B.named
  have hlocks := B.notSynchronized
  subst hsz
  have hD := hD0.self (sz := s.heap.size)
  generalize hAe : va_A [ceX10 h0 a_now a_kept a_reader a_numbers a_strife a_settled a_selection a_dispute a_trials a_refusals s_isKept, ceX3 a_now s_now_size s_now_heard s_now_mode s_now_cast s_now_figures s_now_voices s_now_attacks s_now_supports, ceX1 a_strife s_strife_hits s_strife_leads s_strife_defeats s_strife_defeaters, ceX9 a_settled s_settled_in s_settled_out s_settled_length s_settled_order, caI G a_refusals 7 g_refusals] s.heap.size = A at hD ⊢
  have hA : ∀ q : Nat, s.heap.size ≤ q → A q := fun q h => by rw [← hAe]; exact Or.inr h
  have hS : va_S A s.heap s.heap [] := va_S.rf
  have hP : va_P G.1 vwCl [ceX10 h0 a_now a_kept a_reader a_numbers a_strife a_settled a_selection a_dispute a_trials a_refusals s_isKept, ceX3 a_now s_now_size s_now_heard s_now_mode s_now_cast s_now_figures s_now_voices s_now_attacks s_now_supports, ceX1 a_strife s_strife_hits s_strife_leads s_strife_defeats s_strife_defeaters, ceX9 a_settled s_settled_in s_settled_out s_settled_length s_settled_order, caI G a_refusals 7 g_refusals] s.heap := hP
  have hl := lv_entry ([.ref h0, .int x1]) (n := 2) (Nat.le_of_ble_eq_true rfl)
  rw [lg_entry_eq]
  generalize (lg_sl ([.ref h0, .int x1]) ++ List.replicate (2 - (lg_sl ([.ref h0, .int x1])).length) Slot.unset).toArray = ls at hl ⊢
  have hl : lv_has ls 2 [(0, .ref h0), (1, .int x1)] := hl
  have kf0 := hts (.fieldLink RX10 45 "HallOfClaims" "settled" "LHallOfClaims$Turns;") (List.mem_of_getElem? (i := 1) (by decide +kernel))
  have kf1 := hts (.fieldLink RX10 180 "HallOfClaims$Turns" "length" "I") (List.mem_of_getElem? (i := 2) (by decide +kernel))
  have ki_X10 : ∀ w ∈ u_ws RX10 TX10 11, w ∈ wsX10_turn := by decide +kernel
  have ki_X9 : ∀ w ∈ u_ws RX9 TX9 4, w ∈ wsX10_turn := by decide +kernel
  unfold wp_X10_turn at h
  refine lv_iload_n hx hb dX10_turn_0 rfl (lv_at hl 1 rfl) ?_
  refine lv_iconst (v := (-1 : Int32)) hx hb dX10_turn_1 kc_m1 ?_
  refine lv_icmp_ge (tgt := 12) hx hb dX10_turn_2 (by decide) (fun c => ?_) (fun c => ?_)
  · replace h := h.1 c
    refine lv_aload_n hx hb dX10_turn_12 rfl (lv_at hl 0 rfl) ?_
    refine hc_kv (va_runV (As := []) (rest := []) ⟨hx, hb, hml, hown, hts⟩ (c_X10_settle l G h0 a_now a_kept a_reader a_numbers a_strife a_settled a_selection a_dispute a_trials a_refusals H.size s_isKept s_now_size s_now_heard s_now_mode s_now_cast s_now_figures s_now_voices s_now_attacks s_now_supports s_strife_hits s_strife_leads s_strife_defeats s_strife_defeaters s_settled_in s_settled_out s_settled_length s_settled_order _ h) (cwV 0 hts gX10_turn_X10_settle rfl rfl rfl (by decide +kernel) ⟨Nat.le_of_ble_eq_true rfl, Nat.le_of_ble_eq_true rfl⟩) (hc_pV hK hP hD [0, 1, 2, 3] rfl rfl (ci := 8) 0 rfl rfl) rfl rfl hl.1 rfl (lv_room (Nat.le_of_ble_eq_true rfl)) dX10_turn_13 ⟨Nat.le_refl _, Nat.le_refl _⟩) hP hD hS hA [0, 1, 2, 3] [4] rfl rfl rfl (by decide) (fun u H locs h hP hD hS => ?_)
    obtain ⟨s_strife_hits_13, s_strife_leads_13, s_strife_defeats_13, s_strife_defeaters_13, s_settled_in_13, s_settled_out_13, s_settled_length_13, s_settled_order_13⟩ := u
    try dsimp only at h
    have hP : va_P G.1 vwCl [caI G a_refusals 7 g_refusals, ceX10 h0 a_now a_kept a_reader a_numbers a_strife a_settled a_selection a_dispute a_trials a_refusals s_isKept, ceX3 a_now s_now_size s_now_heard s_now_mode s_now_cast s_now_figures s_now_voices s_now_attacks s_now_supports, ceX1 a_strife s_strife_hits_13 s_strife_leads_13 s_strife_defeats_13 s_strife_defeaters_13, ceX9 a_settled s_settled_in_13 s_settled_out_13 s_settled_length_13 s_settled_order_13] H := hP
    have hD : va_D A [caI G a_refusals 7 g_refusals, ceX10 h0 a_now a_kept a_reader a_numbers a_strife a_settled a_selection a_dispute a_trials a_refusals s_isKept, ceX3 a_now s_now_size s_now_heard s_now_mode s_now_cast s_now_figures s_now_voices s_now_attacks s_now_supports, ceX1 a_strife s_strife_hits_13 s_strife_leads_13 s_strife_defeats_13 s_strife_defeaters_13, ceX9 a_settled s_settled_in_13 s_settled_out_13 s_settled_length_13 s_settled_order_13] := hD
    refine lv_iload_n hx hb dX10_turn_16 rfl (lv_at hl 1 rfl) ?_
    refine lv_iconst (v := (-1 : Int32)) hx hb dX10_turn_17 kc_m1 ?_
    refine lv_icmp_ne (tgt := 31) hx hb dX10_turn_18 (by decide) (fun c => ?_) (fun c => ?_)
    · replace h := h.1 c
      refine lv_aload_n hx hb dX10_turn_31 rfl (lv_at hl 0 rfl) ?_
      refine va_get (D := G.1) (ci := 8) (v := .ref a_settled) (C := RX10) (T := TX10) (N := 11) hx hb hts ki_X10 hown hK.1 hP 1 rfl rfl 5 (by decide) kf0 (fun _ h9 => h9) rfl dX10_turn_32 ?_
      refine lv_iload_n hx hb dX10_turn_35 rfl (lv_at hl 1 rfl) ?_
      refine hc_ki (va_runV (As := [.int x1]) (rest := []) ⟨hx, hb, hml, hown, hts⟩ (c_X9_at l G a_settled H.size s_settled_in_13 s_settled_out_13 s_settled_length_13 s_settled_order_13 x1 _ h) (cwV 1 hts gX10_turn_X9_at rfl rfl rfl (by decide +kernel) ⟨Nat.le_of_ble_eq_true rfl, Nat.le_of_ble_eq_true rfl⟩) (hc_pV hK hP hD [4] rfl rfl (ci := 7) 4 rfl rfl) rfl rfl hl.1 rfl (lv_room (Nat.le_of_ble_eq_true rfl)) dX10_turn_36 ⟨Nat.le_refl _, Nat.le_refl _⟩) hP hD hS hA [4] [0, 1, 2, 3] rfl rfl rfl (by decide) (fun r36 u H locs h hP hD hS => ?_)
      try dsimp only at h
      have hP : va_P G.1 vwCl [caI G a_refusals 7 g_refusals, ceX10 h0 a_now a_kept a_reader a_numbers a_strife a_settled a_selection a_dispute a_trials a_refusals s_isKept, ceX3 a_now s_now_size s_now_heard s_now_mode s_now_cast s_now_figures s_now_voices s_now_attacks s_now_supports, ceX1 a_strife s_strife_hits_13 s_strife_leads_13 s_strife_defeats_13 s_strife_defeaters_13, ceX9 a_settled s_settled_in_13 s_settled_out_13 s_settled_length_13 s_settled_order_13] H := hP
      have hD : va_D A [caI G a_refusals 7 g_refusals, ceX10 h0 a_now a_kept a_reader a_numbers a_strife a_settled a_selection a_dispute a_trials a_refusals s_isKept, ceX3 a_now s_now_size s_now_heard s_now_mode s_now_cast s_now_figures s_now_voices s_now_attacks s_now_supports, ceX1 a_strife s_strife_hits_13 s_strife_leads_13 s_strife_defeats_13 s_strife_defeaters_13, ceX9 a_settled s_settled_in_13 s_settled_out_13 s_settled_length_13 s_settled_order_13] := hD
      exact W.iret (v := r36) hx hb hr (fun t ht hW => ⟨⟨_, ⟨s_strife_hits_13, s_strife_leads_13, s_strife_defeats_13, s_strife_defeaters_13, s_settled_in_13, s_settled_out_13, s_settled_length_13, s_settled_order_13, g_refusals⟩, rfl, h, ⟨by rw [ht]; exact (hP.sub [1, 2, 3, 4, 0] rfl), (hD.sub [1, 2, 3, 4, 0] (by decide) rfl)⟩⟩, hS.F ht⟩) hS.2.2 dX10_turn_39
    · replace h := h.2 c
      refine lv_aload_n hx hb dX10_turn_21 rfl (lv_at hl 0 rfl) ?_
      refine va_get (D := G.1) (ci := 8) (v := .ref a_settled) (C := RX10) (T := TX10) (N := 11) hx hb hts ki_X10 hown hK.1 hP 1 rfl rfl 5 (by decide) kf0 (fun _ h9 => h9) rfl dX10_turn_22 ?_
      refine va_get (D := G.1) (ci := 7) (v := .int s_settled_length_13) (C := RX9) (T := TX9) (N := 4) hx hb hts ki_X9 hown hK.1 hP 4 rfl rfl 2 (by decide) kf1 (fun _ h9 => h9) rfl dX10_turn_25 ?_
      refine lv_goto (tgt := 39) hx hb dX10_turn_28 (by decide) ?_
      exact W.iret (v := s_settled_length_13) hx hb hr (fun t ht hW => ⟨⟨_, ⟨s_strife_hits_13, s_strife_leads_13, s_strife_defeats_13, s_strife_defeaters_13, s_settled_in_13, s_settled_out_13, s_settled_length_13, s_settled_order_13, g_refusals⟩, rfl, h, ⟨by rw [ht]; exact (hP.sub [1, 2, 3, 4, 0] rfl), (hD.sub [1, 2, 3, 4, 0] (by decide) rfl)⟩⟩, hS.F ht⟩) hS.2.2 dX10_turn_39
  · replace h := h.2 c
    refine lv_aload_n hx hb dX10_turn_5 rfl (lv_at hl 0 rfl) ?_
    refine lv_bipush (v := (-4 : Int32)) hx hb dX10_turn_6 kb_m4 ?_
    refine hc_ki (va_runV (As := [.int ((-4 : Int32))]) (rest := []) ⟨hx, hb, hml, hown, hts⟩ (c_X10_refuse l G h0 a_now a_kept a_reader a_numbers a_strife a_settled a_selection a_dispute a_trials a_refusals H.size s_isKept g_refusals ((-4 : Int32)) _ h) (cwV 1 hts gX10_turn_X10_refuse rfl rfl rfl (by decide +kernel) ⟨Nat.le_of_ble_eq_true rfl, Nat.le_of_ble_eq_true rfl⟩) (hc_pV hK hP hD [0, 4] rfl rfl (ci := 8) 0 rfl rfl) rfl rfl hl.1 rfl (lv_room (Nat.le_of_ble_eq_true rfl)) dX10_turn_8 ⟨Nat.le_refl _, Nat.le_refl _⟩) hP hD hS hA [0, 4] [1, 2, 3] rfl rfl rfl (by decide) (fun r8 u H locs h hP hD hS => ?_)
    obtain ⟨g_refusals_8, rfl⟩ : ∃ z, z = u := ⟨_, rfl⟩
    try dsimp only at h
    have hP : va_P G.1 vwCl [ceX3 a_now s_now_size s_now_heard s_now_mode s_now_cast s_now_figures s_now_voices s_now_attacks s_now_supports, ceX1 a_strife s_strife_hits s_strife_leads s_strife_defeats s_strife_defeaters, ceX9 a_settled s_settled_in s_settled_out s_settled_length s_settled_order, ceX10 h0 a_now a_kept a_reader a_numbers a_strife a_settled a_selection a_dispute a_trials a_refusals s_isKept, caI G a_refusals 7 g_refusals_8] H := hP
    have hD : va_D A [ceX3 a_now s_now_size s_now_heard s_now_mode s_now_cast s_now_figures s_now_voices s_now_attacks s_now_supports, ceX1 a_strife s_strife_hits s_strife_leads s_strife_defeats s_strife_defeaters, ceX9 a_settled s_settled_in s_settled_out s_settled_length s_settled_order, ceX10 h0 a_now a_kept a_reader a_numbers a_strife a_settled a_selection a_dispute a_trials a_refusals s_isKept, caI G a_refusals 7 g_refusals_8] := hD
    exact W.iret (v := r8) hx hb hr (fun t ht hW => ⟨⟨_, ⟨s_strife_hits, s_strife_leads, s_strife_defeats, s_strife_defeaters, s_settled_in, s_settled_out, s_settled_length, s_settled_order, g_refusals_8⟩, rfl, h, ⟨by rw [ht]; exact (hP.sub [3, 0, 1, 2, 4] rfl), (hD.sub [3, 0, 1, 2, 4] (by decide) rfl)⟩⟩, hS.F ht⟩) hS.2.2 dX10_turn_11
set_option maxHeartbeats 4000000 in
set_option maxRecDepth 100000 in
theorem c_X10_isSort (l : Launch) (G : hcG) (sz : Nat) (x0 : Int32) (post : Int32 → Prop) (h : wp_X10_isSort post x0) : Met l yX10_isSort wsX10_isSort ({ frames := 0, cells := 0, slots := 0, locals := 0 }) (hcPc G [.int x0] [] sz) (va_Qi (fun (r : Int32) (u : Unit) => post r) (hcB G (va_A [] sz) (fun u : Unit => [])) (va_A [] sz)) 0 0 (va_A [] sz) := by
  refine Met.ofW (cc := cX10_isSort) (maxL := 1) (ret := (some .boolean)) (by decide) rfl ?_
  intro p e s m args below meth c s₁ B hml hv
  obtain ⟨rfl, hsz, hP, hK, hD0⟩ := hv
  have hx := B.exec
  have hb := B.bytes
  have hr := B.returns
  have hts := atoms_spec (ws := wsX10_isSort) B.pre
  have hown : s.vm.findClass RX10 = some m.cls := findClass_of_methodNamed B.named
  have hlocks := B.notSynchronized
  subst hsz
  have hD := hD0.self (sz := s.heap.size)
  generalize hAe : va_A [] s.heap.size = A at hD ⊢
  have hA : ∀ q : Nat, s.heap.size ≤ q → A q := fun q h => by rw [← hAe]; exact Or.inr h
  have hS : va_S A s.heap s.heap [] := va_S.rf
  have hP : va_P G.1 vwCl [] s.heap := hP
  have hl := lv_entry ([.int x0]) (n := 1) (Nat.le_of_ble_eq_true rfl)
  rw [lg_entry_eq]
  generalize (lg_sl ([.int x0]) ++ List.replicate (1 - (lg_sl ([.int x0])).length) Slot.unset).toArray = ls at hl ⊢
  have hl : lv_has ls 1 [(0, .int x0)] := hl
  unfold wp_X10_isSort at h
  refine lv_iload_n hx hb dX10_isSort_0 rfl (lv_at hl 0 rfl) ?_
  refine lv_if_lt (tgt := 14) hx hb dX10_isSort_1 (by decide) (fun c => ?_) (fun c => ?_)
  · replace h := h.1 c
    refine lv_iconst (v := nI 0) hx hb dX10_isSort_14 kc_0 ?_
    exact W.zret (v := nI 0) hx hb hr rfl (fun t ht hW => ⟨⟨_, (), rfl, h, ⟨by rw [ht]; exact hP, hD⟩⟩, hS.F ht⟩) hS.2.2 dX10_isSort_15
  · replace h := h.2 c
    refine lv_iload_n hx hb dX10_isSort_4 rfl (lv_at hl 0 rfl) ?_
    refine lv_bipush (v := nI 6) hx hb dX10_isSort_5 kb_6 ?_
    refine lv_icmp_ge (tgt := 14) hx hb dX10_isSort_7 (by decide) (fun c => ?_) (fun c => ?_)
    · replace h := h.1 c
      refine lv_iconst (v := nI 0) hx hb dX10_isSort_14 kc_0 ?_
      exact W.zret (v := nI 0) hx hb hr rfl (fun t ht hW => ⟨⟨_, (), rfl, h, ⟨by rw [ht]; exact hP, hD⟩⟩, hS.F ht⟩) hS.2.2 dX10_isSort_15
    · replace h := h.2 c
      refine lv_iconst (v := nI 1) hx hb dX10_isSort_10 kc_1 ?_
      refine lv_goto (tgt := 15) hx hb dX10_isSort_11 (by decide) ?_
      exact W.zret (v := nI 1) hx hb hr rfl (fun t ht hW => ⟨⟨_, (), rfl, h, ⟨by rw [ht]; exact hP, hD⟩⟩, hS.F ht⟩) hS.2.2 dX10_isSort_15
set_option maxHeartbeats 4000000 in
set_option maxRecDepth 100000 in
theorem c_X10_sets (l : Launch) (G : hcG) (h0 : Nat) (a_now : Nat) (a_kept : Nat) (a_reader : Nat) (a_numbers : Nat) (a_strife : Nat) (a_settled : Nat) (a_selection : Nat) (a_dispute : Nat) (a_trials : Nat) (a_refusals : Nat) (a_selection_chosen : Nat) (a_selection_marked : Nat) (a_selection_surpassed : Nat) (sz : Nat) (s_isKept : Int32) (s_now_size : Int32) (s_now_heard : Int32) (s_now_mode : Int32) (s_now_cast : Int64) (s_now_figures : Int64) (s_now_voices : Int64) (s_now_attacks : Int64) (s_now_supports : Int64) (s_strife_hits : Int64) (s_strife_leads : Int64) (s_strife_defeats : Int64) (s_strife_defeaters : Int64) (s_selection_heard : Int32) (s_selection_defeats : Int64) (s_selection_defeaters : Int64) (g_refusals : Nat → Int32) (g_selection_chosen : Nat → Int32) (g_selection_marked : Nat → Int32) (g_selection_surpassed : Nat → Int32) (x1 : Int32) (x2 : Int32) (post : Int32 → Int64 → Int64 → Int64 → Int64 → (Nat → Int32) → (Nat → Int32) → (Nat → Int32) → Int32 → Int64 → Int64 → (Nat → Int32) → Prop) (h : wp_X10_sets post s_now_size s_now_heard s_now_mode s_now_cast s_now_figures s_now_attacks s_now_supports s_strife_hits s_strife_leads s_strife_defeats s_strife_defeaters g_selection_chosen g_selection_marked g_selection_surpassed s_selection_heard s_selection_defeats s_selection_defeaters g_refusals x1 x2) : Met l yX10_sets wsX10_sets ({ frames := 6, cells := 0, slots := 0, locals := 137 }) (hcPc G [.ref h0, .int x1, .int x2] [ceX10 h0 a_now a_kept a_reader a_numbers a_strife a_settled a_selection a_dispute a_trials a_refusals s_isKept, ceX3 a_now s_now_size s_now_heard s_now_mode s_now_cast s_now_figures s_now_voices s_now_attacks s_now_supports, ceX1 a_strife s_strife_hits s_strife_leads s_strife_defeats s_strife_defeaters, ceX7 a_selection a_selection_chosen a_selection_marked a_selection_surpassed s_selection_heard s_selection_defeats s_selection_defeaters, caI G a_refusals 7 g_refusals, caZ G a_selection_chosen 256 g_selection_chosen, caZ G a_selection_marked 256 g_selection_marked, caZ G a_selection_surpassed 256 g_selection_surpassed] sz) (va_Qi (fun (r : Int32) (u : Int64 × Int64 × Int64 × Int64 × (Nat → Int32) × (Nat → Int32) × (Nat → Int32) × Int32 × Int64 × Int64 × (Nat → Int32)) => post r u.1 u.2.1 u.2.2.1 u.2.2.2.1 u.2.2.2.2.1 u.2.2.2.2.2.1 u.2.2.2.2.2.2.1 u.2.2.2.2.2.2.2.1 u.2.2.2.2.2.2.2.2.1 u.2.2.2.2.2.2.2.2.2.1 u.2.2.2.2.2.2.2.2.2.2) (hcB G (va_A [ceX10 h0 a_now a_kept a_reader a_numbers a_strife a_settled a_selection a_dispute a_trials a_refusals s_isKept, ceX3 a_now s_now_size s_now_heard s_now_mode s_now_cast s_now_figures s_now_voices s_now_attacks s_now_supports, ceX1 a_strife s_strife_hits s_strife_leads s_strife_defeats s_strife_defeaters, ceX7 a_selection a_selection_chosen a_selection_marked a_selection_surpassed s_selection_heard s_selection_defeats s_selection_defeaters, caI G a_refusals 7 g_refusals, caZ G a_selection_chosen 256 g_selection_chosen, caZ G a_selection_marked 256 g_selection_marked, caZ G a_selection_surpassed 256 g_selection_surpassed] sz) (fun u : Int64 × Int64 × Int64 × Int64 × (Nat → Int32) × (Nat → Int32) × (Nat → Int32) × Int32 × Int64 × Int64 × (Nat → Int32) => [ceX10 h0 a_now a_kept a_reader a_numbers a_strife a_settled a_selection a_dispute a_trials a_refusals s_isKept, ceX3 a_now s_now_size s_now_heard s_now_mode s_now_cast s_now_figures s_now_voices s_now_attacks s_now_supports, ceX1 a_strife u.1 u.2.1 u.2.2.1 u.2.2.2.1, ceX7 a_selection a_selection_chosen a_selection_marked a_selection_surpassed u.2.2.2.2.2.2.2.1 u.2.2.2.2.2.2.2.2.1 u.2.2.2.2.2.2.2.2.2.1, caI G a_refusals 7 u.2.2.2.2.2.2.2.2.2.2, caZ G a_selection_chosen 256 u.2.2.2.2.1, caZ G a_selection_marked 256 u.2.2.2.2.2.1, caZ G a_selection_surpassed 256 u.2.2.2.2.2.2.1])) (va_A [ceX10 h0 a_now a_kept a_reader a_numbers a_strife a_settled a_selection a_dispute a_trials a_refusals s_isKept, ceX3 a_now s_now_size s_now_heard s_now_mode s_now_cast s_now_figures s_now_voices s_now_attacks s_now_supports, ceX1 a_strife s_strife_hits s_strife_leads s_strife_defeats s_strife_defeaters, ceX7 a_selection a_selection_chosen a_selection_marked a_selection_surpassed s_selection_heard s_selection_defeats s_selection_defeaters, caI G a_refusals 7 g_refusals, caZ G a_selection_chosen 256 g_selection_chosen, caZ G a_selection_marked 256 g_selection_marked, caZ G a_selection_surpassed 256 g_selection_surpassed] sz)) 0 0 (va_A [ceX10 h0 a_now a_kept a_reader a_numbers a_strife a_settled a_selection a_dispute a_trials a_refusals s_isKept, ceX3 a_now s_now_size s_now_heard s_now_mode s_now_cast s_now_figures s_now_voices s_now_attacks s_now_supports, ceX1 a_strife s_strife_hits s_strife_leads s_strife_defeats s_strife_defeaters, ceX7 a_selection a_selection_chosen a_selection_marked a_selection_surpassed s_selection_heard s_selection_defeats s_selection_defeaters, caI G a_refusals 7 g_refusals, caZ G a_selection_chosen 256 g_selection_chosen, caZ G a_selection_marked 256 g_selection_marked, caZ G a_selection_surpassed 256 g_selection_surpassed] sz) := by
  refine Met.ofW (cc := cX10_sets) (maxL := 3) (ret := (some .int)) (by decide) rfl ?_
  intro p e s m args below meth c s₁ B hml hv
  obtain ⟨rfl, hsz, hP, hK, hD0⟩ := hv
  have hx := B.exec
  have hb := B.bytes
  have hr := B.returns
  have hts := atoms_spec (ws := wsX10_sets) B.pre
  have hown : s.vm.findClass RX10 = some m.cls := findClass_of_methodNamed B.named
  have hlocks := B.notSynchronized
  subst hsz
  have hD := hD0.self (sz := s.heap.size)
  generalize hAe : va_A [ceX10 h0 a_now a_kept a_reader a_numbers a_strife a_settled a_selection a_dispute a_trials a_refusals s_isKept, ceX3 a_now s_now_size s_now_heard s_now_mode s_now_cast s_now_figures s_now_voices s_now_attacks s_now_supports, ceX1 a_strife s_strife_hits s_strife_leads s_strife_defeats s_strife_defeaters, ceX7 a_selection a_selection_chosen a_selection_marked a_selection_surpassed s_selection_heard s_selection_defeats s_selection_defeaters, caI G a_refusals 7 g_refusals, caZ G a_selection_chosen 256 g_selection_chosen, caZ G a_selection_marked 256 g_selection_marked, caZ G a_selection_surpassed 256 g_selection_surpassed] s.heap.size = A at hD ⊢
  have hA : ∀ q : Nat, s.heap.size ≤ q → A q := fun q h => by rw [← hAe]; exact Or.inr h
  have hS : va_S A s.heap s.heap [] := va_S.rf
  have hP : va_P G.1 vwCl [ceX10 h0 a_now a_kept a_reader a_numbers a_strife a_settled a_selection a_dispute a_trials a_refusals s_isKept, ceX3 a_now s_now_size s_now_heard s_now_mode s_now_cast s_now_figures s_now_voices s_now_attacks s_now_supports, ceX1 a_strife s_strife_hits s_strife_leads s_strife_defeats s_strife_defeaters, ceX7 a_selection a_selection_chosen a_selection_marked a_selection_surpassed s_selection_heard s_selection_defeats s_selection_defeaters, caI G a_refusals 7 g_refusals, caZ G a_selection_chosen 256 g_selection_chosen, caZ G a_selection_marked 256 g_selection_marked, caZ G a_selection_surpassed 256 g_selection_surpassed] s.heap := hP
  have hl := lv_entry ([.ref h0, .int x1, .int x2]) (n := 3) (Nat.le_of_ble_eq_true rfl)
  rw [lg_entry_eq]
  generalize (lg_sl ([.ref h0, .int x1, .int x2]) ++ List.replicate (3 - (lg_sl ([.ref h0, .int x1, .int x2])).length) Slot.unset).toArray = ls at hl ⊢
  have hl : lv_has ls 3 [(0, .ref h0), (1, .int x1), (2, .int x2)] := hl
  have kf0 := hts (.fieldLink RX10 38 "HallOfClaims" "strife" "LHallOfClaims$Defeats;") (List.mem_of_getElem? (i := 1) (by decide +kernel))
  have kf1 := hts (.fieldLink RX10 10 "HallOfClaims" "now" "LHallOfClaims$Hall;") (List.mem_of_getElem? (i := 2) (by decide +kernel))
  have kf2 := hts (.fieldLink RX10 52 "HallOfClaims" "selection" "LHallOfClaims$Sorts;") (List.mem_of_getElem? (i := 3) (by decide +kernel))
  have kf3 := hts (.fieldLink RX10 187 "HallOfClaims$Hall" "heard" "I") (List.mem_of_getElem? (i := 4) (by decide +kernel))
  have ki_X10 : ∀ w ∈ u_ws RX10 TX10 11, w ∈ wsX10_sets := by decide +kernel
  have ki_X3 : ∀ w ∈ u_ws RX3 TX3 8, w ∈ wsX10_sets := by decide +kernel
  unfold wp_X10_sets at h
  refine lv_iload_n hx hb dX10_sets_0 rfl (lv_at hl 1 rfl) ?_
  refine hc_ki (va_runS (As := [.int x1]) (rest := []) ⟨hx, hb, hml, hown, hts⟩ (c_X10_isSort l G H.size x1 _ h) (va_cwS 1 hts gX10_sets_X10_isSort rfl rfl rfl (by decide +kernel) ⟨Nat.le_of_ble_eq_true rfl, Nat.le_of_ble_eq_true rfl⟩) (hc_pS hK hP hD [] rfl rfl) rfl rfl hl.1 rfl (lv_room (Nat.le_of_ble_eq_true rfl)) dX10_sets_1 ⟨Nat.le_refl _, Nat.le_refl _⟩) hP hD hS hA [] [0, 1, 2, 3, 4, 5, 6, 7] rfl rfl rfl (by decide) (fun r1 u H locs h hP hD hS => ?_)
  try dsimp only at h
  have hP : va_P G.1 vwCl [ceX10 h0 a_now a_kept a_reader a_numbers a_strife a_settled a_selection a_dispute a_trials a_refusals s_isKept, ceX3 a_now s_now_size s_now_heard s_now_mode s_now_cast s_now_figures s_now_voices s_now_attacks s_now_supports, ceX1 a_strife s_strife_hits s_strife_leads s_strife_defeats s_strife_defeaters, ceX7 a_selection a_selection_chosen a_selection_marked a_selection_surpassed s_selection_heard s_selection_defeats s_selection_defeaters, caI G a_refusals 7 g_refusals, caZ G a_selection_chosen 256 g_selection_chosen, caZ G a_selection_marked 256 g_selection_marked, caZ G a_selection_surpassed 256 g_selection_surpassed] H := hP
  have hD : va_D A [ceX10 h0 a_now a_kept a_reader a_numbers a_strife a_settled a_selection a_dispute a_trials a_refusals s_isKept, ceX3 a_now s_now_size s_now_heard s_now_mode s_now_cast s_now_figures s_now_voices s_now_attacks s_now_supports, ceX1 a_strife s_strife_hits s_strife_leads s_strife_defeats s_strife_defeaters, ceX7 a_selection a_selection_chosen a_selection_marked a_selection_surpassed s_selection_heard s_selection_defeats s_selection_defeaters, caI G a_refusals 7 g_refusals, caZ G a_selection_chosen 256 g_selection_chosen, caZ G a_selection_marked 256 g_selection_marked, caZ G a_selection_surpassed 256 g_selection_surpassed] := hD
  refine lv_if_ne (tgt := 14) hx hb dX10_sets_4 (by decide) (fun c => ?_) (fun c => ?_)
  · replace h := h.1 c
    refine lv_iload_n hx hb dX10_sets_14 rfl (lv_at hl 2 rfl) ?_
    refine lv_iconst (v := (-1 : Int32)) hx hb dX10_sets_15 kc_m1 ?_
    refine lv_icmp_ge (tgt := 26) hx hb dX10_sets_16 (by decide) (fun c => ?_) (fun c => ?_)
    · replace h := h.1 c
      refine lv_aload_n hx hb dX10_sets_26 rfl (lv_at hl 0 rfl) ?_
      refine va_get (D := G.1) (ci := 8) (v := .ref a_strife) (C := RX10) (T := TX10) (N := 11) hx hb hts ki_X10 hown hK.1 hP 0 rfl rfl 4 (by decide) kf0 (fun _ h9 => h9) rfl dX10_sets_27 ?_
      refine lv_aload_n hx hb dX10_sets_30 rfl (lv_at hl 0 rfl) ?_
      refine va_get (D := G.1) (ci := 8) (v := .ref a_now) (C := RX10) (T := TX10) (N := 11) hx hb hts ki_X10 hown hK.1 hP 0 rfl rfl 0 (by decide) kf1 (fun _ h9 => h9) rfl dX10_sets_31 ?_
      refine hc_kv (va_runV (As := [.ref a_now]) (rest := []) ⟨hx, hb, hml, hown, hts⟩ (c_X1_reckon l G a_strife a_now H.size s_strife_hits s_strife_leads s_strife_defeats s_strife_defeaters s_now_size s_now_heard s_now_mode s_now_cast s_now_figures s_now_voices s_now_attacks s_now_supports _ h) (cwV 1 hts gX10_sets_X1_reckon rfl rfl rfl (by decide +kernel) ⟨Nat.le_of_ble_eq_true rfl, Nat.le_of_ble_eq_true rfl⟩) (hc_pV hK hP hD [2, 1] rfl rfl (ci := 0) 2 rfl rfl) rfl rfl hl.1 rfl (lv_room (Nat.le_of_ble_eq_true rfl)) dX10_sets_34 ⟨Nat.le_refl _, Nat.le_refl _⟩) hP hD hS hA [2, 1] [0, 3, 4, 5, 6, 7] rfl rfl rfl (by decide) (fun u H locs h hP hD hS => ?_)
      obtain ⟨s_strife_hits_34, s_strife_leads_34, s_strife_defeats_34, s_strife_defeaters_34⟩ := u
      try dsimp only at h
      have hP : va_P G.1 vwCl [ceX10 h0 a_now a_kept a_reader a_numbers a_strife a_settled a_selection a_dispute a_trials a_refusals s_isKept, ceX7 a_selection a_selection_chosen a_selection_marked a_selection_surpassed s_selection_heard s_selection_defeats s_selection_defeaters, caI G a_refusals 7 g_refusals, caZ G a_selection_chosen 256 g_selection_chosen, caZ G a_selection_marked 256 g_selection_marked, caZ G a_selection_surpassed 256 g_selection_surpassed, ceX1 a_strife s_strife_hits_34 s_strife_leads_34 s_strife_defeats_34 s_strife_defeaters_34, ceX3 a_now s_now_size s_now_heard s_now_mode s_now_cast s_now_figures s_now_voices s_now_attacks s_now_supports] H := hP
      have hD : va_D A [ceX10 h0 a_now a_kept a_reader a_numbers a_strife a_settled a_selection a_dispute a_trials a_refusals s_isKept, ceX7 a_selection a_selection_chosen a_selection_marked a_selection_surpassed s_selection_heard s_selection_defeats s_selection_defeaters, caI G a_refusals 7 g_refusals, caZ G a_selection_chosen 256 g_selection_chosen, caZ G a_selection_marked 256 g_selection_marked, caZ G a_selection_surpassed 256 g_selection_surpassed, ceX1 a_strife s_strife_hits_34 s_strife_leads_34 s_strife_defeats_34 s_strife_defeaters_34, ceX3 a_now s_now_size s_now_heard s_now_mode s_now_cast s_now_figures s_now_voices s_now_attacks s_now_supports] := hD
      refine lv_aload_n hx hb dX10_sets_37 rfl (lv_at hl 0 rfl) ?_
      refine va_get (D := G.1) (ci := 8) (v := .ref a_selection) (C := RX10) (T := TX10) (N := 11) hx hb hts ki_X10 hown hK.1 hP 0 rfl rfl 6 (by decide) kf2 (fun _ h9 => h9) rfl dX10_sets_38 ?_
      refine lv_iload_n hx hb dX10_sets_41 rfl (lv_at hl 1 rfl) ?_
      refine lv_aload_n hx hb dX10_sets_42 rfl (lv_at hl 0 rfl) ?_
      refine va_get (D := G.1) (ci := 8) (v := .ref a_now) (C := RX10) (T := TX10) (N := 11) hx hb hts ki_X10 hown hK.1 hP 0 rfl rfl 0 (by decide) kf1 (fun _ h9 => h9) rfl dX10_sets_43 ?_
      refine va_get (D := G.1) (ci := 2) (v := .int s_now_heard) (C := RX3) (T := TX3) (N := 8) hx hb hts ki_X3 hown hK.1 hP 7 rfl rfl 1 (by decide) kf3 (fun _ h9 => h9) rfl dX10_sets_46 ?_
      refine lv_aload_n hx hb dX10_sets_49 rfl (lv_at hl 0 rfl) ?_
      refine va_get (D := G.1) (ci := 8) (v := .ref a_strife) (C := RX10) (T := TX10) (N := 11) hx hb hts ki_X10 hown hK.1 hP 0 rfl rfl 4 (by decide) kf0 (fun _ h9 => h9) rfl dX10_sets_50 ?_
      refine hc_kv (va_runV (As := [.int x1, .int s_now_heard, .ref a_strife]) (rest := []) ⟨hx, hb, hml, hown, hts⟩ (c_X7_select l G a_selection a_selection_chosen a_selection_marked a_selection_surpassed a_strife H.size s_selection_heard s_selection_defeats s_selection_defeaters s_strife_hits_34 s_strife_leads_34 s_strife_defeats_34 s_strife_defeaters_34 g_selection_chosen g_selection_marked g_selection_surpassed x1 s_now_heard _ h) (cwV 3 hts gX10_sets_X7_select rfl rfl rfl (by decide +kernel) ⟨Nat.le_of_ble_eq_true rfl, Nat.le_of_ble_eq_true rfl⟩) (hc_pV hK hP hD [1, 6, 3, 4, 5] rfl rfl (ci := 5) 1 rfl rfl) rfl rfl hl.1 rfl (lv_room (Nat.le_of_ble_eq_true rfl)) dX10_sets_53 ⟨Nat.le_refl _, Nat.le_refl _⟩) hP hD hS hA [1, 6, 3, 4, 5] [0, 2, 7] rfl rfl rfl (by decide) (fun u H locs h hP hD hS => ?_)
      obtain ⟨g_selection_chosen_53, g_selection_marked_53, g_selection_surpassed_53, s_selection_heard_53, s_selection_defeats_53, s_selection_defeaters_53⟩ := u
      try dsimp only at h
      have hP : va_P G.1 vwCl [ceX10 h0 a_now a_kept a_reader a_numbers a_strife a_settled a_selection a_dispute a_trials a_refusals s_isKept, caI G a_refusals 7 g_refusals, ceX3 a_now s_now_size s_now_heard s_now_mode s_now_cast s_now_figures s_now_voices s_now_attacks s_now_supports, ceX7 a_selection a_selection_chosen a_selection_marked a_selection_surpassed s_selection_heard_53 s_selection_defeats_53 s_selection_defeaters_53, ceX1 a_strife s_strife_hits_34 s_strife_leads_34 s_strife_defeats_34 s_strife_defeaters_34, caZ G a_selection_chosen 256 g_selection_chosen_53, caZ G a_selection_marked 256 g_selection_marked_53, caZ G a_selection_surpassed 256 g_selection_surpassed_53] H := hP
      have hD : va_D A [ceX10 h0 a_now a_kept a_reader a_numbers a_strife a_settled a_selection a_dispute a_trials a_refusals s_isKept, caI G a_refusals 7 g_refusals, ceX3 a_now s_now_size s_now_heard s_now_mode s_now_cast s_now_figures s_now_voices s_now_attacks s_now_supports, ceX7 a_selection a_selection_chosen a_selection_marked a_selection_surpassed s_selection_heard_53 s_selection_defeats_53 s_selection_defeaters_53, ceX1 a_strife s_strife_hits_34 s_strife_leads_34 s_strife_defeats_34 s_strife_defeaters_34, caZ G a_selection_chosen 256 g_selection_chosen_53, caZ G a_selection_marked 256 g_selection_marked_53, caZ G a_selection_surpassed 256 g_selection_surpassed_53] := hD
      refine lv_iload_n hx hb dX10_sets_56 rfl (lv_at hl 2 rfl) ?_
      refine lv_iconst (v := (-1 : Int32)) hx hb dX10_sets_57 kc_m1 ?_
      refine lv_icmp_ne (tgt := 71) hx hb dX10_sets_58 (by decide) (fun c => ?_) (fun c => ?_)
      · replace h := h.1 c
        refine lv_aload_n hx hb dX10_sets_71 rfl (lv_at hl 0 rfl) ?_
        refine va_get (D := G.1) (ci := 8) (v := .ref a_selection) (C := RX10) (T := TX10) (N := 11) hx hb hts ki_X10 hown hK.1 hP 0 rfl rfl 6 (by decide) kf2 (fun _ h9 => h9) rfl dX10_sets_72 ?_
        refine lv_iload_n hx hb dX10_sets_75 rfl (lv_at hl 2 rfl) ?_
        refine hc_ki (va_runV (As := [.int x2]) (rest := []) ⟨hx, hb, hml, hown, hts⟩ (c_X7_at l G a_selection a_selection_chosen a_selection_marked a_selection_surpassed H.size s_selection_heard_53 s_selection_defeats_53 s_selection_defeaters_53 g_selection_chosen_53 x2 _ h) (cwV 1 hts gX10_sets_X7_at rfl rfl rfl (by decide +kernel) ⟨Nat.le_of_ble_eq_true rfl, Nat.le_of_ble_eq_true rfl⟩) (hc_pV hK hP hD [3, 5] rfl rfl (ci := 5) 3 rfl rfl) rfl rfl hl.1 rfl (lv_room (Nat.le_of_ble_eq_true rfl)) dX10_sets_76 ⟨Nat.le_refl _, Nat.le_refl _⟩) hP hD hS hA [3, 5] [0, 1, 2, 4, 6, 7] rfl rfl rfl (by decide) (fun r76 u H locs h hP hD hS => ?_)
        try dsimp only at h
        have hP : va_P G.1 vwCl [ceX10 h0 a_now a_kept a_reader a_numbers a_strife a_settled a_selection a_dispute a_trials a_refusals s_isKept, caI G a_refusals 7 g_refusals, ceX3 a_now s_now_size s_now_heard s_now_mode s_now_cast s_now_figures s_now_voices s_now_attacks s_now_supports, ceX1 a_strife s_strife_hits_34 s_strife_leads_34 s_strife_defeats_34 s_strife_defeaters_34, caZ G a_selection_marked 256 g_selection_marked_53, caZ G a_selection_surpassed 256 g_selection_surpassed_53, ceX7 a_selection a_selection_chosen a_selection_marked a_selection_surpassed s_selection_heard_53 s_selection_defeats_53 s_selection_defeaters_53, caZ G a_selection_chosen 256 g_selection_chosen_53] H := hP
        have hD : va_D A [ceX10 h0 a_now a_kept a_reader a_numbers a_strife a_settled a_selection a_dispute a_trials a_refusals s_isKept, caI G a_refusals 7 g_refusals, ceX3 a_now s_now_size s_now_heard s_now_mode s_now_cast s_now_figures s_now_voices s_now_attacks s_now_supports, ceX1 a_strife s_strife_hits_34 s_strife_leads_34 s_strife_defeats_34 s_strife_defeaters_34, caZ G a_selection_marked 256 g_selection_marked_53, caZ G a_selection_surpassed 256 g_selection_surpassed_53, ceX7 a_selection a_selection_chosen a_selection_marked a_selection_surpassed s_selection_heard_53 s_selection_defeats_53 s_selection_defeaters_53, caZ G a_selection_chosen 256 g_selection_chosen_53] := hD
        exact W.iret (v := r76) hx hb hr (fun t ht hW => ⟨⟨_, ⟨s_strife_hits_34, s_strife_leads_34, s_strife_defeats_34, s_strife_defeaters_34, g_selection_chosen_53, g_selection_marked_53, g_selection_surpassed_53, s_selection_heard_53, s_selection_defeats_53, s_selection_defeaters_53, g_refusals⟩, rfl, h, ⟨by rw [ht]; exact (hP.sub [0, 2, 3, 6, 1, 7, 4, 5] rfl), (hD.sub [0, 2, 3, 6, 1, 7, 4, 5] (by decide) rfl)⟩⟩, hS.F ht⟩) hS.2.2 dX10_sets_79
      · replace h := h.2 c
        refine lv_aload_n hx hb dX10_sets_61 rfl (lv_at hl 0 rfl) ?_
        refine va_get (D := G.1) (ci := 8) (v := .ref a_selection) (C := RX10) (T := TX10) (N := 11) hx hb hts ki_X10 hown hK.1 hP 0 rfl rfl 6 (by decide) kf2 (fun _ h9 => h9) rfl dX10_sets_62 ?_
        refine hc_ki (va_runV (As := []) (rest := []) ⟨hx, hb, hml, hown, hts⟩ (c_X7_size l G a_selection a_selection_chosen a_selection_marked a_selection_surpassed H.size s_selection_heard_53 s_selection_defeats_53 s_selection_defeaters_53 g_selection_chosen_53 _ h) (cwV 0 hts gX10_sets_X7_size rfl rfl rfl (by decide +kernel) ⟨Nat.le_of_ble_eq_true rfl, Nat.le_of_ble_eq_true rfl⟩) (hc_pV hK hP hD [3, 5] rfl rfl (ci := 5) 3 rfl rfl) rfl rfl hl.1 rfl (lv_room (Nat.le_of_ble_eq_true rfl)) dX10_sets_65 ⟨Nat.le_refl _, Nat.le_refl _⟩) hP hD hS hA [3, 5] [0, 1, 2, 4, 6, 7] rfl rfl rfl (by decide) (fun r65 u H locs h hP hD hS => ?_)
        try dsimp only at h
        have hP : va_P G.1 vwCl [ceX10 h0 a_now a_kept a_reader a_numbers a_strife a_settled a_selection a_dispute a_trials a_refusals s_isKept, caI G a_refusals 7 g_refusals, ceX3 a_now s_now_size s_now_heard s_now_mode s_now_cast s_now_figures s_now_voices s_now_attacks s_now_supports, ceX1 a_strife s_strife_hits_34 s_strife_leads_34 s_strife_defeats_34 s_strife_defeaters_34, caZ G a_selection_marked 256 g_selection_marked_53, caZ G a_selection_surpassed 256 g_selection_surpassed_53, ceX7 a_selection a_selection_chosen a_selection_marked a_selection_surpassed s_selection_heard_53 s_selection_defeats_53 s_selection_defeaters_53, caZ G a_selection_chosen 256 g_selection_chosen_53] H := hP
        have hD : va_D A [ceX10 h0 a_now a_kept a_reader a_numbers a_strife a_settled a_selection a_dispute a_trials a_refusals s_isKept, caI G a_refusals 7 g_refusals, ceX3 a_now s_now_size s_now_heard s_now_mode s_now_cast s_now_figures s_now_voices s_now_attacks s_now_supports, ceX1 a_strife s_strife_hits_34 s_strife_leads_34 s_strife_defeats_34 s_strife_defeaters_34, caZ G a_selection_marked 256 g_selection_marked_53, caZ G a_selection_surpassed 256 g_selection_surpassed_53, ceX7 a_selection a_selection_chosen a_selection_marked a_selection_surpassed s_selection_heard_53 s_selection_defeats_53 s_selection_defeaters_53, caZ G a_selection_chosen 256 g_selection_chosen_53] := hD
        refine lv_goto (tgt := 79) hx hb dX10_sets_68 (by decide) ?_
        exact W.iret (v := r65) hx hb hr (fun t ht hW => ⟨⟨_, ⟨s_strife_hits_34, s_strife_leads_34, s_strife_defeats_34, s_strife_defeaters_34, g_selection_chosen_53, g_selection_marked_53, g_selection_surpassed_53, s_selection_heard_53, s_selection_defeats_53, s_selection_defeaters_53, g_refusals⟩, rfl, h, ⟨by rw [ht]; exact (hP.sub [0, 2, 3, 6, 1, 7, 4, 5] rfl), (hD.sub [0, 2, 3, 6, 1, 7, 4, 5] (by decide) rfl)⟩⟩, hS.F ht⟩) hS.2.2 dX10_sets_79
    · replace h := h.2 c
      refine lv_aload_n hx hb dX10_sets_19 rfl (lv_at hl 0 rfl) ?_
      refine lv_bipush (v := (-4 : Int32)) hx hb dX10_sets_20 kb_m4 ?_
      refine hc_ki (va_runV (As := [.int ((-4 : Int32))]) (rest := []) ⟨hx, hb, hml, hown, hts⟩ (c_X10_refuse l G h0 a_now a_kept a_reader a_numbers a_strife a_settled a_selection a_dispute a_trials a_refusals H.size s_isKept g_refusals ((-4 : Int32)) _ h) (cwV 1 hts gX10_sets_X10_refuse rfl rfl rfl (by decide +kernel) ⟨Nat.le_of_ble_eq_true rfl, Nat.le_of_ble_eq_true rfl⟩) (hc_pV hK hP hD [0, 4] rfl rfl (ci := 8) 0 rfl rfl) rfl rfl hl.1 rfl (lv_room (Nat.le_of_ble_eq_true rfl)) dX10_sets_22 ⟨Nat.le_refl _, Nat.le_refl _⟩) hP hD hS hA [0, 4] [1, 2, 3, 5, 6, 7] rfl rfl rfl (by decide) (fun r22 u H locs h hP hD hS => ?_)
      obtain ⟨g_refusals_22, rfl⟩ : ∃ z, z = u := ⟨_, rfl⟩
      try dsimp only at h
      have hP : va_P G.1 vwCl [ceX3 a_now s_now_size s_now_heard s_now_mode s_now_cast s_now_figures s_now_voices s_now_attacks s_now_supports, ceX1 a_strife s_strife_hits s_strife_leads s_strife_defeats s_strife_defeaters, ceX7 a_selection a_selection_chosen a_selection_marked a_selection_surpassed s_selection_heard s_selection_defeats s_selection_defeaters, caZ G a_selection_chosen 256 g_selection_chosen, caZ G a_selection_marked 256 g_selection_marked, caZ G a_selection_surpassed 256 g_selection_surpassed, ceX10 h0 a_now a_kept a_reader a_numbers a_strife a_settled a_selection a_dispute a_trials a_refusals s_isKept, caI G a_refusals 7 g_refusals_22] H := hP
      have hD : va_D A [ceX3 a_now s_now_size s_now_heard s_now_mode s_now_cast s_now_figures s_now_voices s_now_attacks s_now_supports, ceX1 a_strife s_strife_hits s_strife_leads s_strife_defeats s_strife_defeaters, ceX7 a_selection a_selection_chosen a_selection_marked a_selection_surpassed s_selection_heard s_selection_defeats s_selection_defeaters, caZ G a_selection_chosen 256 g_selection_chosen, caZ G a_selection_marked 256 g_selection_marked, caZ G a_selection_surpassed 256 g_selection_surpassed, ceX10 h0 a_now a_kept a_reader a_numbers a_strife a_settled a_selection a_dispute a_trials a_refusals s_isKept, caI G a_refusals 7 g_refusals_22] := hD
      exact W.iret (v := r22) hx hb hr (fun t ht hW => ⟨⟨_, ⟨s_strife_hits, s_strife_leads, s_strife_defeats, s_strife_defeaters, g_selection_chosen, g_selection_marked, g_selection_surpassed, s_selection_heard, s_selection_defeats, s_selection_defeaters, g_refusals_22⟩, rfl, h, ⟨by rw [ht]; exact (hP.sub [6, 0, 1, 2, 7, 3, 4, 5] rfl), (hD.sub [6, 0, 1, 2, 7, 3, 4, 5] (by decide) rfl)⟩⟩, hS.F ht⟩) hS.2.2 dX10_sets_25
  · replace h := h.2 c
    refine lv_aload_n hx hb dX10_sets_7 rfl (lv_at hl 0 rfl) ?_
    refine lv_bipush (v := (-2 : Int32)) hx hb dX10_sets_8 kb_m2 ?_
    refine hc_ki (va_runV (As := [.int ((-2 : Int32))]) (rest := []) ⟨hx, hb, hml, hown, hts⟩ (c_X10_refuse l G h0 a_now a_kept a_reader a_numbers a_strife a_settled a_selection a_dispute a_trials a_refusals H.size s_isKept g_refusals ((-2 : Int32)) _ h) (cwV 1 hts gX10_sets_X10_refuse rfl rfl rfl (by decide +kernel) ⟨Nat.le_of_ble_eq_true rfl, Nat.le_of_ble_eq_true rfl⟩) (hc_pV hK hP hD [0, 4] rfl rfl (ci := 8) 0 rfl rfl) rfl rfl hl.1 rfl (lv_room (Nat.le_of_ble_eq_true rfl)) dX10_sets_10 ⟨Nat.le_refl _, Nat.le_refl _⟩) hP hD hS hA [0, 4] [1, 2, 3, 5, 6, 7] rfl rfl rfl (by decide) (fun r10 u H locs h hP hD hS => ?_)
    obtain ⟨g_refusals_10, rfl⟩ : ∃ z, z = u := ⟨_, rfl⟩
    try dsimp only at h
    have hP : va_P G.1 vwCl [ceX3 a_now s_now_size s_now_heard s_now_mode s_now_cast s_now_figures s_now_voices s_now_attacks s_now_supports, ceX1 a_strife s_strife_hits s_strife_leads s_strife_defeats s_strife_defeaters, ceX7 a_selection a_selection_chosen a_selection_marked a_selection_surpassed s_selection_heard s_selection_defeats s_selection_defeaters, caZ G a_selection_chosen 256 g_selection_chosen, caZ G a_selection_marked 256 g_selection_marked, caZ G a_selection_surpassed 256 g_selection_surpassed, ceX10 h0 a_now a_kept a_reader a_numbers a_strife a_settled a_selection a_dispute a_trials a_refusals s_isKept, caI G a_refusals 7 g_refusals_10] H := hP
    have hD : va_D A [ceX3 a_now s_now_size s_now_heard s_now_mode s_now_cast s_now_figures s_now_voices s_now_attacks s_now_supports, ceX1 a_strife s_strife_hits s_strife_leads s_strife_defeats s_strife_defeaters, ceX7 a_selection a_selection_chosen a_selection_marked a_selection_surpassed s_selection_heard s_selection_defeats s_selection_defeaters, caZ G a_selection_chosen 256 g_selection_chosen, caZ G a_selection_marked 256 g_selection_marked, caZ G a_selection_surpassed 256 g_selection_surpassed, ceX10 h0 a_now a_kept a_reader a_numbers a_strife a_settled a_selection a_dispute a_trials a_refusals s_isKept, caI G a_refusals 7 g_refusals_10] := hD
    exact W.iret (v := r10) hx hb hr (fun t ht hW => ⟨⟨_, ⟨s_strife_hits, s_strife_leads, s_strife_defeats, s_strife_defeaters, g_selection_chosen, g_selection_marked, g_selection_surpassed, s_selection_heard, s_selection_defeats, s_selection_defeaters, g_refusals_10⟩, rfl, h, ⟨by rw [ht]; exact (hP.sub [6, 0, 1, 2, 7, 3, 4, 5] rfl), (hD.sub [6, 0, 1, 2, 7, 3, 4, 5] (by decide) rfl)⟩⟩, hS.F ht⟩) hS.2.2 dX10_sets_13
set_option maxHeartbeats 4000000 in
set_option maxRecDepth 100000 in
theorem c_X10_isFirstOrSecond (l : Launch) (G : hcG) (sz : Nat) (x0 : Int32) (post : Int32 → Prop) (h : wp_X10_isFirstOrSecond post x0) : Met l yX10_isFirstOrSecond wsX10_isFirstOrSecond ({ frames := 0, cells := 0, slots := 0, locals := 0 }) (hcPc G [.int x0] [] sz) (va_Qi (fun (r : Int32) (u : Unit) => post r) (hcB G (va_A [] sz) (fun u : Unit => [])) (va_A [] sz)) 0 0 (va_A [] sz) := by
  refine Met.ofW (cc := cX10_isFirstOrSecond) (maxL := 1) (ret := (some .boolean)) (by decide) rfl ?_
  intro p e s m args below meth c s₁ B hml hv
  obtain ⟨rfl, hsz, hP, hK, hD0⟩ := hv
  have hx := B.exec
  have hb := B.bytes
  have hr := B.returns
  have hts := atoms_spec (ws := wsX10_isFirstOrSecond) B.pre
  have hown : s.vm.findClass RX10 = some m.cls := findClass_of_methodNamed B.named
  have hlocks := B.notSynchronized
  subst hsz
  have hD := hD0.self (sz := s.heap.size)
  generalize hAe : va_A [] s.heap.size = A at hD ⊢
  have hA : ∀ q : Nat, s.heap.size ≤ q → A q := fun q h => by rw [← hAe]; exact Or.inr h
  have hS : va_S A s.heap s.heap [] := va_S.rf
  have hP : va_P G.1 vwCl [] s.heap := hP
  have hl := lv_entry ([.int x0]) (n := 1) (Nat.le_of_ble_eq_true rfl)
  rw [lg_entry_eq]
  generalize (lg_sl ([.int x0]) ++ List.replicate (1 - (lg_sl ([.int x0])).length) Slot.unset).toArray = ls at hl ⊢
  have hl : lv_has ls 1 [(0, .int x0)] := hl
  unfold wp_X10_isFirstOrSecond at h
  refine lv_iload_n hx hb dX10_isFirstOrSecond_0 rfl (lv_at hl 0 rfl) ?_
  refine lv_if_eq (tgt := 9) hx hb dX10_isFirstOrSecond_1 (by decide) (fun c => ?_) (fun c => ?_)
  · replace h := h.1 c
    refine lv_iconst (v := nI 1) hx hb dX10_isFirstOrSecond_9 kc_1 ?_
    refine lv_goto (tgt := 14) hx hb dX10_isFirstOrSecond_10 (by decide) ?_
    exact W.zret (v := nI 1) hx hb hr rfl (fun t ht hW => ⟨⟨_, (), rfl, h, ⟨by rw [ht]; exact hP, hD⟩⟩, hS.F ht⟩) hS.2.2 dX10_isFirstOrSecond_14
  · replace h := h.2 c
    refine lv_iload_n hx hb dX10_isFirstOrSecond_4 rfl (lv_at hl 0 rfl) ?_
    refine lv_iconst (v := nI 1) hx hb dX10_isFirstOrSecond_5 kc_1 ?_
    refine lv_icmp_ne (tgt := 13) hx hb dX10_isFirstOrSecond_6 (by decide) (fun c => ?_) (fun c => ?_)
    · replace h := h.1 c
      refine lv_iconst (v := nI 0) hx hb dX10_isFirstOrSecond_13 kc_0 ?_
      exact W.zret (v := nI 0) hx hb hr rfl (fun t ht hW => ⟨⟨_, (), rfl, h, ⟨by rw [ht]; exact hP, hD⟩⟩, hS.F ht⟩) hS.2.2 dX10_isFirstOrSecond_14
    · replace h := h.2 c
      refine lv_iconst (v := nI 1) hx hb dX10_isFirstOrSecond_9 kc_1 ?_
      refine lv_goto (tgt := 14) hx hb dX10_isFirstOrSecond_10 (by decide) ?_
      exact W.zret (v := nI 1) hx hb hr rfl (fun t ht hW => ⟨⟨_, (), rfl, h, ⟨by rw [ht]; exact hP, hD⟩⟩, hS.F ht⟩) hS.2.2 dX10_isFirstOrSecond_14
