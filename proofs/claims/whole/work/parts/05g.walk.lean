set_option maxHeartbeats 4000000 in
set_option maxRecDepth 100000 in
theorem c_X10_whatIs (l : Launch) (G : hcG) (h0 : Nat) (a_now : Nat) (a_kept : Nat) (a_reader : Nat) (a_numbers : Nat) (a_strife : Nat) (a_settled : Nat) (a_selection : Nat) (a_dispute : Nat) (a_trials : Nat) (a_refusals : Nat) (a_numbers_numbers : Nat) (a_trials_draft : Nat) (a_trials_strife : Nat) (a_trials_settled : Nat) (sz : Nat) (s_isKept : Int32) (s_now_size : Int32) (s_now_heard : Int32) (s_now_mode : Int32) (s_now_cast : Int64) (s_now_figures : Int64) (s_now_voices : Int64) (s_now_attacks : Int64) (s_now_supports : Int64) (s_numbers_length : Int32) (g_refusals : Nat → Int32) (g_numbers_numbers : Nat → Int32) (s_trials_draft_size : Int32) (s_trials_draft_heard : Int32) (s_trials_draft_mode : Int32) (s_trials_draft_cast : Int64) (s_trials_draft_figures : Int64) (s_trials_draft_voices : Int64) (s_trials_draft_attacks : Int64) (s_trials_draft_supports : Int64) (s_trials_strife_hits : Int64) (s_trials_strife_leads : Int64) (s_trials_strife_defeats : Int64) (s_trials_strife_defeaters : Int64) (s_trials_settled_in : Int32) (s_trials_settled_out : Int32) (s_trials_settled_length : Int32) (s_trials_settled_order : Int64) (x1 : Int32) (x2 : Int32) (post : Int32 → Int32 → Int32 → Int32 → Int64 → Int64 → Int64 → Int64 → Int64 → Int64 → Int64 → Int64 → Int64 → Int32 → Int32 → Int32 → Int64 → (Nat → Int32) → Prop) (h : wp_X10_whatIs post s_now_size s_now_heard s_now_mode s_now_cast s_now_figures s_now_voices s_now_attacks s_now_supports g_numbers_numbers s_numbers_length s_trials_draft_size s_trials_draft_heard s_trials_draft_mode s_trials_draft_cast s_trials_draft_figures s_trials_draft_voices s_trials_draft_attacks s_trials_draft_supports s_trials_strife_hits s_trials_strife_leads s_trials_strife_defeats s_trials_strife_defeaters s_trials_settled_in s_trials_settled_out s_trials_settled_length s_trials_settled_order g_refusals x1 x2) : Met l yX10_whatIs wsX10_whatIs ({ frames := 6, cells := 0, slots := 0, locals := 141 }) (hcPc G [.ref h0, .int x1, .int x2] [ceX10 h0 a_now a_kept a_reader a_numbers a_strife a_settled a_selection a_dispute a_trials a_refusals s_isKept, ceX3 a_now s_now_size s_now_heard s_now_mode s_now_cast s_now_figures s_now_voices s_now_attacks s_now_supports, ceX6 a_numbers a_numbers_numbers s_numbers_length, ceX8 a_trials a_trials_draft a_trials_strife a_trials_settled, caI G a_refusals 7 g_refusals, caI G a_numbers_numbers 12 g_numbers_numbers, ceX3 a_trials_draft s_trials_draft_size s_trials_draft_heard s_trials_draft_mode s_trials_draft_cast s_trials_draft_figures s_trials_draft_voices s_trials_draft_attacks s_trials_draft_supports, ceX1 a_trials_strife s_trials_strife_hits s_trials_strife_leads s_trials_strife_defeats s_trials_strife_defeaters, ceX9 a_trials_settled s_trials_settled_in s_trials_settled_out s_trials_settled_length s_trials_settled_order] sz) (va_Qi (fun (r : Int32) (u : Int32 × Int32 × Int32 × Int64 × Int64 × Int64 × Int64 × Int64 × Int64 × Int64 × Int64 × Int64 × Int32 × Int32 × Int32 × Int64 × (Nat → Int32)) => post r u.1 u.2.1 u.2.2.1 u.2.2.2.1 u.2.2.2.2.1 u.2.2.2.2.2.1 u.2.2.2.2.2.2.1 u.2.2.2.2.2.2.2.1 u.2.2.2.2.2.2.2.2.1 u.2.2.2.2.2.2.2.2.2.1 u.2.2.2.2.2.2.2.2.2.2.1 u.2.2.2.2.2.2.2.2.2.2.2.1 u.2.2.2.2.2.2.2.2.2.2.2.2.1 u.2.2.2.2.2.2.2.2.2.2.2.2.2.1 u.2.2.2.2.2.2.2.2.2.2.2.2.2.2.1 u.2.2.2.2.2.2.2.2.2.2.2.2.2.2.2.1 u.2.2.2.2.2.2.2.2.2.2.2.2.2.2.2.2) (hcB G (va_A [ceX10 h0 a_now a_kept a_reader a_numbers a_strife a_settled a_selection a_dispute a_trials a_refusals s_isKept, ceX3 a_now s_now_size s_now_heard s_now_mode s_now_cast s_now_figures s_now_voices s_now_attacks s_now_supports, ceX6 a_numbers a_numbers_numbers s_numbers_length, ceX8 a_trials a_trials_draft a_trials_strife a_trials_settled, caI G a_refusals 7 g_refusals, caI G a_numbers_numbers 12 g_numbers_numbers, ceX3 a_trials_draft s_trials_draft_size s_trials_draft_heard s_trials_draft_mode s_trials_draft_cast s_trials_draft_figures s_trials_draft_voices s_trials_draft_attacks s_trials_draft_supports, ceX1 a_trials_strife s_trials_strife_hits s_trials_strife_leads s_trials_strife_defeats s_trials_strife_defeaters, ceX9 a_trials_settled s_trials_settled_in s_trials_settled_out s_trials_settled_length s_trials_settled_order] sz) (fun u : Int32 × Int32 × Int32 × Int64 × Int64 × Int64 × Int64 × Int64 × Int64 × Int64 × Int64 × Int64 × Int32 × Int32 × Int32 × Int64 × (Nat → Int32) => [ceX10 h0 a_now a_kept a_reader a_numbers a_strife a_settled a_selection a_dispute a_trials a_refusals s_isKept, ceX3 a_now s_now_size s_now_heard s_now_mode s_now_cast s_now_figures s_now_voices s_now_attacks s_now_supports, ceX6 a_numbers a_numbers_numbers s_numbers_length, ceX8 a_trials a_trials_draft a_trials_strife a_trials_settled, caI G a_refusals 7 u.2.2.2.2.2.2.2.2.2.2.2.2.2.2.2.2, caI G a_numbers_numbers 12 g_numbers_numbers, ceX3 a_trials_draft u.1 u.2.1 u.2.2.1 u.2.2.2.1 u.2.2.2.2.1 u.2.2.2.2.2.1 u.2.2.2.2.2.2.1 u.2.2.2.2.2.2.2.1, ceX1 a_trials_strife u.2.2.2.2.2.2.2.2.1 u.2.2.2.2.2.2.2.2.2.1 u.2.2.2.2.2.2.2.2.2.2.1 u.2.2.2.2.2.2.2.2.2.2.2.1, ceX9 a_trials_settled u.2.2.2.2.2.2.2.2.2.2.2.2.1 u.2.2.2.2.2.2.2.2.2.2.2.2.2.1 u.2.2.2.2.2.2.2.2.2.2.2.2.2.2.1 u.2.2.2.2.2.2.2.2.2.2.2.2.2.2.2.1])) (va_A [ceX10 h0 a_now a_kept a_reader a_numbers a_strife a_settled a_selection a_dispute a_trials a_refusals s_isKept, ceX3 a_now s_now_size s_now_heard s_now_mode s_now_cast s_now_figures s_now_voices s_now_attacks s_now_supports, ceX6 a_numbers a_numbers_numbers s_numbers_length, ceX8 a_trials a_trials_draft a_trials_strife a_trials_settled, caI G a_refusals 7 g_refusals, caI G a_numbers_numbers 12 g_numbers_numbers, ceX3 a_trials_draft s_trials_draft_size s_trials_draft_heard s_trials_draft_mode s_trials_draft_cast s_trials_draft_figures s_trials_draft_voices s_trials_draft_attacks s_trials_draft_supports, ceX1 a_trials_strife s_trials_strife_hits s_trials_strife_leads s_trials_strife_defeats s_trials_strife_defeaters, ceX9 a_trials_settled s_trials_settled_in s_trials_settled_out s_trials_settled_length s_trials_settled_order] sz)) 0 0 (va_A [ceX10 h0 a_now a_kept a_reader a_numbers a_strife a_settled a_selection a_dispute a_trials a_refusals s_isKept, ceX3 a_now s_now_size s_now_heard s_now_mode s_now_cast s_now_figures s_now_voices s_now_attacks s_now_supports, ceX6 a_numbers a_numbers_numbers s_numbers_length, ceX8 a_trials a_trials_draft a_trials_strife a_trials_settled, caI G a_refusals 7 g_refusals, caI G a_numbers_numbers 12 g_numbers_numbers, ceX3 a_trials_draft s_trials_draft_size s_trials_draft_heard s_trials_draft_mode s_trials_draft_cast s_trials_draft_figures s_trials_draft_voices s_trials_draft_attacks s_trials_draft_supports, ceX1 a_trials_strife s_trials_strife_hits s_trials_strife_leads s_trials_strife_defeats s_trials_strife_defeaters, ceX9 a_trials_settled s_trials_settled_in s_trials_settled_out s_trials_settled_length s_trials_settled_order] sz) := by
  refine Met.ofW (cc := cX10_whatIs) (maxL := 3) (ret := (some .int)) (by decide) rfl ?_
  intro p e s m args below meth c s₁ B hml hv
  obtain ⟨rfl, hsz, hP, hK, hD0⟩ := hv
  have hx := B.exec
  have hb := B.bytes
  have hr := B.returns
  have hts := atoms_spec (ws := wsX10_whatIs) B.pre
  have hown : s.vm.findClass RX10 = some m.cls := findClass_of_methodNamed B.named
  have hlocks := B.notSynchronized
  subst hsz
  have hD := hD0.self (sz := s.heap.size)
  generalize hAe : va_A [ceX10 h0 a_now a_kept a_reader a_numbers a_strife a_settled a_selection a_dispute a_trials a_refusals s_isKept, ceX3 a_now s_now_size s_now_heard s_now_mode s_now_cast s_now_figures s_now_voices s_now_attacks s_now_supports, ceX6 a_numbers a_numbers_numbers s_numbers_length, ceX8 a_trials a_trials_draft a_trials_strife a_trials_settled, caI G a_refusals 7 g_refusals, caI G a_numbers_numbers 12 g_numbers_numbers, ceX3 a_trials_draft s_trials_draft_size s_trials_draft_heard s_trials_draft_mode s_trials_draft_cast s_trials_draft_figures s_trials_draft_voices s_trials_draft_attacks s_trials_draft_supports, ceX1 a_trials_strife s_trials_strife_hits s_trials_strife_leads s_trials_strife_defeats s_trials_strife_defeaters, ceX9 a_trials_settled s_trials_settled_in s_trials_settled_out s_trials_settled_length s_trials_settled_order] s.heap.size = A at hD ⊢
  have hA : ∀ q : Nat, s.heap.size ≤ q → A q := fun q h => by rw [← hAe]; exact Or.inr h
  have hS : va_S A s.heap s.heap [] := va_S.rf
  have hP : va_P G.1 vwCl [ceX10 h0 a_now a_kept a_reader a_numbers a_strife a_settled a_selection a_dispute a_trials a_refusals s_isKept, ceX3 a_now s_now_size s_now_heard s_now_mode s_now_cast s_now_figures s_now_voices s_now_attacks s_now_supports, ceX6 a_numbers a_numbers_numbers s_numbers_length, ceX8 a_trials a_trials_draft a_trials_strife a_trials_settled, caI G a_refusals 7 g_refusals, caI G a_numbers_numbers 12 g_numbers_numbers, ceX3 a_trials_draft s_trials_draft_size s_trials_draft_heard s_trials_draft_mode s_trials_draft_cast s_trials_draft_figures s_trials_draft_voices s_trials_draft_attacks s_trials_draft_supports, ceX1 a_trials_strife s_trials_strife_hits s_trials_strife_leads s_trials_strife_defeats s_trials_strife_defeaters, ceX9 a_trials_settled s_trials_settled_in s_trials_settled_out s_trials_settled_length s_trials_settled_order] s.heap := hP
  have hl := lv_entry ([.ref h0, .int x1, .int x2]) (n := 3) (Nat.le_of_ble_eq_true rfl)
  rw [lg_entry_eq]
  generalize (lg_sl ([.ref h0, .int x1, .int x2]) ++ List.replicate (3 - (lg_sl ([.ref h0, .int x1, .int x2])).length) Slot.unset).toArray = ls at hl ⊢
  have hl : lv_has ls 3 [(0, .ref h0), (1, .int x1), (2, .int x2)] := hl
  have kf0 := hts (.fieldLink RX10 10 "HallOfClaims" "now" "LHallOfClaims$Hall;") (List.mem_of_getElem? (i := 1) (by decide +kernel))
  have kf1 := hts (.fieldLink RX10 66 "HallOfClaims" "trials" "LHallOfClaims$Trials;") (List.mem_of_getElem? (i := 2) (by decide +kernel))
  have kf2 := hts (.fieldLink RX10 31 "HallOfClaims" "numbers" "LHallOfClaims$Row;") (List.mem_of_getElem? (i := 3) (by decide +kernel))
  have ki_X10 : ∀ w ∈ u_ws RX10 TX10 11, w ∈ wsX10_whatIs := by decide +kernel
  unfold wp_X10_whatIs at h
  refine lv_aload_n hx hb dX10_whatIs_0 rfl (lv_at hl 0 rfl) ?_
  refine va_get (D := G.1) (ci := 8) (v := .ref a_now) (C := RX10) (T := TX10) (N := 11) hx hb hts ki_X10 hown hK.1 hP 0 rfl rfl 0 (by decide) kf0 (fun _ h9 => h9) rfl dX10_whatIs_1 ?_
  refine lv_iload_n hx hb dX10_whatIs_4 rfl (lv_at hl 1 rfl) ?_
  refine hc_ki (va_runV (As := [.int x1]) (rest := []) ⟨hx, hb, hml, hown, hts⟩ (c_X3_knows l G a_now H.size s_now_size s_now_heard s_now_mode s_now_cast s_now_figures s_now_voices s_now_attacks s_now_supports x1 _ h) (cwV 1 hts gX10_whatIs_X3_knows rfl rfl rfl (by decide +kernel) ⟨Nat.le_of_ble_eq_true rfl, Nat.le_of_ble_eq_true rfl⟩) (hc_pV hK hP hD [1] rfl rfl (ci := 2) 1 rfl rfl) rfl rfl hl.1 rfl (lv_room (Nat.le_of_ble_eq_true rfl)) dX10_whatIs_5 ⟨Nat.le_refl _, Nat.le_refl _⟩) hP hD hS hA [1] [0, 2, 3, 4, 5, 6, 7, 8] rfl rfl rfl (by decide) (fun r5 u H locs h hP hD hS => ?_)
  try dsimp only at h
  have hP : va_P G.1 vwCl [ceX10 h0 a_now a_kept a_reader a_numbers a_strife a_settled a_selection a_dispute a_trials a_refusals s_isKept, ceX6 a_numbers a_numbers_numbers s_numbers_length, ceX8 a_trials a_trials_draft a_trials_strife a_trials_settled, caI G a_refusals 7 g_refusals, caI G a_numbers_numbers 12 g_numbers_numbers, ceX3 a_trials_draft s_trials_draft_size s_trials_draft_heard s_trials_draft_mode s_trials_draft_cast s_trials_draft_figures s_trials_draft_voices s_trials_draft_attacks s_trials_draft_supports, ceX1 a_trials_strife s_trials_strife_hits s_trials_strife_leads s_trials_strife_defeats s_trials_strife_defeaters, ceX9 a_trials_settled s_trials_settled_in s_trials_settled_out s_trials_settled_length s_trials_settled_order, ceX3 a_now s_now_size s_now_heard s_now_mode s_now_cast s_now_figures s_now_voices s_now_attacks s_now_supports] H := hP
  have hD : va_D A [ceX10 h0 a_now a_kept a_reader a_numbers a_strife a_settled a_selection a_dispute a_trials a_refusals s_isKept, ceX6 a_numbers a_numbers_numbers s_numbers_length, ceX8 a_trials a_trials_draft a_trials_strife a_trials_settled, caI G a_refusals 7 g_refusals, caI G a_numbers_numbers 12 g_numbers_numbers, ceX3 a_trials_draft s_trials_draft_size s_trials_draft_heard s_trials_draft_mode s_trials_draft_cast s_trials_draft_figures s_trials_draft_voices s_trials_draft_attacks s_trials_draft_supports, ceX1 a_trials_strife s_trials_strife_hits s_trials_strife_leads s_trials_strife_defeats s_trials_strife_defeaters, ceX9 a_trials_settled s_trials_settled_in s_trials_settled_out s_trials_settled_length s_trials_settled_order, ceX3 a_now s_now_size s_now_heard s_now_mode s_now_cast s_now_figures s_now_voices s_now_attacks s_now_supports] := hD
  refine lv_if_ne (tgt := 17) hx hb dX10_whatIs_8 (by decide) (fun c => ?_) (fun c => ?_)
  · replace h := h.1 c
    refine lv_iload_n hx hb dX10_whatIs_17 rfl (lv_at hl 2 rfl) ?_
    refine hc_ki (va_runS (As := [.int x2]) (rest := []) ⟨hx, hb, hml, hown, hts⟩ (c_X10_isFirstOrSecond l G H.size x2 _ h) (va_cwS 1 hts gX10_whatIs_X10_isFirstOrSecond rfl rfl rfl (by decide +kernel) ⟨Nat.le_of_ble_eq_true rfl, Nat.le_of_ble_eq_true rfl⟩) (hc_pS hK hP hD [] rfl rfl) rfl rfl hl.1 rfl (lv_room (Nat.le_of_ble_eq_true rfl)) dX10_whatIs_18 ⟨Nat.le_refl _, Nat.le_refl _⟩) hP hD hS hA [] [0, 1, 2, 3, 4, 5, 6, 7, 8] rfl rfl rfl (by decide) (fun r18 u H locs h hP hD hS => ?_)
    try dsimp only at h
    have hP : va_P G.1 vwCl [ceX10 h0 a_now a_kept a_reader a_numbers a_strife a_settled a_selection a_dispute a_trials a_refusals s_isKept, ceX6 a_numbers a_numbers_numbers s_numbers_length, ceX8 a_trials a_trials_draft a_trials_strife a_trials_settled, caI G a_refusals 7 g_refusals, caI G a_numbers_numbers 12 g_numbers_numbers, ceX3 a_trials_draft s_trials_draft_size s_trials_draft_heard s_trials_draft_mode s_trials_draft_cast s_trials_draft_figures s_trials_draft_voices s_trials_draft_attacks s_trials_draft_supports, ceX1 a_trials_strife s_trials_strife_hits s_trials_strife_leads s_trials_strife_defeats s_trials_strife_defeaters, ceX9 a_trials_settled s_trials_settled_in s_trials_settled_out s_trials_settled_length s_trials_settled_order, ceX3 a_now s_now_size s_now_heard s_now_mode s_now_cast s_now_figures s_now_voices s_now_attacks s_now_supports] H := hP
    have hD : va_D A [ceX10 h0 a_now a_kept a_reader a_numbers a_strife a_settled a_selection a_dispute a_trials a_refusals s_isKept, ceX6 a_numbers a_numbers_numbers s_numbers_length, ceX8 a_trials a_trials_draft a_trials_strife a_trials_settled, caI G a_refusals 7 g_refusals, caI G a_numbers_numbers 12 g_numbers_numbers, ceX3 a_trials_draft s_trials_draft_size s_trials_draft_heard s_trials_draft_mode s_trials_draft_cast s_trials_draft_figures s_trials_draft_voices s_trials_draft_attacks s_trials_draft_supports, ceX1 a_trials_strife s_trials_strife_hits s_trials_strife_leads s_trials_strife_defeats s_trials_strife_defeaters, ceX9 a_trials_settled s_trials_settled_in s_trials_settled_out s_trials_settled_length s_trials_settled_order, ceX3 a_now s_now_size s_now_heard s_now_mode s_now_cast s_now_figures s_now_voices s_now_attacks s_now_supports] := hD
    refine lv_if_ne (tgt := 31) hx hb dX10_whatIs_21 (by decide) (fun c => ?_) (fun c => ?_)
    · replace h := h.1 c
      refine lv_iload_n hx hb dX10_whatIs_31 rfl (lv_at hl 2 rfl) ?_
      refine lv_if_ne (tgt := 54) hx hb dX10_whatIs_32 (by decide) (fun c => ?_) (fun c => ?_)
      · replace h := h.1 c
        refine lv_aload_n hx hb dX10_whatIs_54 rfl (lv_at hl 0 rfl) ?_
        refine va_get (D := G.1) (ci := 8) (v := .ref a_trials) (C := RX10) (T := TX10) (N := 11) hx hb hts ki_X10 hown hK.1 hP 0 rfl rfl 8 (by decide) kf1 (fun _ h9 => h9) rfl dX10_whatIs_55 ?_
        refine lv_aload_n hx hb dX10_whatIs_58 rfl (lv_at hl 0 rfl) ?_
        refine va_get (D := G.1) (ci := 8) (v := .ref a_numbers) (C := RX10) (T := TX10) (N := 11) hx hb hts ki_X10 hown hK.1 hP 0 rfl rfl 3 (by decide) kf2 (fun _ h9 => h9) rfl dX10_whatIs_59 ?_
        refine lv_aload_n hx hb dX10_whatIs_62 rfl (lv_at hl 0 rfl) ?_
        refine va_get (D := G.1) (ci := 8) (v := .ref a_now) (C := RX10) (T := TX10) (N := 11) hx hb hts ki_X10 hown hK.1 hP 0 rfl rfl 0 (by decide) kf0 (fun _ h9 => h9) rfl dX10_whatIs_63 ?_
        refine lv_iload_n hx hb dX10_whatIs_66 rfl (lv_at hl 1 rfl) ?_
        refine hc_ki (va_runV (As := [.ref a_numbers, .ref a_now, .int x1]) (rest := []) ⟨hx, hb, hml, hown, hts⟩ (c_X8_figuresBy l G a_trials a_trials_draft a_trials_strife a_trials_settled a_numbers a_numbers_numbers a_now H.size 12 s_numbers_length s_now_size s_now_heard s_now_mode s_now_cast s_now_figures s_now_voices s_now_attacks s_now_supports s_trials_draft_size s_trials_draft_heard s_trials_draft_mode s_trials_draft_cast s_trials_draft_figures s_trials_draft_voices s_trials_draft_attacks s_trials_draft_supports s_trials_strife_hits s_trials_strife_leads s_trials_strife_defeats s_trials_strife_defeaters s_trials_settled_in s_trials_settled_out s_trials_settled_length s_trials_settled_order g_numbers_numbers x1 _ h) (cwV 3 hts gX10_whatIs_X8_figuresBy rfl rfl rfl (by decide +kernel) ⟨Nat.le_of_ble_eq_true rfl, Nat.le_of_ble_eq_true rfl⟩) (hc_pV hK hP hD [2, 1, 8, 5, 6, 7, 4] rfl rfl (ci := 6) 2 rfl rfl) rfl rfl hl.1 rfl (lv_room (Nat.le_of_ble_eq_true rfl)) dX10_whatIs_67 ⟨Nat.le_refl _, Nat.le_refl _⟩) hP hD hS hA [2, 1, 8, 5, 6, 7, 4] [0, 3] rfl rfl rfl (by decide) (fun r67 u H locs h hP hD hS => ?_)
        obtain ⟨s_trials_draft_size_67, s_trials_draft_heard_67, s_trials_draft_mode_67, s_trials_draft_cast_67, s_trials_draft_figures_67, s_trials_draft_voices_67, s_trials_draft_attacks_67, s_trials_draft_supports_67, s_trials_strife_hits_67, s_trials_strife_leads_67, s_trials_strife_defeats_67, s_trials_strife_defeaters_67, s_trials_settled_in_67, s_trials_settled_out_67, s_trials_settled_length_67, s_trials_settled_order_67⟩ := u
        try dsimp only at h
        have hP : va_P G.1 vwCl [ceX10 h0 a_now a_kept a_reader a_numbers a_strife a_settled a_selection a_dispute a_trials a_refusals s_isKept, caI G a_refusals 7 g_refusals, ceX8 a_trials a_trials_draft a_trials_strife a_trials_settled, ceX6 a_numbers a_numbers_numbers s_numbers_length, ceX3 a_now s_now_size s_now_heard s_now_mode s_now_cast s_now_figures s_now_voices s_now_attacks s_now_supports, ceX3 a_trials_draft s_trials_draft_size_67 s_trials_draft_heard_67 s_trials_draft_mode_67 s_trials_draft_cast_67 s_trials_draft_figures_67 s_trials_draft_voices_67 s_trials_draft_attacks_67 s_trials_draft_supports_67, ceX1 a_trials_strife s_trials_strife_hits_67 s_trials_strife_leads_67 s_trials_strife_defeats_67 s_trials_strife_defeaters_67, ceX9 a_trials_settled s_trials_settled_in_67 s_trials_settled_out_67 s_trials_settled_length_67 s_trials_settled_order_67, caI G a_numbers_numbers 12 g_numbers_numbers] H := hP
        have hD : va_D A [ceX10 h0 a_now a_kept a_reader a_numbers a_strife a_settled a_selection a_dispute a_trials a_refusals s_isKept, caI G a_refusals 7 g_refusals, ceX8 a_trials a_trials_draft a_trials_strife a_trials_settled, ceX6 a_numbers a_numbers_numbers s_numbers_length, ceX3 a_now s_now_size s_now_heard s_now_mode s_now_cast s_now_figures s_now_voices s_now_attacks s_now_supports, ceX3 a_trials_draft s_trials_draft_size_67 s_trials_draft_heard_67 s_trials_draft_mode_67 s_trials_draft_cast_67 s_trials_draft_figures_67 s_trials_draft_voices_67 s_trials_draft_attacks_67 s_trials_draft_supports_67, ceX1 a_trials_strife s_trials_strife_hits_67 s_trials_strife_leads_67 s_trials_strife_defeats_67 s_trials_strife_defeaters_67, ceX9 a_trials_settled s_trials_settled_in_67 s_trials_settled_out_67 s_trials_settled_length_67 s_trials_settled_order_67, caI G a_numbers_numbers 12 g_numbers_numbers] := hD
        exact W.iret (v := r67) hx hb hr (fun t ht hW => ⟨⟨_, ⟨s_trials_draft_size_67, s_trials_draft_heard_67, s_trials_draft_mode_67, s_trials_draft_cast_67, s_trials_draft_figures_67, s_trials_draft_voices_67, s_trials_draft_attacks_67, s_trials_draft_supports_67, s_trials_strife_hits_67, s_trials_strife_leads_67, s_trials_strife_defeats_67, s_trials_strife_defeaters_67, s_trials_settled_in_67, s_trials_settled_out_67, s_trials_settled_length_67, s_trials_settled_order_67, g_refusals⟩, rfl, h, ⟨by rw [ht]; exact (hP.sub [0, 4, 3, 2, 1, 8, 5, 6, 7] rfl), (hD.sub [0, 4, 3, 2, 1, 8, 5, 6, 7] (by decide) rfl)⟩⟩, hS.F ht⟩) hS.2.2 dX10_whatIs_70
      · replace h := h.2 c
        refine lv_aload_n hx hb dX10_whatIs_35 rfl (lv_at hl 0 rfl) ?_
        refine va_get (D := G.1) (ci := 8) (v := .ref a_trials) (C := RX10) (T := TX10) (N := 11) hx hb hts ki_X10 hown hK.1 hP 0 rfl rfl 8 (by decide) kf1 (fun _ h9 => h9) rfl dX10_whatIs_36 ?_
        refine lv_aload_n hx hb dX10_whatIs_39 rfl (lv_at hl 0 rfl) ?_
        refine va_get (D := G.1) (ci := 8) (v := .ref a_numbers) (C := RX10) (T := TX10) (N := 11) hx hb hts ki_X10 hown hK.1 hP 0 rfl rfl 3 (by decide) kf2 (fun _ h9 => h9) rfl dX10_whatIs_40 ?_
        refine lv_aload_n hx hb dX10_whatIs_43 rfl (lv_at hl 0 rfl) ?_
        refine va_get (D := G.1) (ci := 8) (v := .ref a_now) (C := RX10) (T := TX10) (N := 11) hx hb hts ki_X10 hown hK.1 hP 0 rfl rfl 0 (by decide) kf0 (fun _ h9 => h9) rfl dX10_whatIs_44 ?_
        refine lv_iload_n hx hb dX10_whatIs_47 rfl (lv_at hl 1 rfl) ?_
        refine hc_ki (va_runV (As := [.ref a_numbers, .ref a_now, .int x1]) (rest := []) ⟨hx, hb, hml, hown, hts⟩ (c_X8_kindsBy l G a_trials a_trials_draft a_trials_strife a_trials_settled a_numbers a_numbers_numbers a_now H.size 12 s_numbers_length s_now_size s_now_heard s_now_mode s_now_cast s_now_figures s_now_voices s_now_attacks s_now_supports s_trials_draft_size s_trials_draft_heard s_trials_draft_mode s_trials_draft_cast s_trials_draft_figures s_trials_draft_voices s_trials_draft_attacks s_trials_draft_supports s_trials_strife_hits s_trials_strife_leads s_trials_strife_defeats s_trials_strife_defeaters s_trials_settled_in s_trials_settled_out s_trials_settled_length s_trials_settled_order g_numbers_numbers x1 _ h) (cwV 3 hts gX10_whatIs_X8_kindsBy rfl rfl rfl (by decide +kernel) ⟨Nat.le_of_ble_eq_true rfl, Nat.le_of_ble_eq_true rfl⟩) (hc_pV hK hP hD [2, 1, 8, 5, 6, 7, 4] rfl rfl (ci := 6) 2 rfl rfl) rfl rfl hl.1 rfl (lv_room (Nat.le_of_ble_eq_true rfl)) dX10_whatIs_48 ⟨Nat.le_refl _, Nat.le_refl _⟩) hP hD hS hA [2, 1, 8, 5, 6, 7, 4] [0, 3] rfl rfl rfl (by decide) (fun r48 u H locs h hP hD hS => ?_)
        obtain ⟨s_trials_draft_size_48, s_trials_draft_heard_48, s_trials_draft_mode_48, s_trials_draft_cast_48, s_trials_draft_figures_48, s_trials_draft_voices_48, s_trials_draft_attacks_48, s_trials_draft_supports_48, s_trials_strife_hits_48, s_trials_strife_leads_48, s_trials_strife_defeats_48, s_trials_strife_defeaters_48, s_trials_settled_in_48, s_trials_settled_out_48, s_trials_settled_length_48, s_trials_settled_order_48⟩ := u
        try dsimp only at h
        have hP : va_P G.1 vwCl [ceX10 h0 a_now a_kept a_reader a_numbers a_strife a_settled a_selection a_dispute a_trials a_refusals s_isKept, caI G a_refusals 7 g_refusals, ceX8 a_trials a_trials_draft a_trials_strife a_trials_settled, ceX6 a_numbers a_numbers_numbers s_numbers_length, ceX3 a_now s_now_size s_now_heard s_now_mode s_now_cast s_now_figures s_now_voices s_now_attacks s_now_supports, ceX3 a_trials_draft s_trials_draft_size_48 s_trials_draft_heard_48 s_trials_draft_mode_48 s_trials_draft_cast_48 s_trials_draft_figures_48 s_trials_draft_voices_48 s_trials_draft_attacks_48 s_trials_draft_supports_48, ceX1 a_trials_strife s_trials_strife_hits_48 s_trials_strife_leads_48 s_trials_strife_defeats_48 s_trials_strife_defeaters_48, ceX9 a_trials_settled s_trials_settled_in_48 s_trials_settled_out_48 s_trials_settled_length_48 s_trials_settled_order_48, caI G a_numbers_numbers 12 g_numbers_numbers] H := hP
        have hD : va_D A [ceX10 h0 a_now a_kept a_reader a_numbers a_strife a_settled a_selection a_dispute a_trials a_refusals s_isKept, caI G a_refusals 7 g_refusals, ceX8 a_trials a_trials_draft a_trials_strife a_trials_settled, ceX6 a_numbers a_numbers_numbers s_numbers_length, ceX3 a_now s_now_size s_now_heard s_now_mode s_now_cast s_now_figures s_now_voices s_now_attacks s_now_supports, ceX3 a_trials_draft s_trials_draft_size_48 s_trials_draft_heard_48 s_trials_draft_mode_48 s_trials_draft_cast_48 s_trials_draft_figures_48 s_trials_draft_voices_48 s_trials_draft_attacks_48 s_trials_draft_supports_48, ceX1 a_trials_strife s_trials_strife_hits_48 s_trials_strife_leads_48 s_trials_strife_defeats_48 s_trials_strife_defeaters_48, ceX9 a_trials_settled s_trials_settled_in_48 s_trials_settled_out_48 s_trials_settled_length_48 s_trials_settled_order_48, caI G a_numbers_numbers 12 g_numbers_numbers] := hD
        refine lv_goto (tgt := 70) hx hb dX10_whatIs_51 (by decide) ?_
        exact W.iret (v := r48) hx hb hr (fun t ht hW => ⟨⟨_, ⟨s_trials_draft_size_48, s_trials_draft_heard_48, s_trials_draft_mode_48, s_trials_draft_cast_48, s_trials_draft_figures_48, s_trials_draft_voices_48, s_trials_draft_attacks_48, s_trials_draft_supports_48, s_trials_strife_hits_48, s_trials_strife_leads_48, s_trials_strife_defeats_48, s_trials_strife_defeaters_48, s_trials_settled_in_48, s_trials_settled_out_48, s_trials_settled_length_48, s_trials_settled_order_48, g_refusals⟩, rfl, h, ⟨by rw [ht]; exact (hP.sub [0, 4, 3, 2, 1, 8, 5, 6, 7] rfl), (hD.sub [0, 4, 3, 2, 1, 8, 5, 6, 7] (by decide) rfl)⟩⟩, hS.F ht⟩) hS.2.2 dX10_whatIs_70
    · replace h := h.2 c
      refine lv_aload_n hx hb dX10_whatIs_24 rfl (lv_at hl 0 rfl) ?_
      refine lv_bipush (v := (-2 : Int32)) hx hb dX10_whatIs_25 kb_m2 ?_
      refine hc_ki (va_runV (As := [.int ((-2 : Int32))]) (rest := []) ⟨hx, hb, hml, hown, hts⟩ (c_X10_refuse l G h0 a_now a_kept a_reader a_numbers a_strife a_settled a_selection a_dispute a_trials a_refusals H.size s_isKept g_refusals ((-2 : Int32)) _ h) (cwV 1 hts gX10_whatIs_X10_refuse rfl rfl rfl (by decide +kernel) ⟨Nat.le_of_ble_eq_true rfl, Nat.le_of_ble_eq_true rfl⟩) (hc_pV hK hP hD [0, 3] rfl rfl (ci := 8) 0 rfl rfl) rfl rfl hl.1 rfl (lv_room (Nat.le_of_ble_eq_true rfl)) dX10_whatIs_27 ⟨Nat.le_refl _, Nat.le_refl _⟩) hP hD hS hA [0, 3] [1, 2, 4, 5, 6, 7, 8] rfl rfl rfl (by decide) (fun r27 u H locs h hP hD hS => ?_)
      obtain ⟨g_refusals_27, rfl⟩ : ∃ z, z = u := ⟨_, rfl⟩
      try dsimp only at h
      have hP : va_P G.1 vwCl [ceX6 a_numbers a_numbers_numbers s_numbers_length, ceX8 a_trials a_trials_draft a_trials_strife a_trials_settled, caI G a_numbers_numbers 12 g_numbers_numbers, ceX3 a_trials_draft s_trials_draft_size s_trials_draft_heard s_trials_draft_mode s_trials_draft_cast s_trials_draft_figures s_trials_draft_voices s_trials_draft_attacks s_trials_draft_supports, ceX1 a_trials_strife s_trials_strife_hits s_trials_strife_leads s_trials_strife_defeats s_trials_strife_defeaters, ceX9 a_trials_settled s_trials_settled_in s_trials_settled_out s_trials_settled_length s_trials_settled_order, ceX3 a_now s_now_size s_now_heard s_now_mode s_now_cast s_now_figures s_now_voices s_now_attacks s_now_supports, ceX10 h0 a_now a_kept a_reader a_numbers a_strife a_settled a_selection a_dispute a_trials a_refusals s_isKept, caI G a_refusals 7 g_refusals_27] H := hP
      have hD : va_D A [ceX6 a_numbers a_numbers_numbers s_numbers_length, ceX8 a_trials a_trials_draft a_trials_strife a_trials_settled, caI G a_numbers_numbers 12 g_numbers_numbers, ceX3 a_trials_draft s_trials_draft_size s_trials_draft_heard s_trials_draft_mode s_trials_draft_cast s_trials_draft_figures s_trials_draft_voices s_trials_draft_attacks s_trials_draft_supports, ceX1 a_trials_strife s_trials_strife_hits s_trials_strife_leads s_trials_strife_defeats s_trials_strife_defeaters, ceX9 a_trials_settled s_trials_settled_in s_trials_settled_out s_trials_settled_length s_trials_settled_order, ceX3 a_now s_now_size s_now_heard s_now_mode s_now_cast s_now_figures s_now_voices s_now_attacks s_now_supports, ceX10 h0 a_now a_kept a_reader a_numbers a_strife a_settled a_selection a_dispute a_trials a_refusals s_isKept, caI G a_refusals 7 g_refusals_27] := hD
      exact W.iret (v := r27) hx hb hr (fun t ht hW => ⟨⟨_, ⟨s_trials_draft_size, s_trials_draft_heard, s_trials_draft_mode, s_trials_draft_cast, s_trials_draft_figures, s_trials_draft_voices, s_trials_draft_attacks, s_trials_draft_supports, s_trials_strife_hits, s_trials_strife_leads, s_trials_strife_defeats, s_trials_strife_defeaters, s_trials_settled_in, s_trials_settled_out, s_trials_settled_length, s_trials_settled_order, g_refusals_27⟩, rfl, h, ⟨by rw [ht]; exact (hP.sub [7, 6, 0, 1, 8, 2, 3, 4, 5] rfl), (hD.sub [7, 6, 0, 1, 8, 2, 3, 4, 5] (by decide) rfl)⟩⟩, hS.F ht⟩) hS.2.2 dX10_whatIs_30
  · replace h := h.2 c
    refine lv_aload_n hx hb dX10_whatIs_11 rfl (lv_at hl 0 rfl) ?_
    refine lv_iconst (v := (-1 : Int32)) hx hb dX10_whatIs_12 kc_m1 ?_
    refine hc_ki (va_runV (As := [.int ((-1 : Int32))]) (rest := []) ⟨hx, hb, hml, hown, hts⟩ (c_X10_refuse l G h0 a_now a_kept a_reader a_numbers a_strife a_settled a_selection a_dispute a_trials a_refusals H.size s_isKept g_refusals ((-1 : Int32)) _ h) (cwV 1 hts gX10_whatIs_X10_refuse rfl rfl rfl (by decide +kernel) ⟨Nat.le_of_ble_eq_true rfl, Nat.le_of_ble_eq_true rfl⟩) (hc_pV hK hP hD [0, 3] rfl rfl (ci := 8) 0 rfl rfl) rfl rfl hl.1 rfl (lv_room (Nat.le_of_ble_eq_true rfl)) dX10_whatIs_13 ⟨Nat.le_refl _, Nat.le_refl _⟩) hP hD hS hA [0, 3] [1, 2, 4, 5, 6, 7, 8] rfl rfl rfl (by decide) (fun r13 u H locs h hP hD hS => ?_)
    obtain ⟨g_refusals_13, rfl⟩ : ∃ z, z = u := ⟨_, rfl⟩
    try dsimp only at h
    have hP : va_P G.1 vwCl [ceX6 a_numbers a_numbers_numbers s_numbers_length, ceX8 a_trials a_trials_draft a_trials_strife a_trials_settled, caI G a_numbers_numbers 12 g_numbers_numbers, ceX3 a_trials_draft s_trials_draft_size s_trials_draft_heard s_trials_draft_mode s_trials_draft_cast s_trials_draft_figures s_trials_draft_voices s_trials_draft_attacks s_trials_draft_supports, ceX1 a_trials_strife s_trials_strife_hits s_trials_strife_leads s_trials_strife_defeats s_trials_strife_defeaters, ceX9 a_trials_settled s_trials_settled_in s_trials_settled_out s_trials_settled_length s_trials_settled_order, ceX3 a_now s_now_size s_now_heard s_now_mode s_now_cast s_now_figures s_now_voices s_now_attacks s_now_supports, ceX10 h0 a_now a_kept a_reader a_numbers a_strife a_settled a_selection a_dispute a_trials a_refusals s_isKept, caI G a_refusals 7 g_refusals_13] H := hP
    have hD : va_D A [ceX6 a_numbers a_numbers_numbers s_numbers_length, ceX8 a_trials a_trials_draft a_trials_strife a_trials_settled, caI G a_numbers_numbers 12 g_numbers_numbers, ceX3 a_trials_draft s_trials_draft_size s_trials_draft_heard s_trials_draft_mode s_trials_draft_cast s_trials_draft_figures s_trials_draft_voices s_trials_draft_attacks s_trials_draft_supports, ceX1 a_trials_strife s_trials_strife_hits s_trials_strife_leads s_trials_strife_defeats s_trials_strife_defeaters, ceX9 a_trials_settled s_trials_settled_in s_trials_settled_out s_trials_settled_length s_trials_settled_order, ceX3 a_now s_now_size s_now_heard s_now_mode s_now_cast s_now_figures s_now_voices s_now_attacks s_now_supports, ceX10 h0 a_now a_kept a_reader a_numbers a_strife a_settled a_selection a_dispute a_trials a_refusals s_isKept, caI G a_refusals 7 g_refusals_13] := hD
    exact W.iret (v := r13) hx hb hr (fun t ht hW => ⟨⟨_, ⟨s_trials_draft_size, s_trials_draft_heard, s_trials_draft_mode, s_trials_draft_cast, s_trials_draft_figures, s_trials_draft_voices, s_trials_draft_attacks, s_trials_draft_supports, s_trials_strife_hits, s_trials_strife_leads, s_trials_strife_defeats, s_trials_strife_defeaters, s_trials_settled_in, s_trials_settled_out, s_trials_settled_length, s_trials_settled_order, g_refusals_13⟩, rfl, h, ⟨by rw [ht]; exact (hP.sub [7, 6, 0, 1, 8, 2, 3, 4, 5] rfl), (hD.sub [7, 6, 0, 1, 8, 2, 3, 4, 5] (by decide) rfl)⟩⟩, hS.F ht⟩) hS.2.2 dX10_whatIs_16
set_option maxHeartbeats 4000000 in
set_option maxRecDepth 100000 in
theorem c_X10_row (l : Launch) (G : hcG) (h0 : Nat) (a_now : Nat) (a_kept : Nat) (a_reader : Nat) (a_numbers : Nat) (a_strife : Nat) (a_settled : Nat) (a_selection : Nat) (a_dispute : Nat) (a_trials : Nat) (a_refusals : Nat) (a_numbers_numbers : Nat) (sz : Nat) (s_isKept : Int32) (s_numbers_length : Int32) (g_refusals : Nat → Int32) (g_numbers_numbers : Nat → Int32) (x1 : Int32) (post : Int32 → (Nat → Int32) → Int32 → (Nat → Int32) → Prop) (h : wp_X10_row post g_numbers_numbers s_numbers_length g_refusals x1) : Met l yX10_row wsX10_row ({ frames := 1, cells := 0, slots := 0, locals := 22 }) (hcPc G [.ref h0, .int x1] [ceX10 h0 a_now a_kept a_reader a_numbers a_strife a_settled a_selection a_dispute a_trials a_refusals s_isKept, ceX6 a_numbers a_numbers_numbers s_numbers_length, caI G a_refusals 7 g_refusals, caI G a_numbers_numbers 12 g_numbers_numbers] sz) (va_Qi (fun (r : Int32) (u : (Nat → Int32) × Int32 × (Nat → Int32)) => post r u.1 u.2.1 u.2.2) (hcB G (va_A [ceX10 h0 a_now a_kept a_reader a_numbers a_strife a_settled a_selection a_dispute a_trials a_refusals s_isKept, ceX6 a_numbers a_numbers_numbers s_numbers_length, caI G a_refusals 7 g_refusals, caI G a_numbers_numbers 12 g_numbers_numbers] sz) (fun u : (Nat → Int32) × Int32 × (Nat → Int32) => [ceX10 h0 a_now a_kept a_reader a_numbers a_strife a_settled a_selection a_dispute a_trials a_refusals s_isKept, ceX6 a_numbers a_numbers_numbers u.2.1, caI G a_refusals 7 u.2.2, caI G a_numbers_numbers 12 u.1])) (va_A [ceX10 h0 a_now a_kept a_reader a_numbers a_strife a_settled a_selection a_dispute a_trials a_refusals s_isKept, ceX6 a_numbers a_numbers_numbers s_numbers_length, caI G a_refusals 7 g_refusals, caI G a_numbers_numbers 12 g_numbers_numbers] sz)) 0 0 (va_A [ceX10 h0 a_now a_kept a_reader a_numbers a_strife a_settled a_selection a_dispute a_trials a_refusals s_isKept, ceX6 a_numbers a_numbers_numbers s_numbers_length, caI G a_refusals 7 g_refusals, caI G a_numbers_numbers 12 g_numbers_numbers] sz) := by
  refine Met.ofW (cc := cX10_row) (maxL := 2) (ret := (some .int)) (by decide) rfl ?_
  intro p e s m args below meth c s₁ B hml hv
  obtain ⟨rfl, hsz, hP, hK, hD0⟩ := hv
  have hx := B.exec
  have hb := B.bytes
  have hr := B.returns
  have hts := atoms_spec (ws := wsX10_row) B.pre
  have hown : s.vm.findClass RX10 = some m.cls := findClass_of_methodNamed B.named
  have hlocks := B.notSynchronized
  subst hsz
  have hD := hD0.self (sz := s.heap.size)
  generalize hAe : va_A [ceX10 h0 a_now a_kept a_reader a_numbers a_strife a_settled a_selection a_dispute a_trials a_refusals s_isKept, ceX6 a_numbers a_numbers_numbers s_numbers_length, caI G a_refusals 7 g_refusals, caI G a_numbers_numbers 12 g_numbers_numbers] s.heap.size = A at hD ⊢
  have hA : ∀ q : Nat, s.heap.size ≤ q → A q := fun q h => by rw [← hAe]; exact Or.inr h
  have hS : va_S A s.heap s.heap [] := va_S.rf
  have hP : va_P G.1 vwCl [ceX10 h0 a_now a_kept a_reader a_numbers a_strife a_settled a_selection a_dispute a_trials a_refusals s_isKept, ceX6 a_numbers a_numbers_numbers s_numbers_length, caI G a_refusals 7 g_refusals, caI G a_numbers_numbers 12 g_numbers_numbers] s.heap := hP
  have hl := lv_entry ([.ref h0, .int x1]) (n := 2) (Nat.le_of_ble_eq_true rfl)
  rw [lg_entry_eq]
  generalize (lg_sl ([.ref h0, .int x1]) ++ List.replicate (2 - (lg_sl ([.ref h0, .int x1])).length) Slot.unset).toArray = ls at hl ⊢
  have hl : lv_has ls 2 [(0, .ref h0), (1, .int x1)] := hl
  have kf0 := hts (.fieldLink RX10 31 "HallOfClaims" "numbers" "LHallOfClaims$Row;") (List.mem_of_getElem? (i := 1) (by decide +kernel))
  have ki_X10 : ∀ w ∈ u_ws RX10 TX10 11, w ∈ wsX10_row := by decide +kernel
  unfold wp_X10_row at h
  refine lv_iload_n hx hb dX10_row_0 rfl (lv_at hl 1 rfl) ?_
  refine lv_if_ge (tgt := 11) hx hb dX10_row_1 (by decide) (fun c => ?_) (fun c => ?_)
  · replace h := h.1 c
    refine lv_iload_n hx hb dX10_row_11 rfl (lv_at hl 1 rfl) ?_
    refine lv_bipush (v := nI 10) hx hb dX10_row_12 kb_10 ?_
    refine lv_icmp_ge (tgt := 27) hx hb dX10_row_14 (by decide) (fun c => ?_) (fun c => ?_)
    · replace h := h.1 c
      refine lv_aload_n hx hb dX10_row_27 rfl (lv_at hl 0 rfl) ?_
      refine lv_bipush (v := (-6 : Int32)) hx hb dX10_row_28 kb_m6 ?_
      refine hc_ki (va_runV (As := [.int ((-6 : Int32))]) (rest := []) ⟨hx, hb, hml, hown, hts⟩ (c_X10_refuse l G h0 a_now a_kept a_reader a_numbers a_strife a_settled a_selection a_dispute a_trials a_refusals H.size s_isKept g_refusals ((-6 : Int32)) _ h) (cwV 1 hts gX10_row_X10_refuse rfl rfl rfl (by decide +kernel) ⟨Nat.le_of_ble_eq_true rfl, Nat.le_of_ble_eq_true rfl⟩) (hc_pV hK hP hD [0, 2] rfl rfl (ci := 8) 0 rfl rfl) rfl rfl hl.1 rfl (lv_room (Nat.le_of_ble_eq_true rfl)) dX10_row_30 ⟨Nat.le_refl _, Nat.le_refl _⟩) hP hD hS hA [0, 2] [1, 3] rfl rfl rfl (by decide) (fun r30 u H locs h hP hD hS => ?_)
      obtain ⟨g_refusals_30, rfl⟩ : ∃ z, z = u := ⟨_, rfl⟩
      try dsimp only at h
      have hP : va_P G.1 vwCl [ceX6 a_numbers a_numbers_numbers s_numbers_length, caI G a_numbers_numbers 12 g_numbers_numbers, ceX10 h0 a_now a_kept a_reader a_numbers a_strife a_settled a_selection a_dispute a_trials a_refusals s_isKept, caI G a_refusals 7 g_refusals_30] H := hP
      have hD : va_D A [ceX6 a_numbers a_numbers_numbers s_numbers_length, caI G a_numbers_numbers 12 g_numbers_numbers, ceX10 h0 a_now a_kept a_reader a_numbers a_strife a_settled a_selection a_dispute a_trials a_refusals s_isKept, caI G a_refusals 7 g_refusals_30] := hD
      exact W.iret (v := r30) hx hb hr (fun t ht hW => ⟨⟨_, ⟨g_numbers_numbers, s_numbers_length, g_refusals_30⟩, rfl, h, ⟨by rw [ht]; exact (hP.sub [2, 0, 3, 1] rfl), (hD.sub [2, 0, 3, 1] (by decide) rfl)⟩⟩, hS.F ht⟩) hS.2.2 dX10_row_33
    · replace h := h.2 c
      refine lv_aload_n hx hb dX10_row_17 rfl (lv_at hl 0 rfl) ?_
      refine va_get (D := G.1) (ci := 8) (v := .ref a_numbers) (C := RX10) (T := TX10) (N := 11) hx hb hts ki_X10 hown hK.1 hP 0 rfl rfl 3 (by decide) kf0 (fun _ h9 => h9) rfl dX10_row_18 ?_
      refine hc_ki (va_runV (As := []) (rest := []) ⟨hx, hb, hml, hown, hts⟩ (c_X6_isFull l G a_numbers a_numbers_numbers H.size 12 s_numbers_length g_numbers_numbers _ h) (cwV 0 hts gX10_row_X6_isFull rfl rfl rfl (by decide +kernel) ⟨Nat.le_of_ble_eq_true rfl, Nat.le_of_ble_eq_true rfl⟩) (hc_pV hK hP hD [1, 3] rfl rfl (ci := 4) 1 rfl rfl) rfl rfl hl.1 rfl (lv_room (Nat.le_of_ble_eq_true rfl)) dX10_row_21 ⟨Nat.le_refl _, Nat.le_refl _⟩) hP hD hS hA [1, 3] [0, 2] rfl rfl rfl (by decide) (fun r21 u H locs h hP hD hS => ?_)
      try dsimp only at h
      have hP : va_P G.1 vwCl [ceX10 h0 a_now a_kept a_reader a_numbers a_strife a_settled a_selection a_dispute a_trials a_refusals s_isKept, caI G a_refusals 7 g_refusals, ceX6 a_numbers a_numbers_numbers s_numbers_length, caI G a_numbers_numbers 12 g_numbers_numbers] H := hP
      have hD : va_D A [ceX10 h0 a_now a_kept a_reader a_numbers a_strife a_settled a_selection a_dispute a_trials a_refusals s_isKept, caI G a_refusals 7 g_refusals, ceX6 a_numbers a_numbers_numbers s_numbers_length, caI G a_numbers_numbers 12 g_numbers_numbers] := hD
      refine lv_if_eq (tgt := 34) hx hb dX10_row_24 (by decide) (fun c => ?_) (fun c => ?_)
      · replace h := h.1 c
        refine lv_aload_n hx hb dX10_row_34 rfl (lv_at hl 0 rfl) ?_
        refine va_get (D := G.1) (ci := 8) (v := .ref a_numbers) (C := RX10) (T := TX10) (N := 11) hx hb hts ki_X10 hown hK.1 hP 0 rfl rfl 3 (by decide) kf0 (fun _ h9 => h9) rfl dX10_row_35 ?_
        refine lv_iload_n hx hb dX10_row_38 rfl (lv_at hl 1 rfl) ?_
        refine hc_ki (va_runV (As := [.int x1]) (rest := []) ⟨hx, hb, hml, hown, hts⟩ (c_X6_add l G a_numbers a_numbers_numbers H.size 12 s_numbers_length g_numbers_numbers x1 _ h) (cwV 1 hts gX10_row_X6_add rfl rfl rfl (by decide +kernel) ⟨Nat.le_of_ble_eq_true rfl, Nat.le_of_ble_eq_true rfl⟩) (hc_pV hK hP hD [2, 3] rfl rfl (ci := 4) 2 rfl rfl) rfl rfl hl.1 rfl (lv_room (Nat.le_of_ble_eq_true rfl)) dX10_row_39 ⟨Nat.le_refl _, Nat.le_refl _⟩) hP hD hS hA [2, 3] [0, 1] rfl rfl rfl (by decide) (fun r39 u H locs h hP hD hS => ?_)
        obtain ⟨g_numbers_numbers_39, s_numbers_length_39⟩ := u
        try dsimp only at h
        have hP : va_P G.1 vwCl [ceX10 h0 a_now a_kept a_reader a_numbers a_strife a_settled a_selection a_dispute a_trials a_refusals s_isKept, caI G a_refusals 7 g_refusals, ceX6 a_numbers a_numbers_numbers s_numbers_length_39, caI G a_numbers_numbers 12 g_numbers_numbers_39] H := hP
        have hD : va_D A [ceX10 h0 a_now a_kept a_reader a_numbers a_strife a_settled a_selection a_dispute a_trials a_refusals s_isKept, caI G a_refusals 7 g_refusals, ceX6 a_numbers a_numbers_numbers s_numbers_length_39, caI G a_numbers_numbers 12 g_numbers_numbers_39] := hD
        exact W.iret (v := r39) hx hb hr (fun t ht hW => ⟨⟨_, ⟨g_numbers_numbers_39, s_numbers_length_39, g_refusals⟩, rfl, h, ⟨by rw [ht]; exact (hP.sub [0, 2, 1, 3] rfl), (hD.sub [0, 2, 1, 3] (by decide) rfl)⟩⟩, hS.F ht⟩) hS.2.2 dX10_row_42
      · replace h := h.2 c
        refine lv_aload_n hx hb dX10_row_27 rfl (lv_at hl 0 rfl) ?_
        refine lv_bipush (v := (-6 : Int32)) hx hb dX10_row_28 kb_m6 ?_
        refine hc_ki (va_runV (As := [.int ((-6 : Int32))]) (rest := []) ⟨hx, hb, hml, hown, hts⟩ (c_X10_refuse l G h0 a_now a_kept a_reader a_numbers a_strife a_settled a_selection a_dispute a_trials a_refusals H.size s_isKept g_refusals ((-6 : Int32)) _ h) (cwV 1 hts gX10_row_X10_refuse rfl rfl rfl (by decide +kernel) ⟨Nat.le_of_ble_eq_true rfl, Nat.le_of_ble_eq_true rfl⟩) (hc_pV hK hP hD [0, 1] rfl rfl (ci := 8) 0 rfl rfl) rfl rfl hl.1 rfl (lv_room (Nat.le_of_ble_eq_true rfl)) dX10_row_30 ⟨Nat.le_refl _, Nat.le_refl _⟩) hP hD hS hA [0, 1] [2, 3] rfl rfl rfl (by decide) (fun r30 u H locs h hP hD hS => ?_)
        obtain ⟨g_refusals_30, rfl⟩ : ∃ z, z = u := ⟨_, rfl⟩
        try dsimp only at h
        have hP : va_P G.1 vwCl [ceX6 a_numbers a_numbers_numbers s_numbers_length, caI G a_numbers_numbers 12 g_numbers_numbers, ceX10 h0 a_now a_kept a_reader a_numbers a_strife a_settled a_selection a_dispute a_trials a_refusals s_isKept, caI G a_refusals 7 g_refusals_30] H := hP
        have hD : va_D A [ceX6 a_numbers a_numbers_numbers s_numbers_length, caI G a_numbers_numbers 12 g_numbers_numbers, ceX10 h0 a_now a_kept a_reader a_numbers a_strife a_settled a_selection a_dispute a_trials a_refusals s_isKept, caI G a_refusals 7 g_refusals_30] := hD
        exact W.iret (v := r30) hx hb hr (fun t ht hW => ⟨⟨_, ⟨g_numbers_numbers, s_numbers_length, g_refusals_30⟩, rfl, h, ⟨by rw [ht]; exact (hP.sub [2, 0, 3, 1] rfl), (hD.sub [2, 0, 3, 1] (by decide) rfl)⟩⟩, hS.F ht⟩) hS.2.2 dX10_row_33
  · replace h := h.2 c
    refine lv_aload_n hx hb dX10_row_4 rfl (lv_at hl 0 rfl) ?_
    refine lv_bipush (v := (-4 : Int32)) hx hb dX10_row_5 kb_m4 ?_
    refine hc_ki (va_runV (As := [.int ((-4 : Int32))]) (rest := []) ⟨hx, hb, hml, hown, hts⟩ (c_X10_refuse l G h0 a_now a_kept a_reader a_numbers a_strife a_settled a_selection a_dispute a_trials a_refusals H.size s_isKept g_refusals ((-4 : Int32)) _ h) (cwV 1 hts gX10_row_X10_refuse rfl rfl rfl (by decide +kernel) ⟨Nat.le_of_ble_eq_true rfl, Nat.le_of_ble_eq_true rfl⟩) (hc_pV hK hP hD [0, 2] rfl rfl (ci := 8) 0 rfl rfl) rfl rfl hl.1 rfl (lv_room (Nat.le_of_ble_eq_true rfl)) dX10_row_7 ⟨Nat.le_refl _, Nat.le_refl _⟩) hP hD hS hA [0, 2] [1, 3] rfl rfl rfl (by decide) (fun r7 u H locs h hP hD hS => ?_)
    obtain ⟨g_refusals_7, rfl⟩ : ∃ z, z = u := ⟨_, rfl⟩
    try dsimp only at h
    have hP : va_P G.1 vwCl [ceX6 a_numbers a_numbers_numbers s_numbers_length, caI G a_numbers_numbers 12 g_numbers_numbers, ceX10 h0 a_now a_kept a_reader a_numbers a_strife a_settled a_selection a_dispute a_trials a_refusals s_isKept, caI G a_refusals 7 g_refusals_7] H := hP
    have hD : va_D A [ceX6 a_numbers a_numbers_numbers s_numbers_length, caI G a_numbers_numbers 12 g_numbers_numbers, ceX10 h0 a_now a_kept a_reader a_numbers a_strife a_settled a_selection a_dispute a_trials a_refusals s_isKept, caI G a_refusals 7 g_refusals_7] := hD
    exact W.iret (v := r7) hx hb hr (fun t ht hW => ⟨⟨_, ⟨g_numbers_numbers, s_numbers_length, g_refusals_7⟩, rfl, h, ⟨by rw [ht]; exact (hP.sub [2, 0, 3, 1] rfl), (hD.sub [2, 0, 3, 1] (by decide) rfl)⟩⟩, hS.F ht⟩) hS.2.2 dX10_row_10
set_option maxHeartbeats 4000000 in
set_option maxRecDepth 100000 in
theorem c_X10_judge (l : Launch) (G : hcG) (h0 : Nat) (a_now : Nat) (a_kept : Nat) (a_reader : Nat) (a_numbers : Nat) (a_strife : Nat) (a_settled : Nat) (a_selection : Nat) (a_dispute : Nat) (a_trials : Nat) (a_refusals : Nat) (a_numbers_numbers : Nat) (sz : Nat) (s_isKept : Int32) (s_now_size : Int32) (s_now_heard : Int32) (s_now_mode : Int32) (s_now_cast : Int64) (s_now_figures : Int64) (s_now_voices : Int64) (s_now_attacks : Int64) (s_now_supports : Int64) (s_numbers_length : Int32) (s_strife_hits : Int64) (s_strife_leads : Int64) (s_strife_defeats : Int64) (s_strife_defeaters : Int64) (g_numbers_numbers : Nat → Int32) (post : Int32 → Int32 → Int64 → Int64 → Int64 → Int64 → Prop) (h : wp_X10_judge post s_now_size s_now_heard s_now_mode s_now_cast s_now_figures s_now_attacks s_now_supports g_numbers_numbers s_numbers_length s_strife_hits s_strife_leads s_strife_defeats s_strife_defeaters) : Met l yX10_judge wsX10_judge ({ frames := 4, cells := 0, slots := 0, locals := 96 }) (hcPc G [.ref h0] [ceX10 h0 a_now a_kept a_reader a_numbers a_strife a_settled a_selection a_dispute a_trials a_refusals s_isKept, ceX3 a_now s_now_size s_now_heard s_now_mode s_now_cast s_now_figures s_now_voices s_now_attacks s_now_supports, ceX6 a_numbers a_numbers_numbers s_numbers_length, ceX1 a_strife s_strife_hits s_strife_leads s_strife_defeats s_strife_defeaters, caI G a_numbers_numbers 12 g_numbers_numbers] sz) (va_Qi (fun (r : Int32) (u : Int32 × Int64 × Int64 × Int64 × Int64) => post r u.1 u.2.1 u.2.2.1 u.2.2.2.1 u.2.2.2.2) (hcB G (va_A [ceX10 h0 a_now a_kept a_reader a_numbers a_strife a_settled a_selection a_dispute a_trials a_refusals s_isKept, ceX3 a_now s_now_size s_now_heard s_now_mode s_now_cast s_now_figures s_now_voices s_now_attacks s_now_supports, ceX6 a_numbers a_numbers_numbers s_numbers_length, ceX1 a_strife s_strife_hits s_strife_leads s_strife_defeats s_strife_defeaters, caI G a_numbers_numbers 12 g_numbers_numbers] sz) (fun u : Int32 × Int64 × Int64 × Int64 × Int64 => [ceX10 h0 a_now a_kept a_reader a_numbers a_strife a_settled a_selection a_dispute a_trials a_refusals s_isKept, ceX3 a_now s_now_size s_now_heard s_now_mode s_now_cast s_now_figures s_now_voices s_now_attacks s_now_supports, ceX6 a_numbers a_numbers_numbers u.1, ceX1 a_strife u.2.1 u.2.2.1 u.2.2.2.1 u.2.2.2.2, caI G a_numbers_numbers 12 g_numbers_numbers])) (va_A [ceX10 h0 a_now a_kept a_reader a_numbers a_strife a_settled a_selection a_dispute a_trials a_refusals s_isKept, ceX3 a_now s_now_size s_now_heard s_now_mode s_now_cast s_now_figures s_now_voices s_now_attacks s_now_supports, ceX6 a_numbers a_numbers_numbers s_numbers_length, ceX1 a_strife s_strife_hits s_strife_leads s_strife_defeats s_strife_defeaters, caI G a_numbers_numbers 12 g_numbers_numbers] sz)) 0 0 (va_A [ceX10 h0 a_now a_kept a_reader a_numbers a_strife a_settled a_selection a_dispute a_trials a_refusals s_isKept, ceX3 a_now s_now_size s_now_heard s_now_mode s_now_cast s_now_figures s_now_voices s_now_attacks s_now_supports, ceX6 a_numbers a_numbers_numbers s_numbers_length, ceX1 a_strife s_strife_hits s_strife_leads s_strife_defeats s_strife_defeaters, caI G a_numbers_numbers 12 g_numbers_numbers] sz) := by
  refine Met.ofW (cc := cX10_judge) (maxL := 2) (ret := (some .int)) (by decide) rfl ?_
  intro p e s m args below meth c s₁ B hml hv
  obtain ⟨rfl, hsz, hP, hK, hD0⟩ := hv
  have hx := B.exec
  have hb := B.bytes
  have hr := B.returns
  have hts := atoms_spec (ws := wsX10_judge) B.pre
  have hown : s.vm.findClass RX10 = some m.cls := findClass_of_methodNamed B.named
  have hlocks := B.notSynchronized
  subst hsz
  have hD := hD0.self (sz := s.heap.size)
  generalize hAe : va_A [ceX10 h0 a_now a_kept a_reader a_numbers a_strife a_settled a_selection a_dispute a_trials a_refusals s_isKept, ceX3 a_now s_now_size s_now_heard s_now_mode s_now_cast s_now_figures s_now_voices s_now_attacks s_now_supports, ceX6 a_numbers a_numbers_numbers s_numbers_length, ceX1 a_strife s_strife_hits s_strife_leads s_strife_defeats s_strife_defeaters, caI G a_numbers_numbers 12 g_numbers_numbers] s.heap.size = A at hD ⊢
  have hA : ∀ q : Nat, s.heap.size ≤ q → A q := fun q h => by rw [← hAe]; exact Or.inr h
  have hS : va_S A s.heap s.heap [] := va_S.rf
  have hP : va_P G.1 vwCl [ceX10 h0 a_now a_kept a_reader a_numbers a_strife a_settled a_selection a_dispute a_trials a_refusals s_isKept, ceX3 a_now s_now_size s_now_heard s_now_mode s_now_cast s_now_figures s_now_voices s_now_attacks s_now_supports, ceX6 a_numbers a_numbers_numbers s_numbers_length, ceX1 a_strife s_strife_hits s_strife_leads s_strife_defeats s_strife_defeaters, caI G a_numbers_numbers 12 g_numbers_numbers] s.heap := hP
  have hl := lv_entry ([.ref h0]) (n := 2) (Nat.le_of_ble_eq_true rfl)
  rw [lg_entry_eq]
  generalize (lg_sl ([.ref h0]) ++ List.replicate (2 - (lg_sl ([.ref h0])).length) Slot.unset).toArray = ls at hl ⊢
  have hl : lv_has ls 2 [(0, .ref h0)] := hl
  have kf0 := hts (.fieldLink RX10 38 "HallOfClaims" "strife" "LHallOfClaims$Defeats;") (List.mem_of_getElem? (i := 1) (by decide +kernel))
  have kf1 := hts (.fieldLink RX10 10 "HallOfClaims" "now" "LHallOfClaims$Hall;") (List.mem_of_getElem? (i := 2) (by decide +kernel))
  have kf2 := hts (.fieldLink RX10 31 "HallOfClaims" "numbers" "LHallOfClaims$Row;") (List.mem_of_getElem? (i := 3) (by decide +kernel))
  have kf3 := hts (.fieldLink RX10 170 "HallOfClaims$Defeats" "defeaters" "J") (List.mem_of_getElem? (i := 4) (by decide +kernel))
  have kf4 := hts (.fieldLink RX10 96 "HallOfClaims$Row" "length" "I") (List.mem_of_getElem? (i := 5) (by decide +kernel))
  have ki_X10 : ∀ w ∈ u_ws RX10 TX10 11, w ∈ wsX10_judge := by decide +kernel
  have ki_X1 : ∀ w ∈ u_ws RX1 TX1 4, w ∈ wsX10_judge := by decide +kernel
  have ki_X6 : ∀ w ∈ u_ws RX6 TX6 2, w ∈ wsX10_judge := by decide +kernel
  unfold wp_X10_judge at h
  refine lv_aload_n hx hb dX10_judge_0 rfl (lv_at hl 0 rfl) ?_
  refine va_get (D := G.1) (ci := 8) (v := .ref a_strife) (C := RX10) (T := TX10) (N := 11) hx hb hts ki_X10 hown hK.1 hP 0 rfl rfl 4 (by decide) kf0 (fun _ h9 => h9) rfl dX10_judge_1 ?_
  refine lv_aload_n hx hb dX10_judge_4 rfl (lv_at hl 0 rfl) ?_
  refine va_get (D := G.1) (ci := 8) (v := .ref a_now) (C := RX10) (T := TX10) (N := 11) hx hb hts ki_X10 hown hK.1 hP 0 rfl rfl 0 (by decide) kf1 (fun _ h9 => h9) rfl dX10_judge_5 ?_
  refine hc_kv (va_runV (As := [.ref a_now]) (rest := []) ⟨hx, hb, hml, hown, hts⟩ (c_X1_reckon l G a_strife a_now H.size s_strife_hits s_strife_leads s_strife_defeats s_strife_defeaters s_now_size s_now_heard s_now_mode s_now_cast s_now_figures s_now_voices s_now_attacks s_now_supports _ h) (cwV 1 hts gX10_judge_X1_reckon rfl rfl rfl (by decide +kernel) ⟨Nat.le_of_ble_eq_true rfl, Nat.le_of_ble_eq_true rfl⟩) (hc_pV hK hP hD [3, 1] rfl rfl (ci := 0) 3 rfl rfl) rfl rfl hl.1 rfl (lv_room (Nat.le_of_ble_eq_true rfl)) dX10_judge_8 ⟨Nat.le_refl _, Nat.le_refl _⟩) hP hD hS hA [3, 1] [0, 2, 4] rfl rfl rfl (by decide) (fun u H locs h hP hD hS => ?_)
  obtain ⟨s_strife_hits_8, s_strife_leads_8, s_strife_defeats_8, s_strife_defeaters_8⟩ := u
  try dsimp only at h
  have hP : va_P G.1 vwCl [ceX10 h0 a_now a_kept a_reader a_numbers a_strife a_settled a_selection a_dispute a_trials a_refusals s_isKept, ceX6 a_numbers a_numbers_numbers s_numbers_length, caI G a_numbers_numbers 12 g_numbers_numbers, ceX1 a_strife s_strife_hits_8 s_strife_leads_8 s_strife_defeats_8 s_strife_defeaters_8, ceX3 a_now s_now_size s_now_heard s_now_mode s_now_cast s_now_figures s_now_voices s_now_attacks s_now_supports] H := hP
  have hD : va_D A [ceX10 h0 a_now a_kept a_reader a_numbers a_strife a_settled a_selection a_dispute a_trials a_refusals s_isKept, ceX6 a_numbers a_numbers_numbers s_numbers_length, caI G a_numbers_numbers 12 g_numbers_numbers, ceX1 a_strife s_strife_hits_8 s_strife_leads_8 s_strife_defeats_8 s_strife_defeaters_8, ceX3 a_now s_now_size s_now_heard s_now_mode s_now_cast s_now_figures s_now_voices s_now_attacks s_now_supports] := hD
  refine lv_aload_n hx hb dX10_judge_11 rfl (lv_at hl 0 rfl) ?_
  refine va_get (D := G.1) (ci := 8) (v := .ref a_numbers) (C := RX10) (T := TX10) (N := 11) hx hb hts ki_X10 hown hK.1 hP 0 rfl rfl 3 (by decide) kf2 (fun _ h9 => h9) rfl dX10_judge_12 ?_
  refine lv_aload_n hx hb dX10_judge_15 rfl (lv_at hl 0 rfl) ?_
  refine va_get (D := G.1) (ci := 8) (v := .ref a_now) (C := RX10) (T := TX10) (N := 11) hx hb hts ki_X10 hown hK.1 hP 0 rfl rfl 0 (by decide) kf1 (fun _ h9 => h9) rfl dX10_judge_16 ?_
  refine lv_aload_n hx hb dX10_judge_19 rfl (lv_at hl 0 rfl) ?_
  refine va_get (D := G.1) (ci := 8) (v := .ref a_strife) (C := RX10) (T := TX10) (N := 11) hx hb hts ki_X10 hown hK.1 hP 0 rfl rfl 4 (by decide) kf0 (fun _ h9 => h9) rfl dX10_judge_20 ?_
  refine va_get (D := G.1) (ci := 0) (v := .long s_strife_defeaters_8) (C := RX1) (T := TX1) (N := 4) hx hb hts ki_X1 hown hK.1 hP 3 rfl rfl 3 (by decide) kf3 (fun _ h9 => h9) rfl dX10_judge_23 ?_
  refine hc_ki (va_runS (As := [.ref a_numbers, .ref a_now, .long s_strife_defeaters_8]) (rest := []) ⟨hx, hb, hml, hown, hts⟩ (c_X4_judged l G a_numbers a_numbers_numbers a_now H.size 12 s_numbers_length s_now_size s_now_heard s_now_mode s_now_cast s_now_figures s_now_voices s_now_attacks s_now_supports g_numbers_numbers s_strife_defeaters_8 _ h) (va_cwS 3 hts gX10_judge_X4_judged rfl rfl rfl (by decide +kernel) ⟨Nat.le_of_ble_eq_true rfl, Nat.le_of_ble_eq_true rfl⟩) (hc_pS hK hP hD [1, 4, 2] rfl rfl) rfl rfl hl.1 rfl (lv_room (Nat.le_of_ble_eq_true rfl)) dX10_judge_26 ⟨Nat.le_refl _, Nat.le_refl _⟩) hP hD hS hA [1, 4, 2] [0, 3] rfl rfl rfl (by decide) (fun r26 u H locs h hP hD hS => ?_)
  try dsimp only at h
  have hP : va_P G.1 vwCl [ceX10 h0 a_now a_kept a_reader a_numbers a_strife a_settled a_selection a_dispute a_trials a_refusals s_isKept, ceX1 a_strife s_strife_hits_8 s_strife_leads_8 s_strife_defeats_8 s_strife_defeaters_8, ceX6 a_numbers a_numbers_numbers s_numbers_length, ceX3 a_now s_now_size s_now_heard s_now_mode s_now_cast s_now_figures s_now_voices s_now_attacks s_now_supports, caI G a_numbers_numbers 12 g_numbers_numbers] H := hP
  have hD : va_D A [ceX10 h0 a_now a_kept a_reader a_numbers a_strife a_settled a_selection a_dispute a_trials a_refusals s_isKept, ceX1 a_strife s_strife_hits_8 s_strife_leads_8 s_strife_defeats_8 s_strife_defeaters_8, ceX6 a_numbers a_numbers_numbers s_numbers_length, ceX3 a_now s_now_size s_now_heard s_now_mode s_now_cast s_now_figures s_now_voices s_now_attacks s_now_supports, caI G a_numbers_numbers 12 g_numbers_numbers] := hD
  refine lv_istore_n (lv' := [(1, .int r26), (0, .ref h0)]) hx hb dX10_judge_29 rfl hl (by decide) rfl (fun ls hl => ?_)
  refine lv_aload_n hx hb dX10_judge_30 rfl (lv_at hl 1 rfl) ?_
  refine va_get (D := G.1) (ci := 8) (v := .ref a_numbers) (C := RX10) (T := TX10) (N := 11) hx hb hts ki_X10 hown hK.1 hP 0 rfl rfl 3 (by decide) kf2 (fun _ h9 => h9) rfl dX10_judge_31 ?_
  refine lv_iconst (v := nI 0) hx hb dX10_judge_34 kc_0 ?_
  refine va_put (D := G.1) (ci := 4) (v := .int (nI 0)) (ty := .int) (C := RX6) (T := TX6) (N := 2) hx hb hts ki_X6 tyX6 tyX6_ok nmX6 hown hK.1 hP hD hS 2 rfl rfl 1 (by decide) kf4 (fun _ h9 => h9) rfl (by decide +kernel) rfl rfl (Nat.le_of_ble_eq_true rfl) dX10_judge_35 (fun H locs hP hD hS => ?_)
  have hP : va_P G.1 vwCl [ceX10 h0 a_now a_kept a_reader a_numbers a_strife a_settled a_selection a_dispute a_trials a_refusals s_isKept, ceX1 a_strife s_strife_hits_8 s_strife_leads_8 s_strife_defeats_8 s_strife_defeaters_8, ceX6 a_numbers a_numbers_numbers (nI 0), ceX3 a_now s_now_size s_now_heard s_now_mode s_now_cast s_now_figures s_now_voices s_now_attacks s_now_supports, caI G a_numbers_numbers 12 g_numbers_numbers] H := hP
  have hD : va_D A [ceX10 h0 a_now a_kept a_reader a_numbers a_strife a_settled a_selection a_dispute a_trials a_refusals s_isKept, ceX1 a_strife s_strife_hits_8 s_strife_leads_8 s_strife_defeats_8 s_strife_defeaters_8, ceX6 a_numbers a_numbers_numbers (nI 0), ceX3 a_now s_now_size s_now_heard s_now_mode s_now_cast s_now_figures s_now_voices s_now_attacks s_now_supports, caI G a_numbers_numbers 12 g_numbers_numbers] := hD
  refine lv_iload_n hx hb dX10_judge_38 rfl (lv_at hl 0 rfl) ?_
  exact W.iret (v := r26) hx hb hr (fun t ht hW => ⟨⟨_, ⟨(nI 0), s_strife_hits_8, s_strife_leads_8, s_strife_defeats_8, s_strife_defeaters_8⟩, rfl, h, ⟨by rw [ht]; exact (hP.sub [0, 3, 2, 1, 4] rfl), (hD.sub [0, 3, 2, 1, 4] (by decide) rfl)⟩⟩, hS.F ht⟩) hS.2.2 dX10_judge_39
set_option maxHeartbeats 4000000 in
set_option maxRecDepth 100000 in
theorem c_X10_clear (l : Launch) (G : hcG) (h0 : Nat) (a_now : Nat) (a_kept : Nat) (a_reader : Nat) (a_numbers : Nat) (a_strife : Nat) (a_settled : Nat) (a_selection : Nat) (a_dispute : Nat) (a_trials : Nat) (a_refusals : Nat) (a_numbers_numbers : Nat) (sz : Nat) (s_isKept : Int32) (s_numbers_length : Int32) (post : Int32 → Int32 → Prop) (h : wp_X10_clear post s_numbers_length) : Met l yX10_clear wsX10_clear ({ frames := 0, cells := 0, slots := 0, locals := 0 }) (hcPc G [.ref h0] [ceX10 h0 a_now a_kept a_reader a_numbers a_strife a_settled a_selection a_dispute a_trials a_refusals s_isKept, ceX6 a_numbers a_numbers_numbers s_numbers_length] sz) (va_Qi (fun (r : Int32) (u : Int32) => post r u) (hcB G (va_A [ceX10 h0 a_now a_kept a_reader a_numbers a_strife a_settled a_selection a_dispute a_trials a_refusals s_isKept, ceX6 a_numbers a_numbers_numbers s_numbers_length] sz) (fun u : Int32 => [ceX10 h0 a_now a_kept a_reader a_numbers a_strife a_settled a_selection a_dispute a_trials a_refusals s_isKept, ceX6 a_numbers a_numbers_numbers u])) (va_A [ceX10 h0 a_now a_kept a_reader a_numbers a_strife a_settled a_selection a_dispute a_trials a_refusals s_isKept, ceX6 a_numbers a_numbers_numbers s_numbers_length] sz)) 0 0 (va_A [ceX10 h0 a_now a_kept a_reader a_numbers a_strife a_settled a_selection a_dispute a_trials a_refusals s_isKept, ceX6 a_numbers a_numbers_numbers s_numbers_length] sz) := by
  refine Met.ofW (cc := cX10_clear) (maxL := 2) (ret := (some .int)) (by decide) rfl ?_
  intro p e s m args below meth c s₁ B hml hv
  obtain ⟨rfl, hsz, hP, hK, hD0⟩ := hv
  have hx := B.exec
  have hb := B.bytes
  have hr := B.returns
  have hts := atoms_spec (ws := wsX10_clear) B.pre
  have hown : s.vm.findClass RX10 = some m.cls := findClass_of_methodNamed B.named
  have hlocks := B.notSynchronized
  subst hsz
  have hD := hD0.self (sz := s.heap.size)
  generalize hAe : va_A [ceX10 h0 a_now a_kept a_reader a_numbers a_strife a_settled a_selection a_dispute a_trials a_refusals s_isKept, ceX6 a_numbers a_numbers_numbers s_numbers_length] s.heap.size = A at hD ⊢
  have hA : ∀ q : Nat, s.heap.size ≤ q → A q := fun q h => by rw [← hAe]; exact Or.inr h
  have hS : va_S A s.heap s.heap [] := va_S.rf
  have hP : va_P G.1 vwCl [ceX10 h0 a_now a_kept a_reader a_numbers a_strife a_settled a_selection a_dispute a_trials a_refusals s_isKept, ceX6 a_numbers a_numbers_numbers s_numbers_length] s.heap := hP
  have hl := lv_entry ([.ref h0]) (n := 2) (Nat.le_of_ble_eq_true rfl)
  rw [lg_entry_eq]
  generalize (lg_sl ([.ref h0]) ++ List.replicate (2 - (lg_sl ([.ref h0])).length) Slot.unset).toArray = ls at hl ⊢
  have hl : lv_has ls 2 [(0, .ref h0)] := hl
  have kf0 := hts (.fieldLink RX10 31 "HallOfClaims" "numbers" "LHallOfClaims$Row;") (List.mem_of_getElem? (i := 1) (by decide +kernel))
  have kf1 := hts (.fieldLink RX10 96 "HallOfClaims$Row" "length" "I") (List.mem_of_getElem? (i := 2) (by decide +kernel))
  have ki_X10 : ∀ w ∈ u_ws RX10 TX10 11, w ∈ wsX10_clear := by decide +kernel
  have ki_X6 : ∀ w ∈ u_ws RX6 TX6 2, w ∈ wsX10_clear := by decide +kernel
  unfold wp_X10_clear at h
  refine lv_aload_n hx hb dX10_clear_0 rfl (lv_at hl 0 rfl) ?_
  refine va_get (D := G.1) (ci := 8) (v := .ref a_numbers) (C := RX10) (T := TX10) (N := 11) hx hb hts ki_X10 hown hK.1 hP 0 rfl rfl 3 (by decide) kf0 (fun _ h9 => h9) rfl dX10_clear_1 ?_
  refine va_get (D := G.1) (ci := 4) (v := .int s_numbers_length) (C := RX6) (T := TX6) (N := 2) hx hb hts ki_X6 hown hK.1 hP 1 rfl rfl 1 (by decide) kf1 (fun _ h9 => h9) rfl dX10_clear_4 ?_
  refine lv_istore_n (lv' := [(1, .int s_numbers_length), (0, .ref h0)]) hx hb dX10_clear_7 rfl hl (by decide) rfl (fun ls hl => ?_)
  refine lv_aload_n hx hb dX10_clear_8 rfl (lv_at hl 1 rfl) ?_
  refine va_get (D := G.1) (ci := 8) (v := .ref a_numbers) (C := RX10) (T := TX10) (N := 11) hx hb hts ki_X10 hown hK.1 hP 0 rfl rfl 3 (by decide) kf0 (fun _ h9 => h9) rfl dX10_clear_9 ?_
  refine lv_iconst (v := nI 0) hx hb dX10_clear_12 kc_0 ?_
  refine va_put (D := G.1) (ci := 4) (v := .int (nI 0)) (ty := .int) (C := RX6) (T := TX6) (N := 2) hx hb hts ki_X6 tyX6 tyX6_ok nmX6 hown hK.1 hP hD hS 1 rfl rfl 1 (by decide) kf1 (fun _ h9 => h9) rfl (by decide +kernel) rfl rfl (Nat.le_of_ble_eq_true rfl) dX10_clear_13 (fun H locs hP hD hS => ?_)
  have hP : va_P G.1 vwCl [ceX10 h0 a_now a_kept a_reader a_numbers a_strife a_settled a_selection a_dispute a_trials a_refusals s_isKept, ceX6 a_numbers a_numbers_numbers (nI 0)] H := hP
  have hD : va_D A [ceX10 h0 a_now a_kept a_reader a_numbers a_strife a_settled a_selection a_dispute a_trials a_refusals s_isKept, ceX6 a_numbers a_numbers_numbers (nI 0)] := hD
  refine lv_iload_n hx hb dX10_clear_16 rfl (lv_at hl 0 rfl) ?_
  exact W.iret (v := s_numbers_length) hx hb hr (fun t ht hW => ⟨⟨_, (nI 0), rfl, h, ⟨by rw [ht]; exact hP, hD⟩⟩, hS.F ht⟩) hS.2.2 dX10_clear_17
set_option maxHeartbeats 4000000 in
set_option maxRecDepth 100000 in
theorem c_X10_speakers (l : Launch) (G : hcG) (h0 : Nat) (a_now : Nat) (a_kept : Nat) (a_reader : Nat) (a_numbers : Nat) (a_strife : Nat) (a_settled : Nat) (a_selection : Nat) (a_dispute : Nat) (a_trials : Nat) (a_refusals : Nat) (sz : Nat) (s_isKept : Int32) (s_now_size : Int32) (s_now_heard : Int32) (s_now_mode : Int32) (s_now_cast : Int64) (s_now_figures : Int64) (s_now_voices : Int64) (s_now_attacks : Int64) (s_now_supports : Int64) (s_strife_hits : Int64) (s_strife_leads : Int64) (s_strife_defeats : Int64) (s_strife_defeaters : Int64) (s_settled_in : Int32) (s_settled_out : Int32) (s_settled_length : Int32) (s_settled_order : Int64) (g_refusals : Nat → Int32) (x1 : Int32) (x2 : Int32) (post : Int32 → Int64 → Int64 → Int64 → Int64 → Int32 → Int32 → Int32 → Int64 → (Nat → Int32) → Prop) (h : wp_X10_speakers post s_now_size s_now_heard s_now_mode s_now_cast s_now_figures s_now_voices s_now_attacks s_now_supports s_strife_hits s_strife_leads s_strife_defeats s_strife_defeaters s_settled_in s_settled_out s_settled_length s_settled_order g_refusals x1 x2) : Met l yX10_speakers wsX10_speakers ({ frames := 5, cells := 0, slots := 0, locals := 116 }) (hcPc G [.ref h0, .int x1, .int x2] [ceX10 h0 a_now a_kept a_reader a_numbers a_strife a_settled a_selection a_dispute a_trials a_refusals s_isKept, ceX3 a_now s_now_size s_now_heard s_now_mode s_now_cast s_now_figures s_now_voices s_now_attacks s_now_supports, ceX1 a_strife s_strife_hits s_strife_leads s_strife_defeats s_strife_defeaters, ceX9 a_settled s_settled_in s_settled_out s_settled_length s_settled_order, caI G a_refusals 7 g_refusals] sz) (va_Qi (fun (r : Int32) (u : Int64 × Int64 × Int64 × Int64 × Int32 × Int32 × Int32 × Int64 × (Nat → Int32)) => post r u.1 u.2.1 u.2.2.1 u.2.2.2.1 u.2.2.2.2.1 u.2.2.2.2.2.1 u.2.2.2.2.2.2.1 u.2.2.2.2.2.2.2.1 u.2.2.2.2.2.2.2.2) (hcB G (va_A [ceX10 h0 a_now a_kept a_reader a_numbers a_strife a_settled a_selection a_dispute a_trials a_refusals s_isKept, ceX3 a_now s_now_size s_now_heard s_now_mode s_now_cast s_now_figures s_now_voices s_now_attacks s_now_supports, ceX1 a_strife s_strife_hits s_strife_leads s_strife_defeats s_strife_defeaters, ceX9 a_settled s_settled_in s_settled_out s_settled_length s_settled_order, caI G a_refusals 7 g_refusals] sz) (fun u : Int64 × Int64 × Int64 × Int64 × Int32 × Int32 × Int32 × Int64 × (Nat → Int32) => [ceX10 h0 a_now a_kept a_reader a_numbers a_strife a_settled a_selection a_dispute a_trials a_refusals s_isKept, ceX3 a_now s_now_size s_now_heard s_now_mode s_now_cast s_now_figures s_now_voices s_now_attacks s_now_supports, ceX1 a_strife u.1 u.2.1 u.2.2.1 u.2.2.2.1, ceX9 a_settled u.2.2.2.2.1 u.2.2.2.2.2.1 u.2.2.2.2.2.2.1 u.2.2.2.2.2.2.2.1, caI G a_refusals 7 u.2.2.2.2.2.2.2.2])) (va_A [ceX10 h0 a_now a_kept a_reader a_numbers a_strife a_settled a_selection a_dispute a_trials a_refusals s_isKept, ceX3 a_now s_now_size s_now_heard s_now_mode s_now_cast s_now_figures s_now_voices s_now_attacks s_now_supports, ceX1 a_strife s_strife_hits s_strife_leads s_strife_defeats s_strife_defeaters, ceX9 a_settled s_settled_in s_settled_out s_settled_length s_settled_order, caI G a_refusals 7 g_refusals] sz)) 0 0 (va_A [ceX10 h0 a_now a_kept a_reader a_numbers a_strife a_settled a_selection a_dispute a_trials a_refusals s_isKept, ceX3 a_now s_now_size s_now_heard s_now_mode s_now_cast s_now_figures s_now_voices s_now_attacks s_now_supports, ceX1 a_strife s_strife_hits s_strife_leads s_strife_defeats s_strife_defeaters, ceX9 a_settled s_settled_in s_settled_out s_settled_length s_settled_order, caI G a_refusals 7 g_refusals] sz) := by
  refine Met.ofW (cc := cX10_speakers) (maxL := 5) (ret := (some .int)) (by decide) rfl ?_
  intro p e s m args below meth c s₁ B hml hv
  obtain ⟨rfl, hsz, hP, hK, hD0⟩ := hv
  have hx := B.exec
  have hb := B.bytes
  have hr := B.returns
  have hts := atoms_spec (ws := wsX10_speakers) B.pre
  have hown : s.vm.findClass RX10 = some m.cls := findClass_of_methodNamed B.named
  have hlocks := B.notSynchronized
  subst hsz
  have hD := hD0.self (sz := s.heap.size)
  generalize hAe : va_A [ceX10 h0 a_now a_kept a_reader a_numbers a_strife a_settled a_selection a_dispute a_trials a_refusals s_isKept, ceX3 a_now s_now_size s_now_heard s_now_mode s_now_cast s_now_figures s_now_voices s_now_attacks s_now_supports, ceX1 a_strife s_strife_hits s_strife_leads s_strife_defeats s_strife_defeaters, ceX9 a_settled s_settled_in s_settled_out s_settled_length s_settled_order, caI G a_refusals 7 g_refusals] s.heap.size = A at hD ⊢
  have hA : ∀ q : Nat, s.heap.size ≤ q → A q := fun q h => by rw [← hAe]; exact Or.inr h
  have hS : va_S A s.heap s.heap [] := va_S.rf
  have hP : va_P G.1 vwCl [ceX10 h0 a_now a_kept a_reader a_numbers a_strife a_settled a_selection a_dispute a_trials a_refusals s_isKept, ceX3 a_now s_now_size s_now_heard s_now_mode s_now_cast s_now_figures s_now_voices s_now_attacks s_now_supports, ceX1 a_strife s_strife_hits s_strife_leads s_strife_defeats s_strife_defeaters, ceX9 a_settled s_settled_in s_settled_out s_settled_length s_settled_order, caI G a_refusals 7 g_refusals] s.heap := hP
  have hl := lv_entry ([.ref h0, .int x1, .int x2]) (n := 5) (Nat.le_of_ble_eq_true rfl)
  rw [lg_entry_eq]
  generalize (lg_sl ([.ref h0, .int x1, .int x2]) ++ List.replicate (5 - (lg_sl ([.ref h0, .int x1, .int x2])).length) Slot.unset).toArray = ls at hl ⊢
  have hl : lv_has ls 5 [(0, .ref h0), (1, .int x1), (2, .int x2)] := hl
  have kf0 := hts (.fieldLink RX10 10 "HallOfClaims" "now" "LHallOfClaims$Hall;") (List.mem_of_getElem? (i := 1) (by decide +kernel))
  have kf1 := hts (.fieldLink RX10 45 "HallOfClaims" "settled" "LHallOfClaims$Turns;") (List.mem_of_getElem? (i := 2) (by decide +kernel))
  have kf2 := hts (.fieldLink RX10 281 "HallOfClaims$Turns" "in" "I") (List.mem_of_getElem? (i := 3) (by decide +kernel))
  have ki_X10 : ∀ w ∈ u_ws RX10 TX10 11, w ∈ wsX10_speakers := by decide +kernel
  have ki_X9 : ∀ w ∈ u_ws RX9 TX9 4, w ∈ wsX10_speakers := by decide +kernel
  unfold wp_X10_speakers at h
  refine lv_iload_n hx hb dX10_speakers_0 rfl (lv_at hl 1 rfl) ?_
  refine lv_iconst (v := (-1 : Int32)) hx hb dX10_speakers_1 kc_m1 ?_
  refine lv_icmp_ne (tgt := 13) hx hb dX10_speakers_2 (by decide) (fun c => ?_) (fun c => ?_)
  · replace h := h.1 c
    refine lv_aload_n hx hb dX10_speakers_13 rfl (lv_at hl 0 rfl) ?_
    refine va_get (D := G.1) (ci := 8) (v := .ref a_now) (C := RX10) (T := TX10) (N := 11) hx hb hts ki_X10 hown hK.1 hP 0 rfl rfl 0 (by decide) kf0 (fun _ h9 => h9) rfl dX10_speakers_14 ?_
    refine lv_iload_n hx hb dX10_speakers_17 rfl (lv_at hl 1 rfl) ?_
    refine hc_ki (va_runV (As := [.int x1]) (rest := []) ⟨hx, hb, hml, hown, hts⟩ (c_X3_speakerAt l G a_now H.size s_now_size s_now_heard s_now_mode s_now_cast s_now_figures s_now_voices s_now_attacks s_now_supports x1 _ h) (cwV 1 hts gX10_speakers_X3_speakerAt rfl rfl rfl (by decide +kernel) ⟨Nat.le_of_ble_eq_true rfl, Nat.le_of_ble_eq_true rfl⟩) (hc_pV hK hP hD [1] rfl rfl (ci := 2) 1 rfl rfl) rfl rfl hl.1 rfl (lv_room (Nat.le_of_ble_eq_true rfl)) dX10_speakers_18 ⟨Nat.le_refl _, Nat.le_refl _⟩) hP hD hS hA [1] [0, 2, 3, 4] rfl rfl rfl (by decide) (fun r18 u H locs h hP hD hS => ?_)
    try dsimp only at h
    have hP : va_P G.1 vwCl [ceX10 h0 a_now a_kept a_reader a_numbers a_strife a_settled a_selection a_dispute a_trials a_refusals s_isKept, ceX1 a_strife s_strife_hits s_strife_leads s_strife_defeats s_strife_defeaters, ceX9 a_settled s_settled_in s_settled_out s_settled_length s_settled_order, caI G a_refusals 7 g_refusals, ceX3 a_now s_now_size s_now_heard s_now_mode s_now_cast s_now_figures s_now_voices s_now_attacks s_now_supports] H := hP
    have hD : va_D A [ceX10 h0 a_now a_kept a_reader a_numbers a_strife a_settled a_selection a_dispute a_trials a_refusals s_isKept, ceX1 a_strife s_strife_hits s_strife_leads s_strife_defeats s_strife_defeaters, ceX9 a_settled s_settled_in s_settled_out s_settled_length s_settled_order, caI G a_refusals 7 g_refusals, ceX3 a_now s_now_size s_now_heard s_now_mode s_now_cast s_now_figures s_now_voices s_now_attacks s_now_supports] := hD
    refine lv_istore_n (lv' := [(3, .int r18), (0, .ref h0), (1, .int x1), (2, .int x2)]) hx hb dX10_speakers_21 rfl hl (by decide) rfl (fun ls hl => ?_)
    refine lv_iload_n hx hb dX10_speakers_22 rfl (lv_at hl 0 rfl) ?_
    refine lv_if_ge (tgt := 32) hx hb dX10_speakers_23 (by decide) (fun c => ?_) (fun c => ?_)
    · replace h := h.1 c
      refine lv_iload_n hx hb dX10_speakers_32 rfl (lv_at hl 3 rfl) ?_
      refine lv_if_lt (tgt := 41) hx hb dX10_speakers_33 (by decide) (fun c => ?_) (fun c => ?_)
      · replace h := h.1 c
        refine lv_aload_n hx hb dX10_speakers_41 rfl (lv_at hl 1 rfl) ?_
        refine lv_bipush (v := (-2 : Int32)) hx hb dX10_speakers_42 kb_m2 ?_
        refine hc_ki (va_runV (As := [.int ((-2 : Int32))]) (rest := []) ⟨hx, hb, hml, hown, hts⟩ (c_X10_refuse l G h0 a_now a_kept a_reader a_numbers a_strife a_settled a_selection a_dispute a_trials a_refusals H.size s_isKept g_refusals ((-2 : Int32)) _ h) (cwV 1 hts gX10_speakers_X10_refuse rfl rfl rfl (by decide +kernel) ⟨Nat.le_of_ble_eq_true rfl, Nat.le_of_ble_eq_true rfl⟩) (hc_pV hK hP hD [0, 3] rfl rfl (ci := 8) 0 rfl rfl) rfl rfl hl.1 rfl (lv_room (Nat.le_of_ble_eq_true rfl)) dX10_speakers_44 ⟨Nat.le_refl _, Nat.le_refl _⟩) hP hD hS hA [0, 3] [1, 2, 4] rfl rfl rfl (by decide) (fun r44 u H locs h hP hD hS => ?_)
        obtain ⟨g_refusals_44, rfl⟩ : ∃ z, z = u := ⟨_, rfl⟩
        try dsimp only at h
        have hP : va_P G.1 vwCl [ceX1 a_strife s_strife_hits s_strife_leads s_strife_defeats s_strife_defeaters, ceX9 a_settled s_settled_in s_settled_out s_settled_length s_settled_order, ceX3 a_now s_now_size s_now_heard s_now_mode s_now_cast s_now_figures s_now_voices s_now_attacks s_now_supports, ceX10 h0 a_now a_kept a_reader a_numbers a_strife a_settled a_selection a_dispute a_trials a_refusals s_isKept, caI G a_refusals 7 g_refusals_44] H := hP
        have hD : va_D A [ceX1 a_strife s_strife_hits s_strife_leads s_strife_defeats s_strife_defeaters, ceX9 a_settled s_settled_in s_settled_out s_settled_length s_settled_order, ceX3 a_now s_now_size s_now_heard s_now_mode s_now_cast s_now_figures s_now_voices s_now_attacks s_now_supports, ceX10 h0 a_now a_kept a_reader a_numbers a_strife a_settled a_selection a_dispute a_trials a_refusals s_isKept, caI G a_refusals 7 g_refusals_44] := hD
        exact W.iret (v := r44) hx hb hr (fun t ht hW => ⟨⟨_, ⟨s_strife_hits, s_strife_leads, s_strife_defeats, s_strife_defeaters, s_settled_in, s_settled_out, s_settled_length, s_settled_order, g_refusals_44⟩, rfl, h, ⟨by rw [ht]; exact (hP.sub [3, 2, 0, 1, 4] rfl), (hD.sub [3, 2, 0, 1, 4] (by decide) rfl)⟩⟩, hS.F ht⟩) hS.2.2 dX10_speakers_47
      · replace h := h.2 c
        refine lv_iload_n hx hb dX10_speakers_36 rfl (lv_at hl 3 rfl) ?_
        refine lv_iconst (v := nI 3) hx hb dX10_speakers_37 kc_3 ?_
        refine lv_icmp_le (tgt := 48) hx hb dX10_speakers_38 (by decide) (fun c => ?_) (fun c => ?_)
        · replace h := h.1 c
          refine lv_aload_n hx hb dX10_speakers_48 rfl (lv_at hl 1 rfl) ?_
          refine va_get (D := G.1) (ci := 8) (v := .ref a_now) (C := RX10) (T := TX10) (N := 11) hx hb hts ki_X10 hown hK.1 hP 0 rfl rfl 0 (by decide) kf0 (fun _ h9 => h9) rfl dX10_speakers_49 ?_
          refine lv_iload_n hx hb dX10_speakers_52 rfl (lv_at hl 0 rfl) ?_
          refine hc_ki (va_runV (As := [.int r18]) (rest := []) ⟨hx, hb, hml, hown, hts⟩ (c_X3_claimsOf l G a_now H.size s_now_size s_now_heard s_now_mode s_now_cast s_now_figures s_now_voices s_now_attacks s_now_supports r18 _ h) (cwV 1 hts gX10_speakers_X3_claimsOf rfl rfl rfl (by decide +kernel) ⟨Nat.le_of_ble_eq_true rfl, Nat.le_of_ble_eq_true rfl⟩) (hc_pV hK hP hD [4] rfl rfl (ci := 2) 4 rfl rfl) rfl rfl hl.1 rfl (lv_room (Nat.le_of_ble_eq_true rfl)) dX10_speakers_53 ⟨Nat.le_refl _, Nat.le_refl _⟩) hP hD hS hA [4] [0, 1, 2, 3] rfl rfl rfl (by decide) (fun r53 u H locs h hP hD hS => ?_)
          try dsimp only at h
          have hP : va_P G.1 vwCl [ceX10 h0 a_now a_kept a_reader a_numbers a_strife a_settled a_selection a_dispute a_trials a_refusals s_isKept, ceX1 a_strife s_strife_hits s_strife_leads s_strife_defeats s_strife_defeaters, ceX9 a_settled s_settled_in s_settled_out s_settled_length s_settled_order, caI G a_refusals 7 g_refusals, ceX3 a_now s_now_size s_now_heard s_now_mode s_now_cast s_now_figures s_now_voices s_now_attacks s_now_supports] H := hP
          have hD : va_D A [ceX10 h0 a_now a_kept a_reader a_numbers a_strife a_settled a_selection a_dispute a_trials a_refusals s_isKept, ceX1 a_strife s_strife_hits s_strife_leads s_strife_defeats s_strife_defeaters, ceX9 a_settled s_settled_in s_settled_out s_settled_length s_settled_order, caI G a_refusals 7 g_refusals, ceX3 a_now s_now_size s_now_heard s_now_mode s_now_cast s_now_figures s_now_voices s_now_attacks s_now_supports] := hD
          refine lv_istore (lv' := [(4, .int r53), (3, .int r18), (0, .ref h0), (1, .int x1), (2, .int x2)]) hx hb dX10_speakers_56 hl (by decide) rfl (fun ls hl => ?_)
          refine lv_iload_n hx hb dX10_speakers_58 rfl (lv_at hl 4 rfl) ?_
          rcases hc_sw2 x2 with c | c | c | c
          · refine lv_tableOut (tgt := 110) hx hb dX10_speakers_59 c (by decide) ?_
            replace h := h.1 c
            refine lv_aload_n hx hb dX10_speakers_110 rfl (lv_at hl 2 rfl) ?_
            refine va_get (D := G.1) (ci := 8) (v := .ref a_now) (C := RX10) (T := TX10) (N := 11) hx hb hts ki_X10 hown hK.1 hP 0 rfl rfl 0 (by decide) kf0 (fun _ h9 => h9) rfl dX10_speakers_111 ?_
            refine lv_iload hx hb dX10_speakers_114 (lv_at hl 0 rfl) ?_
            refine hc_ki (va_runV (As := [.int r53]) (rest := []) ⟨hx, hb, hml, hown, hts⟩ (c_X3_greatestFigure l G a_now H.size s_now_size s_now_heard s_now_mode s_now_cast s_now_figures s_now_voices s_now_attacks s_now_supports r53 _ h) (cwV 1 hts gX10_speakers_X3_greatestFigure rfl rfl rfl (by decide +kernel) ⟨Nat.le_of_ble_eq_true rfl, Nat.le_of_ble_eq_true rfl⟩) (hc_pV hK hP hD [4] rfl rfl (ci := 2) 4 rfl rfl) rfl rfl hl.1 rfl (lv_room (Nat.le_of_ble_eq_true rfl)) dX10_speakers_116 ⟨Nat.le_refl _, Nat.le_refl _⟩) hP hD hS hA [4] [0, 1, 2, 3] rfl rfl rfl (by decide) (fun r116 u H locs h hP hD hS => ?_)
            try dsimp only at h
            have hP : va_P G.1 vwCl [ceX10 h0 a_now a_kept a_reader a_numbers a_strife a_settled a_selection a_dispute a_trials a_refusals s_isKept, ceX1 a_strife s_strife_hits s_strife_leads s_strife_defeats s_strife_defeaters, ceX9 a_settled s_settled_in s_settled_out s_settled_length s_settled_order, caI G a_refusals 7 g_refusals, ceX3 a_now s_now_size s_now_heard s_now_mode s_now_cast s_now_figures s_now_voices s_now_attacks s_now_supports] H := hP
            have hD : va_D A [ceX10 h0 a_now a_kept a_reader a_numbers a_strife a_settled a_selection a_dispute a_trials a_refusals s_isKept, ceX1 a_strife s_strife_hits s_strife_leads s_strife_defeats s_strife_defeaters, ceX9 a_settled s_settled_in s_settled_out s_settled_length s_settled_order, caI G a_refusals 7 g_refusals, ceX3 a_now s_now_size s_now_heard s_now_mode s_now_cast s_now_figures s_now_voices s_now_attacks s_now_supports] := hD
            exact W.iret (v := r116) hx hb hr (fun t ht hW => ⟨⟨_, ⟨s_strife_hits, s_strife_leads, s_strife_defeats, s_strife_defeaters, s_settled_in, s_settled_out, s_settled_length, s_settled_order, g_refusals⟩, rfl, h, ⟨by rw [ht]; exact (hP.sub [0, 4, 1, 2, 3] rfl), (hD.sub [0, 4, 1, 2, 3] (by decide) rfl)⟩⟩, hS.F ht⟩) hS.2.2 dX10_speakers_119
          · refine lv_tableIn (tgt := 84) (off := 25) hx hb dX10_speakers_59 (by rw [c]; decide) (by rw [c]; decide) (by rw [c]; decide +kernel) (by decide) ?_
            replace h := h.2.1 c
            refine lv_iload_n hx hb dX10_speakers_84 rfl (lv_at hl 1 rfl) ?_
            exact W.iret (v := r18) hx hb hr (fun t ht hW => ⟨⟨_, ⟨s_strife_hits, s_strife_leads, s_strife_defeats, s_strife_defeaters, s_settled_in, s_settled_out, s_settled_length, s_settled_order, g_refusals⟩, rfl, h, ⟨by rw [ht]; exact (hP.sub [0, 4, 1, 2, 3] rfl), (hD.sub [0, 4, 1, 2, 3] (by decide) rfl)⟩⟩, hS.F ht⟩) hS.2.2 dX10_speakers_85
          · refine lv_tableIn (tgt := 86) (off := 27) hx hb dX10_speakers_59 (by rw [c]; decide) (by rw [c]; decide) (by rw [c]; decide +kernel) (by decide) ?_
            replace h := h.2.2.1 c
            refine lv_iload hx hb dX10_speakers_86 (lv_at hl 0 rfl) ?_
            refine hc_ki (va_runS (As := [.int r53]) (rest := []) ⟨hx, hb, hml, hown, hts⟩ (c_J6_bitCount_0f7a4 l G H.size r53 _ h) (va_cwS 1 hts gX10_speakers_J6_bitCount_0f7a4 rfl rfl rfl (by decide +kernel) ⟨Nat.le_of_ble_eq_true rfl, Nat.le_of_ble_eq_true rfl⟩) (hc_pS hK hP hD [] rfl rfl) rfl rfl hl.1 rfl (lv_room (Nat.le_of_ble_eq_true rfl)) dX10_speakers_88 ⟨Nat.le_refl _, Nat.le_refl _⟩) hP hD hS hA [] [0, 1, 2, 3, 4] rfl rfl rfl (by decide) (fun r88 u H locs h hP hD hS => ?_)
            try dsimp only at h
            have hP : va_P G.1 vwCl [ceX10 h0 a_now a_kept a_reader a_numbers a_strife a_settled a_selection a_dispute a_trials a_refusals s_isKept, ceX1 a_strife s_strife_hits s_strife_leads s_strife_defeats s_strife_defeaters, ceX9 a_settled s_settled_in s_settled_out s_settled_length s_settled_order, caI G a_refusals 7 g_refusals, ceX3 a_now s_now_size s_now_heard s_now_mode s_now_cast s_now_figures s_now_voices s_now_attacks s_now_supports] H := hP
            have hD : va_D A [ceX10 h0 a_now a_kept a_reader a_numbers a_strife a_settled a_selection a_dispute a_trials a_refusals s_isKept, ceX1 a_strife s_strife_hits s_strife_leads s_strife_defeats s_strife_defeaters, ceX9 a_settled s_settled_in s_settled_out s_settled_length s_settled_order, caI G a_refusals 7 g_refusals, ceX3 a_now s_now_size s_now_heard s_now_mode s_now_cast s_now_figures s_now_voices s_now_attacks s_now_supports] := hD
            exact W.iret (v := r88) hx hb hr (fun t ht hW => ⟨⟨_, ⟨s_strife_hits, s_strife_leads, s_strife_defeats, s_strife_defeaters, s_settled_in, s_settled_out, s_settled_length, s_settled_order, g_refusals⟩, rfl, h, ⟨by rw [ht]; exact (hP.sub [0, 4, 1, 2, 3] rfl), (hD.sub [0, 4, 1, 2, 3] (by decide) rfl)⟩⟩, hS.F ht⟩) hS.2.2 dX10_speakers_91
          · refine lv_tableIn (tgt := 92) (off := 33) hx hb dX10_speakers_59 (by rw [c]; decide) (by rw [c]; decide) (by rw [c]; decide +kernel) (by decide) ?_
            replace h := h.2.2.2 c
            refine lv_aload_n hx hb dX10_speakers_92 rfl (lv_at hl 2 rfl) ?_
            refine hc_kv (va_runV (As := []) (rest := []) ⟨hx, hb, hml, hown, hts⟩ (c_X10_settle l G h0 a_now a_kept a_reader a_numbers a_strife a_settled a_selection a_dispute a_trials a_refusals H.size s_isKept s_now_size s_now_heard s_now_mode s_now_cast s_now_figures s_now_voices s_now_attacks s_now_supports s_strife_hits s_strife_leads s_strife_defeats s_strife_defeaters s_settled_in s_settled_out s_settled_length s_settled_order _ h) (cwV 0 hts gX10_speakers_X10_settle rfl rfl rfl (by decide +kernel) ⟨Nat.le_of_ble_eq_true rfl, Nat.le_of_ble_eq_true rfl⟩) (hc_pV hK hP hD [0, 4, 1, 2] rfl rfl (ci := 8) 0 rfl rfl) rfl rfl hl.1 rfl (lv_room (Nat.le_of_ble_eq_true rfl)) dX10_speakers_93 ⟨Nat.le_refl _, Nat.le_refl _⟩) hP hD hS hA [0, 4, 1, 2] [3] rfl rfl rfl (by decide) (fun u H locs h hP hD hS => ?_)
            obtain ⟨s_strife_hits_93, s_strife_leads_93, s_strife_defeats_93, s_strife_defeaters_93, s_settled_in_93, s_settled_out_93, s_settled_length_93, s_settled_order_93⟩ := u
            try dsimp only at h
            have hP : va_P G.1 vwCl [caI G a_refusals 7 g_refusals, ceX10 h0 a_now a_kept a_reader a_numbers a_strife a_settled a_selection a_dispute a_trials a_refusals s_isKept, ceX3 a_now s_now_size s_now_heard s_now_mode s_now_cast s_now_figures s_now_voices s_now_attacks s_now_supports, ceX1 a_strife s_strife_hits_93 s_strife_leads_93 s_strife_defeats_93 s_strife_defeaters_93, ceX9 a_settled s_settled_in_93 s_settled_out_93 s_settled_length_93 s_settled_order_93] H := hP
            have hD : va_D A [caI G a_refusals 7 g_refusals, ceX10 h0 a_now a_kept a_reader a_numbers a_strife a_settled a_selection a_dispute a_trials a_refusals s_isKept, ceX3 a_now s_now_size s_now_heard s_now_mode s_now_cast s_now_figures s_now_voices s_now_attacks s_now_supports, ceX1 a_strife s_strife_hits_93 s_strife_leads_93 s_strife_defeats_93 s_strife_defeaters_93, ceX9 a_settled s_settled_in_93 s_settled_out_93 s_settled_length_93 s_settled_order_93] := hD
            refine lv_iload hx hb dX10_speakers_96 (lv_at hl 0 rfl) ?_
            refine lv_aload_n hx hb dX10_speakers_98 rfl (lv_at hl 2 rfl) ?_
            refine va_get (D := G.1) (ci := 8) (v := .ref a_settled) (C := RX10) (T := TX10) (N := 11) hx hb hts ki_X10 hown hK.1 hP 1 rfl rfl 5 (by decide) kf1 (fun _ h9 => h9) rfl dX10_speakers_99 ?_
            refine va_get (D := G.1) (ci := 7) (v := .int s_settled_in_93) (C := RX9) (T := TX9) (N := 4) hx hb hts ki_X9 hown hK.1 hP 4 rfl rfl 0 (by decide) kf2 (fun _ h9 => h9) rfl dX10_speakers_102 ?_
            refine lv_iand hx hb dX10_speakers_105 ?_
            refine hc_ki (va_runS (As := [.int (r53 &&& s_settled_in_93)]) (rest := []) ⟨hx, hb, hml, hown, hts⟩ (c_J6_bitCount_0f7a4 l G H.size (r53 &&& s_settled_in_93) _ h) (va_cwS 1 hts gX10_speakers_J6_bitCount_0f7a4 rfl rfl rfl (by decide +kernel) ⟨Nat.le_of_ble_eq_true rfl, Nat.le_of_ble_eq_true rfl⟩) (hc_pS hK hP hD [] rfl rfl) rfl rfl hl.1 rfl (lv_room (Nat.le_of_ble_eq_true rfl)) dX10_speakers_106 ⟨Nat.le_refl _, Nat.le_refl _⟩) hP hD hS hA [] [0, 1, 2, 3, 4] rfl rfl rfl (by decide) (fun r106 u H locs h hP hD hS => ?_)
            try dsimp only at h
            have hP : va_P G.1 vwCl [caI G a_refusals 7 g_refusals, ceX10 h0 a_now a_kept a_reader a_numbers a_strife a_settled a_selection a_dispute a_trials a_refusals s_isKept, ceX3 a_now s_now_size s_now_heard s_now_mode s_now_cast s_now_figures s_now_voices s_now_attacks s_now_supports, ceX1 a_strife s_strife_hits_93 s_strife_leads_93 s_strife_defeats_93 s_strife_defeaters_93, ceX9 a_settled s_settled_in_93 s_settled_out_93 s_settled_length_93 s_settled_order_93] H := hP
            have hD : va_D A [caI G a_refusals 7 g_refusals, ceX10 h0 a_now a_kept a_reader a_numbers a_strife a_settled a_selection a_dispute a_trials a_refusals s_isKept, ceX3 a_now s_now_size s_now_heard s_now_mode s_now_cast s_now_figures s_now_voices s_now_attacks s_now_supports, ceX1 a_strife s_strife_hits_93 s_strife_leads_93 s_strife_defeats_93 s_strife_defeaters_93, ceX9 a_settled s_settled_in_93 s_settled_out_93 s_settled_length_93 s_settled_order_93] := hD
            exact W.iret (v := r106) hx hb hr (fun t ht hW => ⟨⟨_, ⟨s_strife_hits_93, s_strife_leads_93, s_strife_defeats_93, s_strife_defeaters_93, s_settled_in_93, s_settled_out_93, s_settled_length_93, s_settled_order_93, g_refusals⟩, rfl, h, ⟨by rw [ht]; exact (hP.sub [1, 2, 3, 4, 0] rfl), (hD.sub [1, 2, 3, 4, 0] (by decide) rfl)⟩⟩, hS.F ht⟩) hS.2.2 dX10_speakers_109
        · replace h := h.2 c
          refine lv_aload_n hx hb dX10_speakers_41 rfl (lv_at hl 1 rfl) ?_
          refine lv_bipush (v := (-2 : Int32)) hx hb dX10_speakers_42 kb_m2 ?_
          refine hc_ki (va_runV (As := [.int ((-2 : Int32))]) (rest := []) ⟨hx, hb, hml, hown, hts⟩ (c_X10_refuse l G h0 a_now a_kept a_reader a_numbers a_strife a_settled a_selection a_dispute a_trials a_refusals H.size s_isKept g_refusals ((-2 : Int32)) _ h) (cwV 1 hts gX10_speakers_X10_refuse rfl rfl rfl (by decide +kernel) ⟨Nat.le_of_ble_eq_true rfl, Nat.le_of_ble_eq_true rfl⟩) (hc_pV hK hP hD [0, 3] rfl rfl (ci := 8) 0 rfl rfl) rfl rfl hl.1 rfl (lv_room (Nat.le_of_ble_eq_true rfl)) dX10_speakers_44 ⟨Nat.le_refl _, Nat.le_refl _⟩) hP hD hS hA [0, 3] [1, 2, 4] rfl rfl rfl (by decide) (fun r44 u H locs h hP hD hS => ?_)
          obtain ⟨g_refusals_44, rfl⟩ : ∃ z, z = u := ⟨_, rfl⟩
          try dsimp only at h
          have hP : va_P G.1 vwCl [ceX1 a_strife s_strife_hits s_strife_leads s_strife_defeats s_strife_defeaters, ceX9 a_settled s_settled_in s_settled_out s_settled_length s_settled_order, ceX3 a_now s_now_size s_now_heard s_now_mode s_now_cast s_now_figures s_now_voices s_now_attacks s_now_supports, ceX10 h0 a_now a_kept a_reader a_numbers a_strife a_settled a_selection a_dispute a_trials a_refusals s_isKept, caI G a_refusals 7 g_refusals_44] H := hP
          have hD : va_D A [ceX1 a_strife s_strife_hits s_strife_leads s_strife_defeats s_strife_defeaters, ceX9 a_settled s_settled_in s_settled_out s_settled_length s_settled_order, ceX3 a_now s_now_size s_now_heard s_now_mode s_now_cast s_now_figures s_now_voices s_now_attacks s_now_supports, ceX10 h0 a_now a_kept a_reader a_numbers a_strife a_settled a_selection a_dispute a_trials a_refusals s_isKept, caI G a_refusals 7 g_refusals_44] := hD
          exact W.iret (v := r44) hx hb hr (fun t ht hW => ⟨⟨_, ⟨s_strife_hits, s_strife_leads, s_strife_defeats, s_strife_defeaters, s_settled_in, s_settled_out, s_settled_length, s_settled_order, g_refusals_44⟩, rfl, h, ⟨by rw [ht]; exact (hP.sub [3, 2, 0, 1, 4] rfl), (hD.sub [3, 2, 0, 1, 4] (by decide) rfl)⟩⟩, hS.F ht⟩) hS.2.2 dX10_speakers_47
    · replace h := h.2 c
      refine lv_aload_n hx hb dX10_speakers_26 rfl (lv_at hl 1 rfl) ?_
      refine lv_iconst (v := (-1 : Int32)) hx hb dX10_speakers_27 kc_m1 ?_
      refine hc_ki (va_runV (As := [.int ((-1 : Int32))]) (rest := []) ⟨hx, hb, hml, hown, hts⟩ (c_X10_refuse l G h0 a_now a_kept a_reader a_numbers a_strife a_settled a_selection a_dispute a_trials a_refusals H.size s_isKept g_refusals ((-1 : Int32)) _ h) (cwV 1 hts gX10_speakers_X10_refuse rfl rfl rfl (by decide +kernel) ⟨Nat.le_of_ble_eq_true rfl, Nat.le_of_ble_eq_true rfl⟩) (hc_pV hK hP hD [0, 3] rfl rfl (ci := 8) 0 rfl rfl) rfl rfl hl.1 rfl (lv_room (Nat.le_of_ble_eq_true rfl)) dX10_speakers_28 ⟨Nat.le_refl _, Nat.le_refl _⟩) hP hD hS hA [0, 3] [1, 2, 4] rfl rfl rfl (by decide) (fun r28 u H locs h hP hD hS => ?_)
      obtain ⟨g_refusals_28, rfl⟩ : ∃ z, z = u := ⟨_, rfl⟩
      try dsimp only at h
      have hP : va_P G.1 vwCl [ceX1 a_strife s_strife_hits s_strife_leads s_strife_defeats s_strife_defeaters, ceX9 a_settled s_settled_in s_settled_out s_settled_length s_settled_order, ceX3 a_now s_now_size s_now_heard s_now_mode s_now_cast s_now_figures s_now_voices s_now_attacks s_now_supports, ceX10 h0 a_now a_kept a_reader a_numbers a_strife a_settled a_selection a_dispute a_trials a_refusals s_isKept, caI G a_refusals 7 g_refusals_28] H := hP
      have hD : va_D A [ceX1 a_strife s_strife_hits s_strife_leads s_strife_defeats s_strife_defeaters, ceX9 a_settled s_settled_in s_settled_out s_settled_length s_settled_order, ceX3 a_now s_now_size s_now_heard s_now_mode s_now_cast s_now_figures s_now_voices s_now_attacks s_now_supports, ceX10 h0 a_now a_kept a_reader a_numbers a_strife a_settled a_selection a_dispute a_trials a_refusals s_isKept, caI G a_refusals 7 g_refusals_28] := hD
      exact W.iret (v := r28) hx hb hr (fun t ht hW => ⟨⟨_, ⟨s_strife_hits, s_strife_leads, s_strife_defeats, s_strife_defeaters, s_settled_in, s_settled_out, s_settled_length, s_settled_order, g_refusals_28⟩, rfl, h, ⟨by rw [ht]; exact (hP.sub [3, 2, 0, 1, 4] rfl), (hD.sub [3, 2, 0, 1, 4] (by decide) rfl)⟩⟩, hS.F ht⟩) hS.2.2 dX10_speakers_31
  · replace h := h.2 c
    refine lv_aload_n hx hb dX10_speakers_5 rfl (lv_at hl 0 rfl) ?_
    refine va_get (D := G.1) (ci := 8) (v := .ref a_now) (C := RX10) (T := TX10) (N := 11) hx hb hts ki_X10 hown hK.1 hP 0 rfl rfl 0 (by decide) kf0 (fun _ h9 => h9) rfl dX10_speakers_6 ?_
    refine hc_ki (va_runV (As := []) (rest := []) ⟨hx, hb, hml, hown, hts⟩ (c_X3_speakersThere l G a_now H.size s_now_size s_now_heard s_now_mode s_now_cast s_now_figures s_now_voices s_now_attacks s_now_supports _ h) (cwV 0 hts gX10_speakers_X3_speakersThere rfl rfl rfl (by decide +kernel) ⟨Nat.le_of_ble_eq_true rfl, Nat.le_of_ble_eq_true rfl⟩) (hc_pV hK hP hD [1] rfl rfl (ci := 2) 1 rfl rfl) rfl rfl hl.1 rfl (lv_room (Nat.le_of_ble_eq_true rfl)) dX10_speakers_9 ⟨Nat.le_refl _, Nat.le_refl _⟩) hP hD hS hA [1] [0, 2, 3, 4] rfl rfl rfl (by decide) (fun r9 u H locs h hP hD hS => ?_)
    try dsimp only at h
    have hP : va_P G.1 vwCl [ceX10 h0 a_now a_kept a_reader a_numbers a_strife a_settled a_selection a_dispute a_trials a_refusals s_isKept, ceX1 a_strife s_strife_hits s_strife_leads s_strife_defeats s_strife_defeaters, ceX9 a_settled s_settled_in s_settled_out s_settled_length s_settled_order, caI G a_refusals 7 g_refusals, ceX3 a_now s_now_size s_now_heard s_now_mode s_now_cast s_now_figures s_now_voices s_now_attacks s_now_supports] H := hP
    have hD : va_D A [ceX10 h0 a_now a_kept a_reader a_numbers a_strife a_settled a_selection a_dispute a_trials a_refusals s_isKept, ceX1 a_strife s_strife_hits s_strife_leads s_strife_defeats s_strife_defeaters, ceX9 a_settled s_settled_in s_settled_out s_settled_length s_settled_order, caI G a_refusals 7 g_refusals, ceX3 a_now s_now_size s_now_heard s_now_mode s_now_cast s_now_figures s_now_voices s_now_attacks s_now_supports] := hD
    exact W.iret (v := r9) hx hb hr (fun t ht hW => ⟨⟨_, ⟨s_strife_hits, s_strife_leads, s_strife_defeats, s_strife_defeaters, s_settled_in, s_settled_out, s_settled_length, s_settled_order, g_refusals⟩, rfl, h, ⟨by rw [ht]; exact (hP.sub [0, 4, 1, 2, 3] rfl), (hD.sub [0, 4, 1, 2, 3] (by decide) rfl)⟩⟩, hS.F ht⟩) hS.2.2 dX10_speakers_12
set_option maxHeartbeats 4000000 in
set_option maxRecDepth 100000 in
theorem c_X10_lots (l : Launch) (G : hcG) (h0 : Nat) (a_now : Nat) (a_kept : Nat) (a_reader : Nat) (a_numbers : Nat) (a_strife : Nat) (a_settled : Nat) (a_selection : Nat) (a_dispute : Nat) (a_trials : Nat) (a_refusals : Nat) (a_trials_draft : Nat) (a_trials_strife : Nat) (a_trials_settled : Nat) (sz : Nat) (s_isKept : Int32) (s_now_size : Int32) (s_now_heard : Int32) (s_now_mode : Int32) (s_now_cast : Int64) (s_now_figures : Int64) (s_now_voices : Int64) (s_now_attacks : Int64) (s_now_supports : Int64) (g_refusals : Nat → Int32) (s_trials_draft_size : Int32) (s_trials_draft_heard : Int32) (s_trials_draft_mode : Int32) (s_trials_draft_cast : Int64) (s_trials_draft_figures : Int64) (s_trials_draft_voices : Int64) (s_trials_draft_attacks : Int64) (s_trials_draft_supports : Int64) (s_trials_strife_hits : Int64) (s_trials_strife_leads : Int64) (s_trials_strife_defeats : Int64) (s_trials_strife_defeaters : Int64) (s_trials_settled_in : Int32) (s_trials_settled_out : Int32) (s_trials_settled_length : Int32) (s_trials_settled_order : Int64) (x1 : Int32) (x2 : Int32) (x3 : Int32) (post : Int32 → Int32 → Int32 → Int32 → Int64 → Int64 → Int64 → Int64 → Int64 → Int64 → Int64 → Int64 → Int64 → Int32 → Int32 → Int32 → Int64 → (Nat → Int32) → Prop) (h : wp_X10_lots post s_now_size s_now_heard s_now_mode s_now_cast s_now_figures s_now_voices s_now_attacks s_now_supports s_trials_draft_size s_trials_draft_heard s_trials_draft_mode s_trials_draft_cast s_trials_draft_figures s_trials_draft_voices s_trials_draft_attacks s_trials_draft_supports s_trials_strife_hits s_trials_strife_leads s_trials_strife_defeats s_trials_strife_defeaters s_trials_settled_in s_trials_settled_out s_trials_settled_length s_trials_settled_order g_refusals x1 x2 x3) : Met l yX10_lots wsX10_lots ({ frames := 6, cells := 0, slots := 0, locals := 143 }) (hcPc G [.ref h0, .int x1, .int x2, .int x3] [ceX10 h0 a_now a_kept a_reader a_numbers a_strife a_settled a_selection a_dispute a_trials a_refusals s_isKept, ceX3 a_now s_now_size s_now_heard s_now_mode s_now_cast s_now_figures s_now_voices s_now_attacks s_now_supports, ceX8 a_trials a_trials_draft a_trials_strife a_trials_settled, caI G a_refusals 7 g_refusals, ceX3 a_trials_draft s_trials_draft_size s_trials_draft_heard s_trials_draft_mode s_trials_draft_cast s_trials_draft_figures s_trials_draft_voices s_trials_draft_attacks s_trials_draft_supports, ceX1 a_trials_strife s_trials_strife_hits s_trials_strife_leads s_trials_strife_defeats s_trials_strife_defeaters, ceX9 a_trials_settled s_trials_settled_in s_trials_settled_out s_trials_settled_length s_trials_settled_order] sz) (va_Qi (fun (r : Int32) (u : Int32 × Int32 × Int32 × Int64 × Int64 × Int64 × Int64 × Int64 × Int64 × Int64 × Int64 × Int64 × Int32 × Int32 × Int32 × Int64 × (Nat → Int32)) => post r u.1 u.2.1 u.2.2.1 u.2.2.2.1 u.2.2.2.2.1 u.2.2.2.2.2.1 u.2.2.2.2.2.2.1 u.2.2.2.2.2.2.2.1 u.2.2.2.2.2.2.2.2.1 u.2.2.2.2.2.2.2.2.2.1 u.2.2.2.2.2.2.2.2.2.2.1 u.2.2.2.2.2.2.2.2.2.2.2.1 u.2.2.2.2.2.2.2.2.2.2.2.2.1 u.2.2.2.2.2.2.2.2.2.2.2.2.2.1 u.2.2.2.2.2.2.2.2.2.2.2.2.2.2.1 u.2.2.2.2.2.2.2.2.2.2.2.2.2.2.2.1 u.2.2.2.2.2.2.2.2.2.2.2.2.2.2.2.2) (hcB G (va_A [ceX10 h0 a_now a_kept a_reader a_numbers a_strife a_settled a_selection a_dispute a_trials a_refusals s_isKept, ceX3 a_now s_now_size s_now_heard s_now_mode s_now_cast s_now_figures s_now_voices s_now_attacks s_now_supports, ceX8 a_trials a_trials_draft a_trials_strife a_trials_settled, caI G a_refusals 7 g_refusals, ceX3 a_trials_draft s_trials_draft_size s_trials_draft_heard s_trials_draft_mode s_trials_draft_cast s_trials_draft_figures s_trials_draft_voices s_trials_draft_attacks s_trials_draft_supports, ceX1 a_trials_strife s_trials_strife_hits s_trials_strife_leads s_trials_strife_defeats s_trials_strife_defeaters, ceX9 a_trials_settled s_trials_settled_in s_trials_settled_out s_trials_settled_length s_trials_settled_order] sz) (fun u : Int32 × Int32 × Int32 × Int64 × Int64 × Int64 × Int64 × Int64 × Int64 × Int64 × Int64 × Int64 × Int32 × Int32 × Int32 × Int64 × (Nat → Int32) => [ceX10 h0 a_now a_kept a_reader a_numbers a_strife a_settled a_selection a_dispute a_trials a_refusals s_isKept, ceX3 a_now s_now_size s_now_heard s_now_mode s_now_cast s_now_figures s_now_voices s_now_attacks s_now_supports, ceX8 a_trials a_trials_draft a_trials_strife a_trials_settled, caI G a_refusals 7 u.2.2.2.2.2.2.2.2.2.2.2.2.2.2.2.2, ceX3 a_trials_draft u.1 u.2.1 u.2.2.1 u.2.2.2.1 u.2.2.2.2.1 u.2.2.2.2.2.1 u.2.2.2.2.2.2.1 u.2.2.2.2.2.2.2.1, ceX1 a_trials_strife u.2.2.2.2.2.2.2.2.1 u.2.2.2.2.2.2.2.2.2.1 u.2.2.2.2.2.2.2.2.2.2.1 u.2.2.2.2.2.2.2.2.2.2.2.1, ceX9 a_trials_settled u.2.2.2.2.2.2.2.2.2.2.2.2.1 u.2.2.2.2.2.2.2.2.2.2.2.2.2.1 u.2.2.2.2.2.2.2.2.2.2.2.2.2.2.1 u.2.2.2.2.2.2.2.2.2.2.2.2.2.2.2.1])) (va_A [ceX10 h0 a_now a_kept a_reader a_numbers a_strife a_settled a_selection a_dispute a_trials a_refusals s_isKept, ceX3 a_now s_now_size s_now_heard s_now_mode s_now_cast s_now_figures s_now_voices s_now_attacks s_now_supports, ceX8 a_trials a_trials_draft a_trials_strife a_trials_settled, caI G a_refusals 7 g_refusals, ceX3 a_trials_draft s_trials_draft_size s_trials_draft_heard s_trials_draft_mode s_trials_draft_cast s_trials_draft_figures s_trials_draft_voices s_trials_draft_attacks s_trials_draft_supports, ceX1 a_trials_strife s_trials_strife_hits s_trials_strife_leads s_trials_strife_defeats s_trials_strife_defeaters, ceX9 a_trials_settled s_trials_settled_in s_trials_settled_out s_trials_settled_length s_trials_settled_order] sz)) 0 0 (va_A [ceX10 h0 a_now a_kept a_reader a_numbers a_strife a_settled a_selection a_dispute a_trials a_refusals s_isKept, ceX3 a_now s_now_size s_now_heard s_now_mode s_now_cast s_now_figures s_now_voices s_now_attacks s_now_supports, ceX8 a_trials a_trials_draft a_trials_strife a_trials_settled, caI G a_refusals 7 g_refusals, ceX3 a_trials_draft s_trials_draft_size s_trials_draft_heard s_trials_draft_mode s_trials_draft_cast s_trials_draft_figures s_trials_draft_voices s_trials_draft_attacks s_trials_draft_supports, ceX1 a_trials_strife s_trials_strife_hits s_trials_strife_leads s_trials_strife_defeats s_trials_strife_defeaters, ceX9 a_trials_settled s_trials_settled_in s_trials_settled_out s_trials_settled_length s_trials_settled_order] sz) := by
  refine Met.ofW (cc := cX10_lots) (maxL := 4) (ret := (some .int)) (by decide) rfl ?_
  intro p e s m args below meth c s₁ B hml hv
  obtain ⟨rfl, hsz, hP, hK, hD0⟩ := hv
  have hx := B.exec
  have hb := B.bytes
  have hr := B.returns
  have hts := atoms_spec (ws := wsX10_lots) B.pre
  have hown : s.vm.findClass RX10 = some m.cls := findClass_of_methodNamed B.named
  have hlocks := B.notSynchronized
  subst hsz
  have hD := hD0.self (sz := s.heap.size)
  generalize hAe : va_A [ceX10 h0 a_now a_kept a_reader a_numbers a_strife a_settled a_selection a_dispute a_trials a_refusals s_isKept, ceX3 a_now s_now_size s_now_heard s_now_mode s_now_cast s_now_figures s_now_voices s_now_attacks s_now_supports, ceX8 a_trials a_trials_draft a_trials_strife a_trials_settled, caI G a_refusals 7 g_refusals, ceX3 a_trials_draft s_trials_draft_size s_trials_draft_heard s_trials_draft_mode s_trials_draft_cast s_trials_draft_figures s_trials_draft_voices s_trials_draft_attacks s_trials_draft_supports, ceX1 a_trials_strife s_trials_strife_hits s_trials_strife_leads s_trials_strife_defeats s_trials_strife_defeaters, ceX9 a_trials_settled s_trials_settled_in s_trials_settled_out s_trials_settled_length s_trials_settled_order] s.heap.size = A at hD ⊢
  have hA : ∀ q : Nat, s.heap.size ≤ q → A q := fun q h => by rw [← hAe]; exact Or.inr h
  have hS : va_S A s.heap s.heap [] := va_S.rf
  have hP : va_P G.1 vwCl [ceX10 h0 a_now a_kept a_reader a_numbers a_strife a_settled a_selection a_dispute a_trials a_refusals s_isKept, ceX3 a_now s_now_size s_now_heard s_now_mode s_now_cast s_now_figures s_now_voices s_now_attacks s_now_supports, ceX8 a_trials a_trials_draft a_trials_strife a_trials_settled, caI G a_refusals 7 g_refusals, ceX3 a_trials_draft s_trials_draft_size s_trials_draft_heard s_trials_draft_mode s_trials_draft_cast s_trials_draft_figures s_trials_draft_voices s_trials_draft_attacks s_trials_draft_supports, ceX1 a_trials_strife s_trials_strife_hits s_trials_strife_leads s_trials_strife_defeats s_trials_strife_defeaters, ceX9 a_trials_settled s_trials_settled_in s_trials_settled_out s_trials_settled_length s_trials_settled_order] s.heap := hP
  have hl := lv_entry ([.ref h0, .int x1, .int x2, .int x3]) (n := 4) (Nat.le_of_ble_eq_true rfl)
  rw [lg_entry_eq]
  generalize (lg_sl ([.ref h0, .int x1, .int x2, .int x3]) ++ List.replicate (4 - (lg_sl ([.ref h0, .int x1, .int x2, .int x3])).length) Slot.unset).toArray = ls at hl ⊢
  have hl : lv_has ls 4 [(0, .ref h0), (1, .int x1), (2, .int x2), (3, .int x3)] := hl
  have kf0 := hts (.fieldLink RX10 66 "HallOfClaims" "trials" "LHallOfClaims$Trials;") (List.mem_of_getElem? (i := 1) (by decide +kernel))
  have kf1 := hts (.fieldLink RX10 10 "HallOfClaims" "now" "LHallOfClaims$Hall;") (List.mem_of_getElem? (i := 2) (by decide +kernel))
  have ki_X10 : ∀ w ∈ u_ws RX10 TX10 11, w ∈ wsX10_lots := by decide +kernel
  unfold wp_X10_lots at h
  refine lv_iload_n hx hb dX10_lots_0 rfl (lv_at hl 1 rfl) ?_
  refine lv_iconst (v := nI 1) hx hb dX10_lots_1 kc_1 ?_
  refine lv_icmp_ge (tgt := 12) hx hb dX10_lots_2 (by decide) (fun c => ?_) (fun c => ?_)
  · replace h := h.1 c
    refine lv_iload_n hx hb dX10_lots_12 rfl (lv_at hl 1 rfl) ?_
    refine lv_bipush (v := nI 20) hx hb dX10_lots_13 kb_20 ?_
    refine lv_icmp_le (tgt := 25) hx hb dX10_lots_15 (by decide) (fun c => ?_) (fun c => ?_)
    · replace h := h.1 c
      refine lv_iload_n hx hb dX10_lots_25 rfl (lv_at hl 3 rfl) ?_
      refine hc_ki (va_runS (As := [.int x3]) (rest := []) ⟨hx, hb, hml, hown, hts⟩ (c_X10_isFirstOrSecond l G H.size x3 _ h) (va_cwS 1 hts gX10_lots_X10_isFirstOrSecond rfl rfl rfl (by decide +kernel) ⟨Nat.le_of_ble_eq_true rfl, Nat.le_of_ble_eq_true rfl⟩) (hc_pS hK hP hD [] rfl rfl) rfl rfl hl.1 rfl (lv_room (Nat.le_of_ble_eq_true rfl)) dX10_lots_26 ⟨Nat.le_refl _, Nat.le_refl _⟩) hP hD hS hA [] [0, 1, 2, 3, 4, 5, 6] rfl rfl rfl (by decide) (fun r26 u H locs h hP hD hS => ?_)
      try dsimp only at h
      have hP : va_P G.1 vwCl [ceX10 h0 a_now a_kept a_reader a_numbers a_strife a_settled a_selection a_dispute a_trials a_refusals s_isKept, ceX3 a_now s_now_size s_now_heard s_now_mode s_now_cast s_now_figures s_now_voices s_now_attacks s_now_supports, ceX8 a_trials a_trials_draft a_trials_strife a_trials_settled, caI G a_refusals 7 g_refusals, ceX3 a_trials_draft s_trials_draft_size s_trials_draft_heard s_trials_draft_mode s_trials_draft_cast s_trials_draft_figures s_trials_draft_voices s_trials_draft_attacks s_trials_draft_supports, ceX1 a_trials_strife s_trials_strife_hits s_trials_strife_leads s_trials_strife_defeats s_trials_strife_defeaters, ceX9 a_trials_settled s_trials_settled_in s_trials_settled_out s_trials_settled_length s_trials_settled_order] H := hP
      have hD : va_D A [ceX10 h0 a_now a_kept a_reader a_numbers a_strife a_settled a_selection a_dispute a_trials a_refusals s_isKept, ceX3 a_now s_now_size s_now_heard s_now_mode s_now_cast s_now_figures s_now_voices s_now_attacks s_now_supports, ceX8 a_trials a_trials_draft a_trials_strife a_trials_settled, caI G a_refusals 7 g_refusals, ceX3 a_trials_draft s_trials_draft_size s_trials_draft_heard s_trials_draft_mode s_trials_draft_cast s_trials_draft_figures s_trials_draft_voices s_trials_draft_attacks s_trials_draft_supports, ceX1 a_trials_strife s_trials_strife_hits s_trials_strife_leads s_trials_strife_defeats s_trials_strife_defeaters, ceX9 a_trials_settled s_trials_settled_in s_trials_settled_out s_trials_settled_length s_trials_settled_order] := hD
      refine lv_if_ne (tgt := 39) hx hb dX10_lots_29 (by decide) (fun c => ?_) (fun c => ?_)
      · replace h := h.1 c
        refine lv_aload_n hx hb dX10_lots_39 rfl (lv_at hl 0 rfl) ?_
        refine va_get (D := G.1) (ci := 8) (v := .ref a_trials) (C := RX10) (T := TX10) (N := 11) hx hb hts ki_X10 hown hK.1 hP 0 rfl rfl 8 (by decide) kf0 (fun _ h9 => h9) rfl dX10_lots_40 ?_
        refine lv_aload_n hx hb dX10_lots_43 rfl (lv_at hl 0 rfl) ?_
        refine va_get (D := G.1) (ci := 8) (v := .ref a_now) (C := RX10) (T := TX10) (N := 11) hx hb hts ki_X10 hown hK.1 hP 0 rfl rfl 0 (by decide) kf1 (fun _ h9 => h9) rfl dX10_lots_44 ?_
        refine lv_iload_n hx hb dX10_lots_47 rfl (lv_at hl 1 rfl) ?_
        refine lv_iload_n hx hb dX10_lots_48 rfl (lv_at hl 2 rfl) ?_
        refine lv_iload_n hx hb dX10_lots_49 rfl (lv_at hl 3 rfl) ?_
        refine lv_iconst (v := nI 1) hx hb dX10_lots_50 kc_1 ?_
        refine lv_icmp_ne (tgt := 58) hx hb dX10_lots_51 (by decide) (fun c => ?_) (fun c => ?_)
        · replace h := h.1 c
          refine lv_iconst (v := nI 0) hx hb dX10_lots_58 kc_0 ?_
          refine hc_ki (va_runV (As := [.ref a_now, .int x1, .int x2, .int (nI 0)]) (rest := []) ⟨hx, hb, hml, hown, hts⟩ (c_X8_drawn l G a_trials a_trials_draft a_trials_strife a_trials_settled a_now H.size s_now_size s_now_heard s_now_mode s_now_cast s_now_figures s_now_voices s_now_attacks s_now_supports s_trials_draft_size s_trials_draft_heard s_trials_draft_mode s_trials_draft_cast s_trials_draft_figures s_trials_draft_voices s_trials_draft_attacks s_trials_draft_supports s_trials_strife_hits s_trials_strife_leads s_trials_strife_defeats s_trials_strife_defeaters s_trials_settled_in s_trials_settled_out s_trials_settled_length s_trials_settled_order x1 x2 (nI 0) _ h) (cwV 4 hts gX10_lots_X8_drawn rfl rfl rfl (by decide +kernel) ⟨Nat.le_of_ble_eq_true rfl, Nat.le_of_ble_eq_true rfl⟩) (hc_pV hK hP hD [2, 1, 4, 5, 6] rfl rfl (ci := 6) 2 rfl rfl) rfl rfl hl.1 rfl (lv_room (Nat.le_of_ble_eq_true rfl)) dX10_lots_59 ⟨Nat.le_refl _, Nat.le_refl _⟩) hP hD hS hA [2, 1, 4, 5, 6] [0, 3] rfl rfl rfl (by decide) (fun r59 u H locs h hP hD hS => ?_)
          obtain ⟨s_trials_draft_size_59, s_trials_draft_heard_59, s_trials_draft_mode_59, s_trials_draft_cast_59, s_trials_draft_figures_59, s_trials_draft_voices_59, s_trials_draft_attacks_59, s_trials_draft_supports_59, s_trials_strife_hits_59, s_trials_strife_leads_59, s_trials_strife_defeats_59, s_trials_strife_defeaters_59, s_trials_settled_in_59, s_trials_settled_out_59, s_trials_settled_length_59, s_trials_settled_order_59⟩ := u
          try dsimp only at h
          have hP : va_P G.1 vwCl [ceX10 h0 a_now a_kept a_reader a_numbers a_strife a_settled a_selection a_dispute a_trials a_refusals s_isKept, caI G a_refusals 7 g_refusals, ceX8 a_trials a_trials_draft a_trials_strife a_trials_settled, ceX3 a_now s_now_size s_now_heard s_now_mode s_now_cast s_now_figures s_now_voices s_now_attacks s_now_supports, ceX3 a_trials_draft s_trials_draft_size_59 s_trials_draft_heard_59 s_trials_draft_mode_59 s_trials_draft_cast_59 s_trials_draft_figures_59 s_trials_draft_voices_59 s_trials_draft_attacks_59 s_trials_draft_supports_59, ceX1 a_trials_strife s_trials_strife_hits_59 s_trials_strife_leads_59 s_trials_strife_defeats_59 s_trials_strife_defeaters_59, ceX9 a_trials_settled s_trials_settled_in_59 s_trials_settled_out_59 s_trials_settled_length_59 s_trials_settled_order_59] H := hP
          have hD : va_D A [ceX10 h0 a_now a_kept a_reader a_numbers a_strife a_settled a_selection a_dispute a_trials a_refusals s_isKept, caI G a_refusals 7 g_refusals, ceX8 a_trials a_trials_draft a_trials_strife a_trials_settled, ceX3 a_now s_now_size s_now_heard s_now_mode s_now_cast s_now_figures s_now_voices s_now_attacks s_now_supports, ceX3 a_trials_draft s_trials_draft_size_59 s_trials_draft_heard_59 s_trials_draft_mode_59 s_trials_draft_cast_59 s_trials_draft_figures_59 s_trials_draft_voices_59 s_trials_draft_attacks_59 s_trials_draft_supports_59, ceX1 a_trials_strife s_trials_strife_hits_59 s_trials_strife_leads_59 s_trials_strife_defeats_59 s_trials_strife_defeaters_59, ceX9 a_trials_settled s_trials_settled_in_59 s_trials_settled_out_59 s_trials_settled_length_59 s_trials_settled_order_59] := hD
          exact W.iret (v := r59) hx hb hr (fun t ht hW => ⟨⟨_, ⟨s_trials_draft_size_59, s_trials_draft_heard_59, s_trials_draft_mode_59, s_trials_draft_cast_59, s_trials_draft_figures_59, s_trials_draft_voices_59, s_trials_draft_attacks_59, s_trials_draft_supports_59, s_trials_strife_hits_59, s_trials_strife_leads_59, s_trials_strife_defeats_59, s_trials_strife_defeaters_59, s_trials_settled_in_59, s_trials_settled_out_59, s_trials_settled_length_59, s_trials_settled_order_59, g_refusals⟩, rfl, h, ⟨by rw [ht]; exact (hP.sub [0, 3, 2, 1, 4, 5, 6] rfl), (hD.sub [0, 3, 2, 1, 4, 5, 6] (by decide) rfl)⟩⟩, hS.F ht⟩) hS.2.2 dX10_lots_62
        · replace h := h.2 c
          refine lv_iconst (v := nI 1) hx hb dX10_lots_54 kc_1 ?_
          refine lv_goto (tgt := 59) hx hb dX10_lots_55 (by decide) ?_
          refine hc_ki (va_runV (As := [.ref a_now, .int x1, .int x2, .int (nI 1)]) (rest := []) ⟨hx, hb, hml, hown, hts⟩ (c_X8_drawn l G a_trials a_trials_draft a_trials_strife a_trials_settled a_now H.size s_now_size s_now_heard s_now_mode s_now_cast s_now_figures s_now_voices s_now_attacks s_now_supports s_trials_draft_size s_trials_draft_heard s_trials_draft_mode s_trials_draft_cast s_trials_draft_figures s_trials_draft_voices s_trials_draft_attacks s_trials_draft_supports s_trials_strife_hits s_trials_strife_leads s_trials_strife_defeats s_trials_strife_defeaters s_trials_settled_in s_trials_settled_out s_trials_settled_length s_trials_settled_order x1 x2 (nI 1) _ h) (cwV 4 hts gX10_lots_X8_drawn rfl rfl rfl (by decide +kernel) ⟨Nat.le_of_ble_eq_true rfl, Nat.le_of_ble_eq_true rfl⟩) (hc_pV hK hP hD [2, 1, 4, 5, 6] rfl rfl (ci := 6) 2 rfl rfl) rfl rfl hl.1 rfl (lv_room (Nat.le_of_ble_eq_true rfl)) dX10_lots_59 ⟨Nat.le_refl _, Nat.le_refl _⟩) hP hD hS hA [2, 1, 4, 5, 6] [0, 3] rfl rfl rfl (by decide) (fun r59 u H locs h hP hD hS => ?_)
          obtain ⟨s_trials_draft_size_59, s_trials_draft_heard_59, s_trials_draft_mode_59, s_trials_draft_cast_59, s_trials_draft_figures_59, s_trials_draft_voices_59, s_trials_draft_attacks_59, s_trials_draft_supports_59, s_trials_strife_hits_59, s_trials_strife_leads_59, s_trials_strife_defeats_59, s_trials_strife_defeaters_59, s_trials_settled_in_59, s_trials_settled_out_59, s_trials_settled_length_59, s_trials_settled_order_59⟩ := u
          try dsimp only at h
          have hP : va_P G.1 vwCl [ceX10 h0 a_now a_kept a_reader a_numbers a_strife a_settled a_selection a_dispute a_trials a_refusals s_isKept, caI G a_refusals 7 g_refusals, ceX8 a_trials a_trials_draft a_trials_strife a_trials_settled, ceX3 a_now s_now_size s_now_heard s_now_mode s_now_cast s_now_figures s_now_voices s_now_attacks s_now_supports, ceX3 a_trials_draft s_trials_draft_size_59 s_trials_draft_heard_59 s_trials_draft_mode_59 s_trials_draft_cast_59 s_trials_draft_figures_59 s_trials_draft_voices_59 s_trials_draft_attacks_59 s_trials_draft_supports_59, ceX1 a_trials_strife s_trials_strife_hits_59 s_trials_strife_leads_59 s_trials_strife_defeats_59 s_trials_strife_defeaters_59, ceX9 a_trials_settled s_trials_settled_in_59 s_trials_settled_out_59 s_trials_settled_length_59 s_trials_settled_order_59] H := hP
          have hD : va_D A [ceX10 h0 a_now a_kept a_reader a_numbers a_strife a_settled a_selection a_dispute a_trials a_refusals s_isKept, caI G a_refusals 7 g_refusals, ceX8 a_trials a_trials_draft a_trials_strife a_trials_settled, ceX3 a_now s_now_size s_now_heard s_now_mode s_now_cast s_now_figures s_now_voices s_now_attacks s_now_supports, ceX3 a_trials_draft s_trials_draft_size_59 s_trials_draft_heard_59 s_trials_draft_mode_59 s_trials_draft_cast_59 s_trials_draft_figures_59 s_trials_draft_voices_59 s_trials_draft_attacks_59 s_trials_draft_supports_59, ceX1 a_trials_strife s_trials_strife_hits_59 s_trials_strife_leads_59 s_trials_strife_defeats_59 s_trials_strife_defeaters_59, ceX9 a_trials_settled s_trials_settled_in_59 s_trials_settled_out_59 s_trials_settled_length_59 s_trials_settled_order_59] := hD
          exact W.iret (v := r59) hx hb hr (fun t ht hW => ⟨⟨_, ⟨s_trials_draft_size_59, s_trials_draft_heard_59, s_trials_draft_mode_59, s_trials_draft_cast_59, s_trials_draft_figures_59, s_trials_draft_voices_59, s_trials_draft_attacks_59, s_trials_draft_supports_59, s_trials_strife_hits_59, s_trials_strife_leads_59, s_trials_strife_defeats_59, s_trials_strife_defeaters_59, s_trials_settled_in_59, s_trials_settled_out_59, s_trials_settled_length_59, s_trials_settled_order_59, g_refusals⟩, rfl, h, ⟨by rw [ht]; exact (hP.sub [0, 3, 2, 1, 4, 5, 6] rfl), (hD.sub [0, 3, 2, 1, 4, 5, 6] (by decide) rfl)⟩⟩, hS.F ht⟩) hS.2.2 dX10_lots_62
      · replace h := h.2 c
        refine lv_aload_n hx hb dX10_lots_32 rfl (lv_at hl 0 rfl) ?_
        refine lv_bipush (v := (-2 : Int32)) hx hb dX10_lots_33 kb_m2 ?_
        refine hc_ki (va_runV (As := [.int ((-2 : Int32))]) (rest := []) ⟨hx, hb, hml, hown, hts⟩ (c_X10_refuse l G h0 a_now a_kept a_reader a_numbers a_strife a_settled a_selection a_dispute a_trials a_refusals H.size s_isKept g_refusals ((-2 : Int32)) _ h) (cwV 1 hts gX10_lots_X10_refuse rfl rfl rfl (by decide +kernel) ⟨Nat.le_of_ble_eq_true rfl, Nat.le_of_ble_eq_true rfl⟩) (hc_pV hK hP hD [0, 3] rfl rfl (ci := 8) 0 rfl rfl) rfl rfl hl.1 rfl (lv_room (Nat.le_of_ble_eq_true rfl)) dX10_lots_35 ⟨Nat.le_refl _, Nat.le_refl _⟩) hP hD hS hA [0, 3] [1, 2, 4, 5, 6] rfl rfl rfl (by decide) (fun r35 u H locs h hP hD hS => ?_)
        obtain ⟨g_refusals_35, rfl⟩ : ∃ z, z = u := ⟨_, rfl⟩
        try dsimp only at h
        have hP : va_P G.1 vwCl [ceX3 a_now s_now_size s_now_heard s_now_mode s_now_cast s_now_figures s_now_voices s_now_attacks s_now_supports, ceX8 a_trials a_trials_draft a_trials_strife a_trials_settled, ceX3 a_trials_draft s_trials_draft_size s_trials_draft_heard s_trials_draft_mode s_trials_draft_cast s_trials_draft_figures s_trials_draft_voices s_trials_draft_attacks s_trials_draft_supports, ceX1 a_trials_strife s_trials_strife_hits s_trials_strife_leads s_trials_strife_defeats s_trials_strife_defeaters, ceX9 a_trials_settled s_trials_settled_in s_trials_settled_out s_trials_settled_length s_trials_settled_order, ceX10 h0 a_now a_kept a_reader a_numbers a_strife a_settled a_selection a_dispute a_trials a_refusals s_isKept, caI G a_refusals 7 g_refusals_35] H := hP
        have hD : va_D A [ceX3 a_now s_now_size s_now_heard s_now_mode s_now_cast s_now_figures s_now_voices s_now_attacks s_now_supports, ceX8 a_trials a_trials_draft a_trials_strife a_trials_settled, ceX3 a_trials_draft s_trials_draft_size s_trials_draft_heard s_trials_draft_mode s_trials_draft_cast s_trials_draft_figures s_trials_draft_voices s_trials_draft_attacks s_trials_draft_supports, ceX1 a_trials_strife s_trials_strife_hits s_trials_strife_leads s_trials_strife_defeats s_trials_strife_defeaters, ceX9 a_trials_settled s_trials_settled_in s_trials_settled_out s_trials_settled_length s_trials_settled_order, ceX10 h0 a_now a_kept a_reader a_numbers a_strife a_settled a_selection a_dispute a_trials a_refusals s_isKept, caI G a_refusals 7 g_refusals_35] := hD
        exact W.iret (v := r35) hx hb hr (fun t ht hW => ⟨⟨_, ⟨s_trials_draft_size, s_trials_draft_heard, s_trials_draft_mode, s_trials_draft_cast, s_trials_draft_figures, s_trials_draft_voices, s_trials_draft_attacks, s_trials_draft_supports, s_trials_strife_hits, s_trials_strife_leads, s_trials_strife_defeats, s_trials_strife_defeaters, s_trials_settled_in, s_trials_settled_out, s_trials_settled_length, s_trials_settled_order, g_refusals_35⟩, rfl, h, ⟨by rw [ht]; exact (hP.sub [5, 0, 1, 6, 2, 3, 4] rfl), (hD.sub [5, 0, 1, 6, 2, 3, 4] (by decide) rfl)⟩⟩, hS.F ht⟩) hS.2.2 dX10_lots_38
    · replace h := h.2 c
      refine lv_aload_n hx hb dX10_lots_18 rfl (lv_at hl 0 rfl) ?_
      refine lv_bipush (v := (-6 : Int32)) hx hb dX10_lots_19 kb_m6 ?_
      refine hc_ki (va_runV (As := [.int ((-6 : Int32))]) (rest := []) ⟨hx, hb, hml, hown, hts⟩ (c_X10_refuse l G h0 a_now a_kept a_reader a_numbers a_strife a_settled a_selection a_dispute a_trials a_refusals H.size s_isKept g_refusals ((-6 : Int32)) _ h) (cwV 1 hts gX10_lots_X10_refuse rfl rfl rfl (by decide +kernel) ⟨Nat.le_of_ble_eq_true rfl, Nat.le_of_ble_eq_true rfl⟩) (hc_pV hK hP hD [0, 3] rfl rfl (ci := 8) 0 rfl rfl) rfl rfl hl.1 rfl (lv_room (Nat.le_of_ble_eq_true rfl)) dX10_lots_21 ⟨Nat.le_refl _, Nat.le_refl _⟩) hP hD hS hA [0, 3] [1, 2, 4, 5, 6] rfl rfl rfl (by decide) (fun r21 u H locs h hP hD hS => ?_)
      obtain ⟨g_refusals_21, rfl⟩ : ∃ z, z = u := ⟨_, rfl⟩
      try dsimp only at h
      have hP : va_P G.1 vwCl [ceX3 a_now s_now_size s_now_heard s_now_mode s_now_cast s_now_figures s_now_voices s_now_attacks s_now_supports, ceX8 a_trials a_trials_draft a_trials_strife a_trials_settled, ceX3 a_trials_draft s_trials_draft_size s_trials_draft_heard s_trials_draft_mode s_trials_draft_cast s_trials_draft_figures s_trials_draft_voices s_trials_draft_attacks s_trials_draft_supports, ceX1 a_trials_strife s_trials_strife_hits s_trials_strife_leads s_trials_strife_defeats s_trials_strife_defeaters, ceX9 a_trials_settled s_trials_settled_in s_trials_settled_out s_trials_settled_length s_trials_settled_order, ceX10 h0 a_now a_kept a_reader a_numbers a_strife a_settled a_selection a_dispute a_trials a_refusals s_isKept, caI G a_refusals 7 g_refusals_21] H := hP
      have hD : va_D A [ceX3 a_now s_now_size s_now_heard s_now_mode s_now_cast s_now_figures s_now_voices s_now_attacks s_now_supports, ceX8 a_trials a_trials_draft a_trials_strife a_trials_settled, ceX3 a_trials_draft s_trials_draft_size s_trials_draft_heard s_trials_draft_mode s_trials_draft_cast s_trials_draft_figures s_trials_draft_voices s_trials_draft_attacks s_trials_draft_supports, ceX1 a_trials_strife s_trials_strife_hits s_trials_strife_leads s_trials_strife_defeats s_trials_strife_defeaters, ceX9 a_trials_settled s_trials_settled_in s_trials_settled_out s_trials_settled_length s_trials_settled_order, ceX10 h0 a_now a_kept a_reader a_numbers a_strife a_settled a_selection a_dispute a_trials a_refusals s_isKept, caI G a_refusals 7 g_refusals_21] := hD
      exact W.iret (v := r21) hx hb hr (fun t ht hW => ⟨⟨_, ⟨s_trials_draft_size, s_trials_draft_heard, s_trials_draft_mode, s_trials_draft_cast, s_trials_draft_figures, s_trials_draft_voices, s_trials_draft_attacks, s_trials_draft_supports, s_trials_strife_hits, s_trials_strife_leads, s_trials_strife_defeats, s_trials_strife_defeaters, s_trials_settled_in, s_trials_settled_out, s_trials_settled_length, s_trials_settled_order, g_refusals_21⟩, rfl, h, ⟨by rw [ht]; exact (hP.sub [5, 0, 1, 6, 2, 3, 4] rfl), (hD.sub [5, 0, 1, 6, 2, 3, 4] (by decide) rfl)⟩⟩, hS.F ht⟩) hS.2.2 dX10_lots_24
  · replace h := h.2 c
    refine lv_aload_n hx hb dX10_lots_5 rfl (lv_at hl 0 rfl) ?_
    refine lv_bipush (v := (-4 : Int32)) hx hb dX10_lots_6 kb_m4 ?_
    refine hc_ki (va_runV (As := [.int ((-4 : Int32))]) (rest := []) ⟨hx, hb, hml, hown, hts⟩ (c_X10_refuse l G h0 a_now a_kept a_reader a_numbers a_strife a_settled a_selection a_dispute a_trials a_refusals H.size s_isKept g_refusals ((-4 : Int32)) _ h) (cwV 1 hts gX10_lots_X10_refuse rfl rfl rfl (by decide +kernel) ⟨Nat.le_of_ble_eq_true rfl, Nat.le_of_ble_eq_true rfl⟩) (hc_pV hK hP hD [0, 3] rfl rfl (ci := 8) 0 rfl rfl) rfl rfl hl.1 rfl (lv_room (Nat.le_of_ble_eq_true rfl)) dX10_lots_8 ⟨Nat.le_refl _, Nat.le_refl _⟩) hP hD hS hA [0, 3] [1, 2, 4, 5, 6] rfl rfl rfl (by decide) (fun r8 u H locs h hP hD hS => ?_)
    obtain ⟨g_refusals_8, rfl⟩ : ∃ z, z = u := ⟨_, rfl⟩
    try dsimp only at h
    have hP : va_P G.1 vwCl [ceX3 a_now s_now_size s_now_heard s_now_mode s_now_cast s_now_figures s_now_voices s_now_attacks s_now_supports, ceX8 a_trials a_trials_draft a_trials_strife a_trials_settled, ceX3 a_trials_draft s_trials_draft_size s_trials_draft_heard s_trials_draft_mode s_trials_draft_cast s_trials_draft_figures s_trials_draft_voices s_trials_draft_attacks s_trials_draft_supports, ceX1 a_trials_strife s_trials_strife_hits s_trials_strife_leads s_trials_strife_defeats s_trials_strife_defeaters, ceX9 a_trials_settled s_trials_settled_in s_trials_settled_out s_trials_settled_length s_trials_settled_order, ceX10 h0 a_now a_kept a_reader a_numbers a_strife a_settled a_selection a_dispute a_trials a_refusals s_isKept, caI G a_refusals 7 g_refusals_8] H := hP
    have hD : va_D A [ceX3 a_now s_now_size s_now_heard s_now_mode s_now_cast s_now_figures s_now_voices s_now_attacks s_now_supports, ceX8 a_trials a_trials_draft a_trials_strife a_trials_settled, ceX3 a_trials_draft s_trials_draft_size s_trials_draft_heard s_trials_draft_mode s_trials_draft_cast s_trials_draft_figures s_trials_draft_voices s_trials_draft_attacks s_trials_draft_supports, ceX1 a_trials_strife s_trials_strife_hits s_trials_strife_leads s_trials_strife_defeats s_trials_strife_defeaters, ceX9 a_trials_settled s_trials_settled_in s_trials_settled_out s_trials_settled_length s_trials_settled_order, ceX10 h0 a_now a_kept a_reader a_numbers a_strife a_settled a_selection a_dispute a_trials a_refusals s_isKept, caI G a_refusals 7 g_refusals_8] := hD
    exact W.iret (v := r8) hx hb hr (fun t ht hW => ⟨⟨_, ⟨s_trials_draft_size, s_trials_draft_heard, s_trials_draft_mode, s_trials_draft_cast, s_trials_draft_figures, s_trials_draft_voices, s_trials_draft_attacks, s_trials_draft_supports, s_trials_strife_hits, s_trials_strife_leads, s_trials_strife_defeats, s_trials_strife_defeaters, s_trials_settled_in, s_trials_settled_out, s_trials_settled_length, s_trials_settled_order, g_refusals_8⟩, rfl, h, ⟨by rw [ht]; exact (hP.sub [5, 0, 1, 6, 2, 3, 4] rfl), (hD.sub [5, 0, 1, 6, 2, 3, 4] (by decide) rfl)⟩⟩, hS.F ht⟩) hS.2.2 dX10_lots_11
set_option maxHeartbeats 4000000 in
set_option maxRecDepth 100000 in
theorem c_X10_image (l : Launch) (G : hcG) (h0 : Nat) (a_now : Nat) (a_kept : Nat) (a_reader : Nat) (a_numbers : Nat) (a_strife : Nat) (a_settled : Nat) (a_selection : Nat) (a_dispute : Nat) (a_trials : Nat) (a_refusals : Nat) (sz : Nat) (s_isKept : Int32) (s_now_size : Int32) (s_now_heard : Int32) (s_now_mode : Int32) (s_now_cast : Int64) (s_now_figures : Int64) (s_now_voices : Int64) (s_now_attacks : Int64) (s_now_supports : Int64) (s_kept_size : Int32) (s_kept_heard : Int32) (s_kept_mode : Int32) (s_kept_cast : Int64) (s_kept_figures : Int64) (s_kept_voices : Int64) (s_kept_attacks : Int64) (s_kept_supports : Int64) (post : Int32 → Int32 → Int32 → Int32 → Int64 → Int64 → Int64 → Int64 → Int64 → Int32 → Prop) (h : wp_X10_image post s_now_size s_now_heard s_now_mode s_now_cast s_now_figures s_now_voices s_now_attacks s_now_supports s_kept_size s_kept_heard s_kept_mode s_kept_cast s_kept_figures s_kept_voices s_kept_attacks s_kept_supports s_isKept) : Met l yX10_image wsX10_image ({ frames := 1, cells := 0, slots := 0, locals := 21 }) (hcPc G [.ref h0] [ceX10 h0 a_now a_kept a_reader a_numbers a_strife a_settled a_selection a_dispute a_trials a_refusals s_isKept, ceX3 a_now s_now_size s_now_heard s_now_mode s_now_cast s_now_figures s_now_voices s_now_attacks s_now_supports, ceX3 a_kept s_kept_size s_kept_heard s_kept_mode s_kept_cast s_kept_figures s_kept_voices s_kept_attacks s_kept_supports] sz) (va_Qi (fun (r : Int32) (u : Int32 × Int32 × Int32 × Int64 × Int64 × Int64 × Int64 × Int64 × Int32) => post r u.1 u.2.1 u.2.2.1 u.2.2.2.1 u.2.2.2.2.1 u.2.2.2.2.2.1 u.2.2.2.2.2.2.1 u.2.2.2.2.2.2.2.1 u.2.2.2.2.2.2.2.2) (hcB G (va_A [ceX10 h0 a_now a_kept a_reader a_numbers a_strife a_settled a_selection a_dispute a_trials a_refusals s_isKept, ceX3 a_now s_now_size s_now_heard s_now_mode s_now_cast s_now_figures s_now_voices s_now_attacks s_now_supports, ceX3 a_kept s_kept_size s_kept_heard s_kept_mode s_kept_cast s_kept_figures s_kept_voices s_kept_attacks s_kept_supports] sz) (fun u : Int32 × Int32 × Int32 × Int64 × Int64 × Int64 × Int64 × Int64 × Int32 => [ceX10 h0 a_now a_kept a_reader a_numbers a_strife a_settled a_selection a_dispute a_trials a_refusals u.2.2.2.2.2.2.2.2, ceX3 a_now s_now_size s_now_heard s_now_mode s_now_cast s_now_figures s_now_voices s_now_attacks s_now_supports, ceX3 a_kept u.1 u.2.1 u.2.2.1 u.2.2.2.1 u.2.2.2.2.1 u.2.2.2.2.2.1 u.2.2.2.2.2.2.1 u.2.2.2.2.2.2.2.1])) (va_A [ceX10 h0 a_now a_kept a_reader a_numbers a_strife a_settled a_selection a_dispute a_trials a_refusals s_isKept, ceX3 a_now s_now_size s_now_heard s_now_mode s_now_cast s_now_figures s_now_voices s_now_attacks s_now_supports, ceX3 a_kept s_kept_size s_kept_heard s_kept_mode s_kept_cast s_kept_figures s_kept_voices s_kept_attacks s_kept_supports] sz)) 0 0 (va_A [ceX10 h0 a_now a_kept a_reader a_numbers a_strife a_settled a_selection a_dispute a_trials a_refusals s_isKept, ceX3 a_now s_now_size s_now_heard s_now_mode s_now_cast s_now_figures s_now_voices s_now_attacks s_now_supports, ceX3 a_kept s_kept_size s_kept_heard s_kept_mode s_kept_cast s_kept_figures s_kept_voices s_kept_attacks s_kept_supports] sz) := by
  refine Met.ofW (cc := cX10_image) (maxL := 1) (ret := (some .int)) (by decide) rfl ?_
  intro p e s m args below meth c s₁ B hml hv
  obtain ⟨rfl, hsz, hP, hK, hD0⟩ := hv
  have hx := B.exec
  have hb := B.bytes
  have hr := B.returns
  have hts := atoms_spec (ws := wsX10_image) B.pre
  have hown : s.vm.findClass RX10 = some m.cls := findClass_of_methodNamed B.named
  have hlocks := B.notSynchronized
  subst hsz
  have hD := hD0.self (sz := s.heap.size)
  generalize hAe : va_A [ceX10 h0 a_now a_kept a_reader a_numbers a_strife a_settled a_selection a_dispute a_trials a_refusals s_isKept, ceX3 a_now s_now_size s_now_heard s_now_mode s_now_cast s_now_figures s_now_voices s_now_attacks s_now_supports, ceX3 a_kept s_kept_size s_kept_heard s_kept_mode s_kept_cast s_kept_figures s_kept_voices s_kept_attacks s_kept_supports] s.heap.size = A at hD ⊢
  have hA : ∀ q : Nat, s.heap.size ≤ q → A q := fun q h => by rw [← hAe]; exact Or.inr h
  have hS : va_S A s.heap s.heap [] := va_S.rf
  have hP : va_P G.1 vwCl [ceX10 h0 a_now a_kept a_reader a_numbers a_strife a_settled a_selection a_dispute a_trials a_refusals s_isKept, ceX3 a_now s_now_size s_now_heard s_now_mode s_now_cast s_now_figures s_now_voices s_now_attacks s_now_supports, ceX3 a_kept s_kept_size s_kept_heard s_kept_mode s_kept_cast s_kept_figures s_kept_voices s_kept_attacks s_kept_supports] s.heap := hP
  have hl := lv_entry ([.ref h0]) (n := 1) (Nat.le_of_ble_eq_true rfl)
  rw [lg_entry_eq]
  generalize (lg_sl ([.ref h0]) ++ List.replicate (1 - (lg_sl ([.ref h0])).length) Slot.unset).toArray = ls at hl ⊢
  have hl : lv_has ls 1 [(0, .ref h0)] := hl
  have kf0 := hts (.fieldLink RX10 16 "HallOfClaims" "kept" "LHallOfClaims$Hall;") (List.mem_of_getElem? (i := 1) (by decide +kernel))
  have kf1 := hts (.fieldLink RX10 10 "HallOfClaims" "now" "LHallOfClaims$Hall;") (List.mem_of_getElem? (i := 2) (by decide +kernel))
  have kf2 := hts (.fieldLink RX10 74 "HallOfClaims" "isKept" "Z") (List.mem_of_getElem? (i := 3) (by decide +kernel))
  have kf3 := hts (.fieldLink RX10 294 "HallOfClaims$Hall" "size" "I") (List.mem_of_getElem? (i := 4) (by decide +kernel))
  have ki_X10 : ∀ w ∈ u_ws RX10 TX10 11, w ∈ wsX10_image := by decide +kernel
  have ki_X3 : ∀ w ∈ u_ws RX3 TX3 8, w ∈ wsX10_image := by decide +kernel
  unfold wp_X10_image at h
  refine lv_aload_n hx hb dX10_image_0 rfl (lv_at hl 0 rfl) ?_
  refine va_get (D := G.1) (ci := 8) (v := .ref a_kept) (C := RX10) (T := TX10) (N := 11) hx hb hts ki_X10 hown hK.1 hP 0 rfl rfl 1 (by decide) kf0 (fun _ h9 => h9) rfl dX10_image_1 ?_
  refine lv_aload_n hx hb dX10_image_4 rfl (lv_at hl 0 rfl) ?_
  refine va_get (D := G.1) (ci := 8) (v := .ref a_now) (C := RX10) (T := TX10) (N := 11) hx hb hts ki_X10 hown hK.1 hP 0 rfl rfl 0 (by decide) kf1 (fun _ h9 => h9) rfl dX10_image_5 ?_
  refine hc_kv (va_runV (As := [.ref a_now]) (rest := []) ⟨hx, hb, hml, hown, hts⟩ (c_X3_take l G a_kept a_now H.size s_kept_size s_kept_heard s_kept_mode s_kept_cast s_kept_figures s_kept_voices s_kept_attacks s_kept_supports s_now_size s_now_heard s_now_mode s_now_cast s_now_figures s_now_voices s_now_attacks s_now_supports _ h) (cwV 1 hts gX10_image_X3_take rfl rfl rfl (by decide +kernel) ⟨Nat.le_of_ble_eq_true rfl, Nat.le_of_ble_eq_true rfl⟩) (hc_pV hK hP hD [2, 1] rfl rfl (ci := 2) 2 rfl rfl) rfl rfl hl.1 rfl (lv_room (Nat.le_of_ble_eq_true rfl)) dX10_image_8 ⟨Nat.le_refl _, Nat.le_refl _⟩) hP hD hS hA [2, 1] [0] rfl rfl rfl (by decide) (fun u H locs h hP hD hS => ?_)
  obtain ⟨s_kept_size_8, s_kept_heard_8, s_kept_mode_8, s_kept_cast_8, s_kept_figures_8, s_kept_voices_8, s_kept_attacks_8, s_kept_supports_8⟩ := u
  try dsimp only at h
  have hP : va_P G.1 vwCl [ceX10 h0 a_now a_kept a_reader a_numbers a_strife a_settled a_selection a_dispute a_trials a_refusals s_isKept, ceX3 a_kept s_kept_size_8 s_kept_heard_8 s_kept_mode_8 s_kept_cast_8 s_kept_figures_8 s_kept_voices_8 s_kept_attacks_8 s_kept_supports_8, ceX3 a_now s_now_size s_now_heard s_now_mode s_now_cast s_now_figures s_now_voices s_now_attacks s_now_supports] H := hP
  have hD : va_D A [ceX10 h0 a_now a_kept a_reader a_numbers a_strife a_settled a_selection a_dispute a_trials a_refusals s_isKept, ceX3 a_kept s_kept_size_8 s_kept_heard_8 s_kept_mode_8 s_kept_cast_8 s_kept_figures_8 s_kept_voices_8 s_kept_attacks_8 s_kept_supports_8, ceX3 a_now s_now_size s_now_heard s_now_mode s_now_cast s_now_figures s_now_voices s_now_attacks s_now_supports] := hD
  refine lv_aload_n hx hb dX10_image_11 rfl (lv_at hl 0 rfl) ?_
  refine lv_iconst (v := nI 1) hx hb dX10_image_12 kc_1 ?_
  refine va_put (D := G.1) (ci := 8) (v := .int (nI 1)) (ty := .boolean) (C := RX10) (T := TX10) (N := 11) hx hb hts ki_X10 tyX10 tyX10_ok nmX10 hown hK.1 hP hD hS 0 rfl rfl 10 (by decide) kf2 (fun _ h9 => h9) rfl (by decide +kernel) rfl rfl (Nat.le_of_ble_eq_true rfl) dX10_image_13 (fun H locs hP hD hS => ?_)
  have hP : va_P G.1 vwCl [ceX10 h0 a_now a_kept a_reader a_numbers a_strife a_settled a_selection a_dispute a_trials a_refusals (nI 1), ceX3 a_kept s_kept_size_8 s_kept_heard_8 s_kept_mode_8 s_kept_cast_8 s_kept_figures_8 s_kept_voices_8 s_kept_attacks_8 s_kept_supports_8, ceX3 a_now s_now_size s_now_heard s_now_mode s_now_cast s_now_figures s_now_voices s_now_attacks s_now_supports] H := hP
  have hD : va_D A [ceX10 h0 a_now a_kept a_reader a_numbers a_strife a_settled a_selection a_dispute a_trials a_refusals (nI 1), ceX3 a_kept s_kept_size_8 s_kept_heard_8 s_kept_mode_8 s_kept_cast_8 s_kept_figures_8 s_kept_voices_8 s_kept_attacks_8 s_kept_supports_8, ceX3 a_now s_now_size s_now_heard s_now_mode s_now_cast s_now_figures s_now_voices s_now_attacks s_now_supports] := hD
  refine lv_aload_n hx hb dX10_image_16 rfl (lv_at hl 0 rfl) ?_
  refine va_get (D := G.1) (ci := 8) (v := .ref a_kept) (C := RX10) (T := TX10) (N := 11) hx hb hts ki_X10 hown hK.1 hP 0 rfl rfl 1 (by decide) kf0 (fun _ h9 => h9) rfl dX10_image_17 ?_
  refine va_get (D := G.1) (ci := 2) (v := .int s_kept_size_8) (C := RX3) (T := TX3) (N := 8) hx hb hts ki_X3 hown hK.1 hP 1 rfl rfl 0 (by decide) kf3 (fun _ h9 => h9) rfl dX10_image_20 ?_
  exact W.iret (v := s_kept_size_8) hx hb hr (fun t ht hW => ⟨⟨_, ⟨s_kept_size_8, s_kept_heard_8, s_kept_mode_8, s_kept_cast_8, s_kept_figures_8, s_kept_voices_8, s_kept_attacks_8, s_kept_supports_8, (nI 1)⟩, rfl, h, ⟨by rw [ht]; exact (hP.sub [0, 2, 1] rfl), (hD.sub [0, 2, 1] (by decide) rfl)⟩⟩, hS.F ht⟩) hS.2.2 dX10_image_23
set_option maxHeartbeats 4000000 in
set_option maxRecDepth 100000 in
theorem c_X10_on (l : Launch) (G : hcG) (h0 : Nat) (a_now : Nat) (a_kept : Nat) (a_reader : Nat) (a_numbers : Nat) (a_strife : Nat) (a_settled : Nat) (a_selection : Nat) (a_dispute : Nat) (a_trials : Nat) (a_refusals : Nat) (sz : Nat) (s_isKept : Int32) (s_now_size : Int32) (s_now_heard : Int32) (s_now_mode : Int32) (s_now_cast : Int64) (s_now_figures : Int64) (s_now_voices : Int64) (s_now_attacks : Int64) (s_now_supports : Int64) (s_kept_size : Int32) (s_kept_heard : Int32) (s_kept_mode : Int32) (s_kept_cast : Int64) (s_kept_figures : Int64) (s_kept_voices : Int64) (s_kept_attacks : Int64) (s_kept_supports : Int64) (g_refusals : Nat → Int32) (post : Int32 → Int32 → Int32 → Int32 → Int64 → Int64 → Int64 → Int64 → Int64 → (Nat → Int32) → Prop) (h : wp_X10_on post s_now_size s_now_heard s_now_mode s_now_cast s_now_figures s_now_voices s_now_attacks s_now_supports s_kept_size s_kept_heard s_kept_mode s_kept_cast s_kept_figures s_kept_voices s_kept_attacks s_kept_supports g_refusals s_isKept) : Met l yX10_on wsX10_on ({ frames := 1, cells := 0, slots := 0, locals := 22 }) (hcPc G [.ref h0] [ceX10 h0 a_now a_kept a_reader a_numbers a_strife a_settled a_selection a_dispute a_trials a_refusals s_isKept, ceX3 a_now s_now_size s_now_heard s_now_mode s_now_cast s_now_figures s_now_voices s_now_attacks s_now_supports, ceX3 a_kept s_kept_size s_kept_heard s_kept_mode s_kept_cast s_kept_figures s_kept_voices s_kept_attacks s_kept_supports, caI G a_refusals 7 g_refusals] sz) (va_Qi (fun (r : Int32) (u : Int32 × Int32 × Int32 × Int64 × Int64 × Int64 × Int64 × Int64 × (Nat → Int32)) => post r u.1 u.2.1 u.2.2.1 u.2.2.2.1 u.2.2.2.2.1 u.2.2.2.2.2.1 u.2.2.2.2.2.2.1 u.2.2.2.2.2.2.2.1 u.2.2.2.2.2.2.2.2) (hcB G (va_A [ceX10 h0 a_now a_kept a_reader a_numbers a_strife a_settled a_selection a_dispute a_trials a_refusals s_isKept, ceX3 a_now s_now_size s_now_heard s_now_mode s_now_cast s_now_figures s_now_voices s_now_attacks s_now_supports, ceX3 a_kept s_kept_size s_kept_heard s_kept_mode s_kept_cast s_kept_figures s_kept_voices s_kept_attacks s_kept_supports, caI G a_refusals 7 g_refusals] sz) (fun u : Int32 × Int32 × Int32 × Int64 × Int64 × Int64 × Int64 × Int64 × (Nat → Int32) => [ceX10 h0 a_now a_kept a_reader a_numbers a_strife a_settled a_selection a_dispute a_trials a_refusals s_isKept, ceX3 a_now u.1 u.2.1 u.2.2.1 u.2.2.2.1 u.2.2.2.2.1 u.2.2.2.2.2.1 u.2.2.2.2.2.2.1 u.2.2.2.2.2.2.2.1, ceX3 a_kept s_kept_size s_kept_heard s_kept_mode s_kept_cast s_kept_figures s_kept_voices s_kept_attacks s_kept_supports, caI G a_refusals 7 u.2.2.2.2.2.2.2.2])) (va_A [ceX10 h0 a_now a_kept a_reader a_numbers a_strife a_settled a_selection a_dispute a_trials a_refusals s_isKept, ceX3 a_now s_now_size s_now_heard s_now_mode s_now_cast s_now_figures s_now_voices s_now_attacks s_now_supports, ceX3 a_kept s_kept_size s_kept_heard s_kept_mode s_kept_cast s_kept_figures s_kept_voices s_kept_attacks s_kept_supports, caI G a_refusals 7 g_refusals] sz)) 0 0 (va_A [ceX10 h0 a_now a_kept a_reader a_numbers a_strife a_settled a_selection a_dispute a_trials a_refusals s_isKept, ceX3 a_now s_now_size s_now_heard s_now_mode s_now_cast s_now_figures s_now_voices s_now_attacks s_now_supports, ceX3 a_kept s_kept_size s_kept_heard s_kept_mode s_kept_cast s_kept_figures s_kept_voices s_kept_attacks s_kept_supports, caI G a_refusals 7 g_refusals] sz) := by
  refine Met.ofW (cc := cX10_on) (maxL := 1) (ret := (some .int)) (by decide) rfl ?_
  intro p e s m args below meth c s₁ B hml hv
  obtain ⟨rfl, hsz, hP, hK, hD0⟩ := hv
  have hx := B.exec
  have hb := B.bytes
  have hr := B.returns
  have hts := atoms_spec (ws := wsX10_on) B.pre
  have hown : s.vm.findClass RX10 = some m.cls := findClass_of_methodNamed B.named
  have hlocks := B.notSynchronized
  subst hsz
  have hD := hD0.self (sz := s.heap.size)
  generalize hAe : va_A [ceX10 h0 a_now a_kept a_reader a_numbers a_strife a_settled a_selection a_dispute a_trials a_refusals s_isKept, ceX3 a_now s_now_size s_now_heard s_now_mode s_now_cast s_now_figures s_now_voices s_now_attacks s_now_supports, ceX3 a_kept s_kept_size s_kept_heard s_kept_mode s_kept_cast s_kept_figures s_kept_voices s_kept_attacks s_kept_supports, caI G a_refusals 7 g_refusals] s.heap.size = A at hD ⊢
  have hA : ∀ q : Nat, s.heap.size ≤ q → A q := fun q h => by rw [← hAe]; exact Or.inr h
  have hS : va_S A s.heap s.heap [] := va_S.rf
  have hP : va_P G.1 vwCl [ceX10 h0 a_now a_kept a_reader a_numbers a_strife a_settled a_selection a_dispute a_trials a_refusals s_isKept, ceX3 a_now s_now_size s_now_heard s_now_mode s_now_cast s_now_figures s_now_voices s_now_attacks s_now_supports, ceX3 a_kept s_kept_size s_kept_heard s_kept_mode s_kept_cast s_kept_figures s_kept_voices s_kept_attacks s_kept_supports, caI G a_refusals 7 g_refusals] s.heap := hP
  have hl := lv_entry ([.ref h0]) (n := 1) (Nat.le_of_ble_eq_true rfl)
  rw [lg_entry_eq]
  generalize (lg_sl ([.ref h0]) ++ List.replicate (1 - (lg_sl ([.ref h0])).length) Slot.unset).toArray = ls at hl ⊢
  have hl : lv_has ls 1 [(0, .ref h0)] := hl
  have kf0 := hts (.fieldLink RX10 74 "HallOfClaims" "isKept" "Z") (List.mem_of_getElem? (i := 1) (by decide +kernel))
  have kf1 := hts (.fieldLink RX10 10 "HallOfClaims" "now" "LHallOfClaims$Hall;") (List.mem_of_getElem? (i := 2) (by decide +kernel))
  have kf2 := hts (.fieldLink RX10 16 "HallOfClaims" "kept" "LHallOfClaims$Hall;") (List.mem_of_getElem? (i := 3) (by decide +kernel))
  have kf3 := hts (.fieldLink RX10 294 "HallOfClaims$Hall" "size" "I") (List.mem_of_getElem? (i := 4) (by decide +kernel))
  have ki_X10 : ∀ w ∈ u_ws RX10 TX10 11, w ∈ wsX10_on := by decide +kernel
  have ki_X3 : ∀ w ∈ u_ws RX3 TX3 8, w ∈ wsX10_on := by decide +kernel
  unfold wp_X10_on at h
  refine lv_aload_n hx hb dX10_on_0 rfl (lv_at hl 0 rfl) ?_
  refine va_get (D := G.1) (ci := 8) (v := .int s_isKept) (C := RX10) (T := TX10) (N := 11) hx hb hts ki_X10 hown hK.1 hP 0 rfl rfl 10 (by decide) kf0 (fun _ h9 => h9) rfl dX10_on_1 ?_
  refine lv_if_ne (tgt := 14) hx hb dX10_on_4 (by decide) (fun c => ?_) (fun c => ?_)
  · replace h := h.1 c
    refine lv_aload_n hx hb dX10_on_14 rfl (lv_at hl 0 rfl) ?_
    refine va_get (D := G.1) (ci := 8) (v := .ref a_now) (C := RX10) (T := TX10) (N := 11) hx hb hts ki_X10 hown hK.1 hP 0 rfl rfl 0 (by decide) kf1 (fun _ h9 => h9) rfl dX10_on_15 ?_
    refine lv_aload_n hx hb dX10_on_18 rfl (lv_at hl 0 rfl) ?_
    refine va_get (D := G.1) (ci := 8) (v := .ref a_kept) (C := RX10) (T := TX10) (N := 11) hx hb hts ki_X10 hown hK.1 hP 0 rfl rfl 1 (by decide) kf2 (fun _ h9 => h9) rfl dX10_on_19 ?_
    refine hc_kv (va_runV (As := [.ref a_kept]) (rest := []) ⟨hx, hb, hml, hown, hts⟩ (c_X3_take l G a_now a_kept H.size s_now_size s_now_heard s_now_mode s_now_cast s_now_figures s_now_voices s_now_attacks s_now_supports s_kept_size s_kept_heard s_kept_mode s_kept_cast s_kept_figures s_kept_voices s_kept_attacks s_kept_supports _ h) (cwV 1 hts gX10_on_X3_take rfl rfl rfl (by decide +kernel) ⟨Nat.le_of_ble_eq_true rfl, Nat.le_of_ble_eq_true rfl⟩) (hc_pV hK hP hD [1, 2] rfl rfl (ci := 2) 1 rfl rfl) rfl rfl hl.1 rfl (lv_room (Nat.le_of_ble_eq_true rfl)) dX10_on_22 ⟨Nat.le_refl _, Nat.le_refl _⟩) hP hD hS hA [1, 2] [0, 3] rfl rfl rfl (by decide) (fun u H locs h hP hD hS => ?_)
    obtain ⟨s_now_size_22, s_now_heard_22, s_now_mode_22, s_now_cast_22, s_now_figures_22, s_now_voices_22, s_now_attacks_22, s_now_supports_22⟩ := u
    try dsimp only at h
    have hP : va_P G.1 vwCl [ceX10 h0 a_now a_kept a_reader a_numbers a_strife a_settled a_selection a_dispute a_trials a_refusals s_isKept, caI G a_refusals 7 g_refusals, ceX3 a_now s_now_size_22 s_now_heard_22 s_now_mode_22 s_now_cast_22 s_now_figures_22 s_now_voices_22 s_now_attacks_22 s_now_supports_22, ceX3 a_kept s_kept_size s_kept_heard s_kept_mode s_kept_cast s_kept_figures s_kept_voices s_kept_attacks s_kept_supports] H := hP
    have hD : va_D A [ceX10 h0 a_now a_kept a_reader a_numbers a_strife a_settled a_selection a_dispute a_trials a_refusals s_isKept, caI G a_refusals 7 g_refusals, ceX3 a_now s_now_size_22 s_now_heard_22 s_now_mode_22 s_now_cast_22 s_now_figures_22 s_now_voices_22 s_now_attacks_22 s_now_supports_22, ceX3 a_kept s_kept_size s_kept_heard s_kept_mode s_kept_cast s_kept_figures s_kept_voices s_kept_attacks s_kept_supports] := hD
    refine lv_aload_n hx hb dX10_on_25 rfl (lv_at hl 0 rfl) ?_
    refine va_get (D := G.1) (ci := 8) (v := .ref a_now) (C := RX10) (T := TX10) (N := 11) hx hb hts ki_X10 hown hK.1 hP 0 rfl rfl 0 (by decide) kf1 (fun _ h9 => h9) rfl dX10_on_26 ?_
    refine va_get (D := G.1) (ci := 2) (v := .int s_now_size_22) (C := RX3) (T := TX3) (N := 8) hx hb hts ki_X3 hown hK.1 hP 2 rfl rfl 0 (by decide) kf3 (fun _ h9 => h9) rfl dX10_on_29 ?_
    exact W.iret (v := s_now_size_22) hx hb hr (fun t ht hW => ⟨⟨_, ⟨s_now_size_22, s_now_heard_22, s_now_mode_22, s_now_cast_22, s_now_figures_22, s_now_voices_22, s_now_attacks_22, s_now_supports_22, g_refusals⟩, rfl, h, ⟨by rw [ht]; exact (hP.sub [0, 2, 3, 1] rfl), (hD.sub [0, 2, 3, 1] (by decide) rfl)⟩⟩, hS.F ht⟩) hS.2.2 dX10_on_32
  · replace h := h.2 c
    refine lv_aload_n hx hb dX10_on_7 rfl (lv_at hl 0 rfl) ?_
    refine lv_bipush (v := (-3 : Int32)) hx hb dX10_on_8 kb_m3 ?_
    refine hc_ki (va_runV (As := [.int ((-3 : Int32))]) (rest := []) ⟨hx, hb, hml, hown, hts⟩ (c_X10_refuse l G h0 a_now a_kept a_reader a_numbers a_strife a_settled a_selection a_dispute a_trials a_refusals H.size s_isKept g_refusals ((-3 : Int32)) _ h) (cwV 1 hts gX10_on_X10_refuse rfl rfl rfl (by decide +kernel) ⟨Nat.le_of_ble_eq_true rfl, Nat.le_of_ble_eq_true rfl⟩) (hc_pV hK hP hD [0, 3] rfl rfl (ci := 8) 0 rfl rfl) rfl rfl hl.1 rfl (lv_room (Nat.le_of_ble_eq_true rfl)) dX10_on_10 ⟨Nat.le_refl _, Nat.le_refl _⟩) hP hD hS hA [0, 3] [1, 2] rfl rfl rfl (by decide) (fun r10 u H locs h hP hD hS => ?_)
    obtain ⟨g_refusals_10, rfl⟩ : ∃ z, z = u := ⟨_, rfl⟩
    try dsimp only at h
    have hP : va_P G.1 vwCl [ceX3 a_now s_now_size s_now_heard s_now_mode s_now_cast s_now_figures s_now_voices s_now_attacks s_now_supports, ceX3 a_kept s_kept_size s_kept_heard s_kept_mode s_kept_cast s_kept_figures s_kept_voices s_kept_attacks s_kept_supports, ceX10 h0 a_now a_kept a_reader a_numbers a_strife a_settled a_selection a_dispute a_trials a_refusals s_isKept, caI G a_refusals 7 g_refusals_10] H := hP
    have hD : va_D A [ceX3 a_now s_now_size s_now_heard s_now_mode s_now_cast s_now_figures s_now_voices s_now_attacks s_now_supports, ceX3 a_kept s_kept_size s_kept_heard s_kept_mode s_kept_cast s_kept_figures s_kept_voices s_kept_attacks s_kept_supports, ceX10 h0 a_now a_kept a_reader a_numbers a_strife a_settled a_selection a_dispute a_trials a_refusals s_isKept, caI G a_refusals 7 g_refusals_10] := hD
    exact W.iret (v := r10) hx hb hr (fun t ht hW => ⟨⟨_, ⟨s_now_size, s_now_heard, s_now_mode, s_now_cast, s_now_figures, s_now_voices, s_now_attacks, s_now_supports, g_refusals_10⟩, rfl, h, ⟨by rw [ht]; exact (hP.sub [2, 0, 1, 3] rfl), (hD.sub [2, 0, 1, 3] (by decide) rfl)⟩⟩, hS.F ht⟩) hS.2.2 dX10_on_13
set_option maxHeartbeats 4000000 in
set_option maxRecDepth 100000 in
theorem c_J13_bitCount_95d88 (l : Launch) (G : hcG) (sz : Nat) (x0 : Int64) (post : Int32 → Prop) (h : wp_J13_bitCount_95d88 post x0) : Met l yJ13_bitCount_95d88 wsJ13_bitCount_95d88 ({ frames := 0, cells := 0, slots := 0, locals := 0 }) (hcPc G [.long x0] [] sz) (va_Qi (fun (r : Int32) (u : Unit) => post r) (hcB G (va_A [] sz) (fun u : Unit => [])) (va_A [] sz)) 0 0 (va_A [] sz) := by
  refine Met.ofW (cc := cJ13_bitCount_95d88) (maxL := 2) (ret := (some .int)) (by decide) rfl ?_
  intro p e s m args below meth c s₁ B hml hv
  obtain ⟨rfl, hsz, hP, hK, hD0⟩ := hv
  have hx := B.exec
  have hb := B.bytes
  have hr := B.returns
  have hts := atoms_spec (ws := wsJ13_bitCount_95d88) B.pre
  have hown : s.vm.findClass RJ13 = some m.cls := findClass_of_methodNamed B.named
  have hlocks := B.notSynchronized
  subst hsz
  have hD := hD0.self (sz := s.heap.size)
  generalize hAe : va_A [] s.heap.size = A at hD ⊢
  have hA : ∀ q : Nat, s.heap.size ≤ q → A q := fun q h => by rw [← hAe]; exact Or.inr h
  have hS : va_S A s.heap s.heap [] := va_S.rf
  have hP : va_P G.1 vwCl [] s.heap := hP
  have hl := lv_entry ([.long x0]) (n := 2) (Nat.le_of_ble_eq_true rfl)
  rw [lg_entry_eq]
  generalize (lg_sl ([.long x0]) ++ List.replicate (2 - (lg_sl ([.long x0])).length) Slot.unset).toArray = ls at hl ⊢
  have hl : lv_has ls 2 [(0, .long x0)] := hl
  have kf0 := hts (.constantLong RJ13 314 (6148914691236517205)) (List.mem_of_getElem? (i := 1) (by decide +kernel))
  have kf1 := hts (.constantLong RJ13 316 (3689348814741910323)) (List.mem_of_getElem? (i := 2) (by decide +kernel))
  have kf2 := hts (.constantLong RJ13 318 (1085102592571150095)) (List.mem_of_getElem? (i := 3) (by decide +kernel))
  unfold wp_J13_bitCount_95d88 at h
  refine lv_lload_n hx hb dJ13_bitCount_95d88_0 rfl (lv_at hl 0 rfl) ?_
  refine lv_lload_n hx hb dJ13_bitCount_95d88_1 rfl (lv_at hl 0 rfl) ?_
  refine lv_iconst (v := nI 1) hx hb dJ13_bitCount_95d88_2 kc_1 ?_
  refine lv_lushr (v := hcLushr x0 (nI 1)) hx hb dJ13_bitCount_95d88_3 rfl ?_
  refine lv_ldc2 (own := RJ13) (v := 6148914691236517205) hx hb hown kf0 dJ13_bitCount_95d88_4 ?_
  refine lv_land hx hb dJ13_bitCount_95d88_7 ?_
  refine lv_lsub hx hb dJ13_bitCount_95d88_8 ?_
  refine lv_lstore_n (lv' := [(0, .long (x0 - ((hcLushr x0 (nI 1)) &&& ((6148914691236517205 : Int64)))))]) hx hb dJ13_bitCount_95d88_9 rfl hl (by decide) rfl (fun ls hl => ?_)
  refine lv_lload_n hx hb dJ13_bitCount_95d88_10 rfl (lv_at hl 0 rfl) ?_
  refine lv_ldc2 (own := RJ13) (v := 3689348814741910323) hx hb hown kf1 dJ13_bitCount_95d88_11 ?_
  refine lv_land hx hb dJ13_bitCount_95d88_14 ?_
  refine lv_lload_n hx hb dJ13_bitCount_95d88_15 rfl (lv_at hl 0 rfl) ?_
  refine lv_iconst (v := nI 2) hx hb dJ13_bitCount_95d88_16 kc_2 ?_
  refine lv_lushr (v := hcLushr (x0 - ((hcLushr x0 (nI 1)) &&& ((6148914691236517205 : Int64)))) (nI 2)) hx hb dJ13_bitCount_95d88_17 rfl ?_
  refine lv_ldc2 (own := RJ13) (v := 3689348814741910323) hx hb hown kf1 dJ13_bitCount_95d88_18 ?_
  refine lv_land hx hb dJ13_bitCount_95d88_21 ?_
  refine lv_ladd hx hb dJ13_bitCount_95d88_22 ?_
  refine lv_topl (fun y23 ey23 => ?_)
  replace h := h _ ey23
  refine lv_lstore_n (lv' := [(0, .long y23)]) hx hb dJ13_bitCount_95d88_23 rfl hl (by decide) rfl (fun ls hl => ?_)
  refine lv_lload_n hx hb dJ13_bitCount_95d88_24 rfl (lv_at hl 0 rfl) ?_
  refine lv_lload_n hx hb dJ13_bitCount_95d88_25 rfl (lv_at hl 0 rfl) ?_
  refine lv_iconst (v := nI 4) hx hb dJ13_bitCount_95d88_26 kc_4 ?_
  refine lv_lushr (v := hcLushr y23 (nI 4)) hx hb dJ13_bitCount_95d88_27 rfl ?_
  refine lv_ladd hx hb dJ13_bitCount_95d88_28 ?_
  refine lv_ldc2 (own := RJ13) (v := 1085102592571150095) hx hb hown kf2 dJ13_bitCount_95d88_29 ?_
  refine lv_land hx hb dJ13_bitCount_95d88_32 ?_
  refine lv_lstore_n (lv' := [(0, .long ((y23 + (hcLushr y23 (nI 4))) &&& ((1085102592571150095 : Int64))))]) hx hb dJ13_bitCount_95d88_33 rfl hl (by decide) rfl (fun ls hl => ?_)
  refine lv_lload_n hx hb dJ13_bitCount_95d88_34 rfl (lv_at hl 0 rfl) ?_
  refine lv_lload_n hx hb dJ13_bitCount_95d88_35 rfl (lv_at hl 0 rfl) ?_
  refine lv_bipush (v := nI 8) hx hb dJ13_bitCount_95d88_36 kb_8 ?_
  refine lv_lushr (v := hcLushr ((y23 + (hcLushr y23 (nI 4))) &&& ((1085102592571150095 : Int64))) (nI 8)) hx hb dJ13_bitCount_95d88_38 rfl ?_
  refine lv_ladd hx hb dJ13_bitCount_95d88_39 ?_
  refine lv_topl (fun y40 ey40 => ?_)
  replace h := h _ ey40
  refine lv_lstore_n (lv' := [(0, .long y40)]) hx hb dJ13_bitCount_95d88_40 rfl hl (by decide) rfl (fun ls hl => ?_)
  refine lv_lload_n hx hb dJ13_bitCount_95d88_41 rfl (lv_at hl 0 rfl) ?_
  refine lv_lload_n hx hb dJ13_bitCount_95d88_42 rfl (lv_at hl 0 rfl) ?_
  refine lv_bipush (v := nI 16) hx hb dJ13_bitCount_95d88_43 kb_16 ?_
  refine lv_lushr (v := hcLushr y40 (nI 16)) hx hb dJ13_bitCount_95d88_45 rfl ?_
  refine lv_ladd hx hb dJ13_bitCount_95d88_46 ?_
  refine lv_lstore_n (lv' := [(0, .long (y40 + (hcLushr y40 (nI 16))))]) hx hb dJ13_bitCount_95d88_47 rfl hl (by decide) rfl (fun ls hl => ?_)
  refine lv_lload_n hx hb dJ13_bitCount_95d88_48 rfl (lv_at hl 0 rfl) ?_
  refine lv_lload_n hx hb dJ13_bitCount_95d88_49 rfl (lv_at hl 0 rfl) ?_
  refine lv_bipush (v := nI 32) hx hb dJ13_bitCount_95d88_50 kb_32 ?_
  refine lv_lushr (v := hcLushr (y40 + (hcLushr y40 (nI 16))) (nI 32)) hx hb dJ13_bitCount_95d88_52 rfl ?_
  refine lv_ladd hx hb dJ13_bitCount_95d88_53 ?_
  refine lv_topl (fun y54 ey54 => ?_)
  replace h := h _ ey54
  refine lv_lstore_n (lv' := [(0, .long y54)]) hx hb dJ13_bitCount_95d88_54 rfl hl (by decide) rfl (fun ls hl => ?_)
  refine lv_lload_n hx hb dJ13_bitCount_95d88_55 rfl (lv_at hl 0 rfl) ?_
  refine lv_l2i (v := y54.toInt32) hx hb dJ13_bitCount_95d88_56 rfl ?_
  refine lv_bipush (v := nI 127) hx hb dJ13_bitCount_95d88_57 kb_127 ?_
  refine lv_iand hx hb dJ13_bitCount_95d88_59 ?_
  exact W.iret (v := y54.toInt32 &&& (nI 127)) hx hb hr (fun t ht hW => ⟨⟨_, (), rfl, h, ⟨by rw [ht]; exact hP, hD⟩⟩, hS.F ht⟩) hS.2.2 dJ13_bitCount_95d88_60
set_option maxHeartbeats 4000000 in
set_option maxRecDepth 100000 in
theorem c_X10_count (l : Launch) (G : hcG) (h0 : Nat) (a_now : Nat) (a_kept : Nat) (a_reader : Nat) (a_numbers : Nat) (a_strife : Nat) (a_settled : Nat) (a_selection : Nat) (a_dispute : Nat) (a_trials : Nat) (a_refusals : Nat) (a_reader_letters : Nat) (a_reader_draft : Nat) (a_numbers_numbers : Nat) (a_reader_letters_numbers : Nat) (sz : Nat) (s_isKept : Int32) (s_now_size : Int32) (s_now_heard : Int32) (s_now_mode : Int32) (s_now_cast : Int64) (s_now_figures : Int64) (s_now_voices : Int64) (s_now_attacks : Int64) (s_now_supports : Int64) (s_numbers_length : Int32) (g_refusals : Nat → Int32) (s_reader_letters_length : Int32) (x1 : Int32) (post : Int32 → Prop) (h : wp_X10_count post s_now_size s_now_heard s_now_mode s_now_attacks s_now_supports s_reader_letters_length s_numbers_length g_refusals x1) : Met l yX10_count wsX10_count ({ frames := 1, cells := 0, slots := 0, locals := 21 }) (hcPc G [.ref h0, .int x1] [ceX10 h0 a_now a_kept a_reader a_numbers a_strife a_settled a_selection a_dispute a_trials a_refusals s_isKept, ceX3 a_now s_now_size s_now_heard s_now_mode s_now_cast s_now_figures s_now_voices s_now_attacks s_now_supports, ceX5 a_reader a_reader_letters a_reader_draft, ceX6 a_numbers a_numbers_numbers s_numbers_length, caI G a_refusals 7 g_refusals, ceX6 a_reader_letters a_reader_letters_numbers s_reader_letters_length] sz) (va_Qi (fun (r : Int32) (u : Unit) => post r) (hcB G (va_A [ceX10 h0 a_now a_kept a_reader a_numbers a_strife a_settled a_selection a_dispute a_trials a_refusals s_isKept, ceX3 a_now s_now_size s_now_heard s_now_mode s_now_cast s_now_figures s_now_voices s_now_attacks s_now_supports, ceX5 a_reader a_reader_letters a_reader_draft, ceX6 a_numbers a_numbers_numbers s_numbers_length, caI G a_refusals 7 g_refusals, ceX6 a_reader_letters a_reader_letters_numbers s_reader_letters_length] sz) (fun u : Unit => [ceX10 h0 a_now a_kept a_reader a_numbers a_strife a_settled a_selection a_dispute a_trials a_refusals s_isKept, ceX3 a_now s_now_size s_now_heard s_now_mode s_now_cast s_now_figures s_now_voices s_now_attacks s_now_supports, ceX5 a_reader a_reader_letters a_reader_draft, ceX6 a_numbers a_numbers_numbers s_numbers_length, caI G a_refusals 7 g_refusals, ceX6 a_reader_letters a_reader_letters_numbers s_reader_letters_length])) (va_A [ceX10 h0 a_now a_kept a_reader a_numbers a_strife a_settled a_selection a_dispute a_trials a_refusals s_isKept, ceX3 a_now s_now_size s_now_heard s_now_mode s_now_cast s_now_figures s_now_voices s_now_attacks s_now_supports, ceX5 a_reader a_reader_letters a_reader_draft, ceX6 a_numbers a_numbers_numbers s_numbers_length, caI G a_refusals 7 g_refusals, ceX6 a_reader_letters a_reader_letters_numbers s_reader_letters_length] sz)) 0 0 (va_A [ceX10 h0 a_now a_kept a_reader a_numbers a_strife a_settled a_selection a_dispute a_trials a_refusals s_isKept, ceX3 a_now s_now_size s_now_heard s_now_mode s_now_cast s_now_figures s_now_voices s_now_attacks s_now_supports, ceX5 a_reader a_reader_letters a_reader_draft, ceX6 a_numbers a_numbers_numbers s_numbers_length, caI G a_refusals 7 g_refusals, ceX6 a_reader_letters a_reader_letters_numbers s_reader_letters_length] sz) := by
  refine Met.ofW (cc := cX10_count) (maxL := 2) (ret := (some .int)) (by decide) rfl ?_
  intro p e s m args below meth c s₁ B hml hv
  obtain ⟨rfl, hsz, hP, hK, hD0⟩ := hv
  have hx := B.exec
  have hb := B.bytes
  have hr := B.returns
  have hts := atoms_spec (ws := wsX10_count) B.pre
  have hown : s.vm.findClass RX10 = some m.cls := findClass_of_methodNamed B.named
  have hlocks := B.notSynchronized
  subst hsz
  have hD := hD0.self (sz := s.heap.size)
  generalize hAe : va_A [ceX10 h0 a_now a_kept a_reader a_numbers a_strife a_settled a_selection a_dispute a_trials a_refusals s_isKept, ceX3 a_now s_now_size s_now_heard s_now_mode s_now_cast s_now_figures s_now_voices s_now_attacks s_now_supports, ceX5 a_reader a_reader_letters a_reader_draft, ceX6 a_numbers a_numbers_numbers s_numbers_length, caI G a_refusals 7 g_refusals, ceX6 a_reader_letters a_reader_letters_numbers s_reader_letters_length] s.heap.size = A at hD ⊢
  have hA : ∀ q : Nat, s.heap.size ≤ q → A q := fun q h => by rw [← hAe]; exact Or.inr h
  have hS : va_S A s.heap s.heap [] := va_S.rf
  have hP : va_P G.1 vwCl [ceX10 h0 a_now a_kept a_reader a_numbers a_strife a_settled a_selection a_dispute a_trials a_refusals s_isKept, ceX3 a_now s_now_size s_now_heard s_now_mode s_now_cast s_now_figures s_now_voices s_now_attacks s_now_supports, ceX5 a_reader a_reader_letters a_reader_draft, ceX6 a_numbers a_numbers_numbers s_numbers_length, caI G a_refusals 7 g_refusals, ceX6 a_reader_letters a_reader_letters_numbers s_reader_letters_length] s.heap := hP
  have hl := lv_entry ([.ref h0, .int x1]) (n := 2) (Nat.le_of_ble_eq_true rfl)
  rw [lg_entry_eq]
  generalize (lg_sl ([.ref h0, .int x1]) ++ List.replicate (2 - (lg_sl ([.ref h0, .int x1])).length) Slot.unset).toArray = ls at hl ⊢
  have hl : lv_has ls 2 [(0, .ref h0), (1, .int x1)] := hl
  have kf0 := hts (.fieldLink RX10 70 "HallOfClaims" "refusals" "[I") (List.mem_of_getElem? (i := 11) (by decide +kernel))
  have kf1 := hts (.fieldLink RX10 10 "HallOfClaims" "now" "LHallOfClaims$Hall;") (List.mem_of_getElem? (i := 1) (by decide +kernel))
  have kf2 := hts (.fieldLink RX10 294 "HallOfClaims$Hall" "size" "I") (List.mem_of_getElem? (i := 2) (by decide +kernel))
  have kf3 := hts (.fieldLink RX10 187 "HallOfClaims$Hall" "heard" "I") (List.mem_of_getElem? (i := 3) (by decide +kernel))
  have kf4 := hts (.fieldLink RX10 131 "HallOfClaims$Hall" "attacks" "J") (List.mem_of_getElem? (i := 4) (by decide +kernel))
  have kf5 := hts (.fieldLink RX10 144 "HallOfClaims$Hall" "supports" "J") (List.mem_of_getElem? (i := 5) (by decide +kernel))
  have kf6 := hts (.fieldLink RX10 147 "HallOfClaims$Hall" "mode" "I") (List.mem_of_getElem? (i := 6) (by decide +kernel))
  have kf7 := hts (.fieldLink RX10 31 "HallOfClaims" "numbers" "LHallOfClaims$Row;") (List.mem_of_getElem? (i := 7) (by decide +kernel))
  have kf8 := hts (.fieldLink RX10 96 "HallOfClaims$Row" "length" "I") (List.mem_of_getElem? (i := 8) (by decide +kernel))
  have kf9 := hts (.fieldLink RX10 22 "HallOfClaims" "reader" "LHallOfClaims$Reader;") (List.mem_of_getElem? (i := 9) (by decide +kernel))
  have kf10 := hts (.fieldLink RX10 82 "HallOfClaims$Reader" "letters" "LHallOfClaims$Row;") (List.mem_of_getElem? (i := 10) (by decide +kernel))
  have ki_X10 : ∀ w ∈ u_ws RX10 TX10 11, w ∈ wsX10_count := by decide +kernel
  have ki_X3 : ∀ w ∈ u_ws RX3 TX3 8, w ∈ wsX10_count := by decide +kernel
  have ki_X6 : ∀ w ∈ u_ws RX6 TX6 2, w ∈ wsX10_count := by decide +kernel
  have ki_X5 : ∀ w ∈ u_ws RX5 TX5 2, w ∈ wsX10_count := by decide +kernel
  unfold wp_X10_count at h
  refine lv_iload_n hx hb dX10_count_0 rfl (lv_at hl 1 rfl) ?_
  rcases hc_sw6 x1 with c | c | c | c | c | c | c | c
  · refine lv_tableOut (tgt := 109) hx hb dX10_count_1 c (by decide) ?_
    replace h := h.1 c
    refine lv_iload_n hx hb dX10_count_109 rfl (lv_at hl 1 rfl) ?_
    refine lv_bipush (v := nI 11) hx hb dX10_count_110 kb_11 ?_
    refine lv_icmp_lt (tgt := 133) hx hb dX10_count_112 (by decide) (fun c => ?_) (fun c => ?_)
    · replace h := h.1 c
      refine lv_bipush (v := (-9 : Int32)) hx hb dX10_count_133 kb_m9 ?_
      exact W.iret (v := (-9 : Int32)) hx hb hr (fun t ht hW => ⟨⟨_, (), rfl, h, ⟨by rw [ht]; exact hP, hD⟩⟩, hS.F ht⟩) hS.2.2 dX10_count_135
    · replace h := h.2 c
      refine lv_iload_n hx hb dX10_count_115 rfl (lv_at hl 1 rfl) ?_
      refine lv_bipush (v := nI 16) hx hb dX10_count_116 kb_16 ?_
      refine lv_icmp_gt (tgt := 133) hx hb dX10_count_118 (by decide) (fun c => ?_) (fun c => ?_)
      · replace h := h.1 c
        refine lv_bipush (v := (-9 : Int32)) hx hb dX10_count_133 kb_m9 ?_
        exact W.iret (v := (-9 : Int32)) hx hb hr (fun t ht hW => ⟨⟨_, (), rfl, h, ⟨by rw [ht]; exact hP, hD⟩⟩, hS.F ht⟩) hS.2.2 dX10_count_135
      · replace h := h.2 c
        refine lv_aload_n hx hb dX10_count_121 rfl (lv_at hl 0 rfl) ?_
        refine va_get (D := G.1) (ci := 8) (v := .ref a_refusals) (C := RX10) (T := TX10) (N := 11) hx hb hts ki_X10 hown hK.1 hP 0 rfl rfl 9 (by decide) kf0 (fun _ h9 => h9) rfl dX10_count_122 ?_
        refine lv_iload_n hx hb dX10_count_125 rfl (lv_at hl 1 rfl) ?_
        refine lv_bipush (v := nI 10) hx hb dX10_count_126 kb_10 ?_
        refine lv_isub hx hb dX10_count_128 ?_
        have hin := h.1
        replace h := h.2
        refine va_iald hx hb hK.1 hP 4 0 rfl rfl hin dX10_count_129 ?_
        refine lv_goto (tgt := 135) hx hb dX10_count_130 (by decide) ?_
        exact W.iret (v := g_refusals (x1 - (nI 10)).toNatClampNeg) hx hb hr (fun t ht hW => ⟨⟨_, (), rfl, h, ⟨by rw [ht]; exact hP, hD⟩⟩, hS.F ht⟩) hS.2.2 dX10_count_135
  · refine lv_tableIn (tgt := 44) (off := 43) hx hb dX10_count_1 (by rw [c]; decide) (by rw [c]; decide) (by rw [c]; decide +kernel) (by decide) ?_
    replace h := h.2.1 c
    refine lv_aload_n hx hb dX10_count_44 rfl (lv_at hl 0 rfl) ?_
    refine va_get (D := G.1) (ci := 8) (v := .ref a_now) (C := RX10) (T := TX10) (N := 11) hx hb hts ki_X10 hown hK.1 hP 0 rfl rfl 0 (by decide) kf1 (fun _ h9 => h9) rfl dX10_count_45 ?_
    refine va_get (D := G.1) (ci := 2) (v := .int s_now_size) (C := RX3) (T := TX3) (N := 8) hx hb hts ki_X3 hown hK.1 hP 1 rfl rfl 0 (by decide) kf2 (fun _ h9 => h9) rfl dX10_count_48 ?_
    exact W.iret (v := s_now_size) hx hb hr (fun t ht hW => ⟨⟨_, (), rfl, h, ⟨by rw [ht]; exact hP, hD⟩⟩, hS.F ht⟩) hS.2.2 dX10_count_51
  · refine lv_tableIn (tgt := 52) (off := 51) hx hb dX10_count_1 (by rw [c]; decide) (by rw [c]; decide) (by rw [c]; decide +kernel) (by decide) ?_
    replace h := h.2.2.1 c
    refine lv_aload_n hx hb dX10_count_52 rfl (lv_at hl 0 rfl) ?_
    refine va_get (D := G.1) (ci := 8) (v := .ref a_now) (C := RX10) (T := TX10) (N := 11) hx hb hts ki_X10 hown hK.1 hP 0 rfl rfl 0 (by decide) kf1 (fun _ h9 => h9) rfl dX10_count_53 ?_
    refine va_get (D := G.1) (ci := 2) (v := .int s_now_heard) (C := RX3) (T := TX3) (N := 8) hx hb hts ki_X3 hown hK.1 hP 1 rfl rfl 1 (by decide) kf3 (fun _ h9 => h9) rfl dX10_count_56 ?_
    exact W.iret (v := s_now_heard) hx hb hr (fun t ht hW => ⟨⟨_, (), rfl, h, ⟨by rw [ht]; exact hP, hD⟩⟩, hS.F ht⟩) hS.2.2 dX10_count_59
  · refine lv_tableIn (tgt := 60) (off := 59) hx hb dX10_count_1 (by rw [c]; decide) (by rw [c]; decide) (by rw [c]; decide +kernel) (by decide) ?_
    replace h := h.2.2.2.1 c
    refine lv_aload_n hx hb dX10_count_60 rfl (lv_at hl 0 rfl) ?_
    refine va_get (D := G.1) (ci := 8) (v := .ref a_now) (C := RX10) (T := TX10) (N := 11) hx hb hts ki_X10 hown hK.1 hP 0 rfl rfl 0 (by decide) kf1 (fun _ h9 => h9) rfl dX10_count_61 ?_
    refine va_get (D := G.1) (ci := 2) (v := .long s_now_attacks) (C := RX3) (T := TX3) (N := 8) hx hb hts ki_X3 hown hK.1 hP 1 rfl rfl 6 (by decide) kf4 (fun _ h9 => h9) rfl dX10_count_64 ?_
    refine hc_ki (va_runS (As := [.long s_now_attacks]) (rest := []) ⟨hx, hb, hml, hown, hts⟩ (c_J13_bitCount_95d88 l G H.size s_now_attacks _ h) (va_cwS 1 hts gX10_count_J13_bitCount_95d88 rfl rfl rfl (by decide +kernel) ⟨Nat.le_of_ble_eq_true rfl, Nat.le_of_ble_eq_true rfl⟩) (hc_pS hK hP hD [] rfl rfl) rfl rfl hl.1 rfl (lv_room (Nat.le_of_ble_eq_true rfl)) dX10_count_67 ⟨Nat.le_refl _, Nat.le_refl _⟩) hP hD hS hA [] [0, 1, 2, 3, 4, 5] rfl rfl rfl (by decide) (fun r67 u H locs h hP hD hS => ?_)
    try dsimp only at h
    have hP : va_P G.1 vwCl [ceX10 h0 a_now a_kept a_reader a_numbers a_strife a_settled a_selection a_dispute a_trials a_refusals s_isKept, ceX3 a_now s_now_size s_now_heard s_now_mode s_now_cast s_now_figures s_now_voices s_now_attacks s_now_supports, ceX5 a_reader a_reader_letters a_reader_draft, ceX6 a_numbers a_numbers_numbers s_numbers_length, caI G a_refusals 7 g_refusals, ceX6 a_reader_letters a_reader_letters_numbers s_reader_letters_length] H := hP
    have hD : va_D A [ceX10 h0 a_now a_kept a_reader a_numbers a_strife a_settled a_selection a_dispute a_trials a_refusals s_isKept, ceX3 a_now s_now_size s_now_heard s_now_mode s_now_cast s_now_figures s_now_voices s_now_attacks s_now_supports, ceX5 a_reader a_reader_letters a_reader_draft, ceX6 a_numbers a_numbers_numbers s_numbers_length, caI G a_refusals 7 g_refusals, ceX6 a_reader_letters a_reader_letters_numbers s_reader_letters_length] := hD
    exact W.iret (v := r67) hx hb hr (fun t ht hW => ⟨⟨_, (), rfl, h, ⟨by rw [ht]; exact hP, hD⟩⟩, hS.F ht⟩) hS.2.2 dX10_count_70
  · refine lv_tableIn (tgt := 71) (off := 70) hx hb dX10_count_1 (by rw [c]; decide) (by rw [c]; decide) (by rw [c]; decide +kernel) (by decide) ?_
    replace h := h.2.2.2.2.1 c
    refine lv_aload_n hx hb dX10_count_71 rfl (lv_at hl 0 rfl) ?_
    refine va_get (D := G.1) (ci := 8) (v := .ref a_now) (C := RX10) (T := TX10) (N := 11) hx hb hts ki_X10 hown hK.1 hP 0 rfl rfl 0 (by decide) kf1 (fun _ h9 => h9) rfl dX10_count_72 ?_
    refine va_get (D := G.1) (ci := 2) (v := .long s_now_supports) (C := RX3) (T := TX3) (N := 8) hx hb hts ki_X3 hown hK.1 hP 1 rfl rfl 7 (by decide) kf5 (fun _ h9 => h9) rfl dX10_count_75 ?_
    refine hc_ki (va_runS (As := [.long s_now_supports]) (rest := []) ⟨hx, hb, hml, hown, hts⟩ (c_J13_bitCount_95d88 l G H.size s_now_supports _ h) (va_cwS 1 hts gX10_count_J13_bitCount_95d88 rfl rfl rfl (by decide +kernel) ⟨Nat.le_of_ble_eq_true rfl, Nat.le_of_ble_eq_true rfl⟩) (hc_pS hK hP hD [] rfl rfl) rfl rfl hl.1 rfl (lv_room (Nat.le_of_ble_eq_true rfl)) dX10_count_78 ⟨Nat.le_refl _, Nat.le_refl _⟩) hP hD hS hA [] [0, 1, 2, 3, 4, 5] rfl rfl rfl (by decide) (fun r78 u H locs h hP hD hS => ?_)
    try dsimp only at h
    have hP : va_P G.1 vwCl [ceX10 h0 a_now a_kept a_reader a_numbers a_strife a_settled a_selection a_dispute a_trials a_refusals s_isKept, ceX3 a_now s_now_size s_now_heard s_now_mode s_now_cast s_now_figures s_now_voices s_now_attacks s_now_supports, ceX5 a_reader a_reader_letters a_reader_draft, ceX6 a_numbers a_numbers_numbers s_numbers_length, caI G a_refusals 7 g_refusals, ceX6 a_reader_letters a_reader_letters_numbers s_reader_letters_length] H := hP
    have hD : va_D A [ceX10 h0 a_now a_kept a_reader a_numbers a_strife a_settled a_selection a_dispute a_trials a_refusals s_isKept, ceX3 a_now s_now_size s_now_heard s_now_mode s_now_cast s_now_figures s_now_voices s_now_attacks s_now_supports, ceX5 a_reader a_reader_letters a_reader_draft, ceX6 a_numbers a_numbers_numbers s_numbers_length, caI G a_refusals 7 g_refusals, ceX6 a_reader_letters a_reader_letters_numbers s_reader_letters_length] := hD
    exact W.iret (v := r78) hx hb hr (fun t ht hW => ⟨⟨_, (), rfl, h, ⟨by rw [ht]; exact hP, hD⟩⟩, hS.F ht⟩) hS.2.2 dX10_count_81
  · refine lv_tableIn (tgt := 82) (off := 81) hx hb dX10_count_1 (by rw [c]; decide) (by rw [c]; decide) (by rw [c]; decide +kernel) (by decide) ?_
    replace h := h.2.2.2.2.2.1 c
    refine lv_aload_n hx hb dX10_count_82 rfl (lv_at hl 0 rfl) ?_
    refine va_get (D := G.1) (ci := 8) (v := .ref a_now) (C := RX10) (T := TX10) (N := 11) hx hb hts ki_X10 hown hK.1 hP 0 rfl rfl 0 (by decide) kf1 (fun _ h9 => h9) rfl dX10_count_83 ?_
    refine va_get (D := G.1) (ci := 2) (v := .int s_now_mode) (C := RX3) (T := TX3) (N := 8) hx hb hts ki_X3 hown hK.1 hP 1 rfl rfl 2 (by decide) kf6 (fun _ h9 => h9) rfl dX10_count_86 ?_
    exact W.iret (v := s_now_mode) hx hb hr (fun t ht hW => ⟨⟨_, (), rfl, h, ⟨by rw [ht]; exact hP, hD⟩⟩, hS.F ht⟩) hS.2.2 dX10_count_89
  · refine lv_tableIn (tgt := 90) (off := 89) hx hb dX10_count_1 (by rw [c]; decide) (by rw [c]; decide) (by rw [c]; decide +kernel) (by decide) ?_
    replace h := h.2.2.2.2.2.2.1 c
    refine lv_aload_n hx hb dX10_count_90 rfl (lv_at hl 0 rfl) ?_
    refine va_get (D := G.1) (ci := 8) (v := .ref a_numbers) (C := RX10) (T := TX10) (N := 11) hx hb hts ki_X10 hown hK.1 hP 0 rfl rfl 3 (by decide) kf7 (fun _ h9 => h9) rfl dX10_count_91 ?_
    refine va_get (D := G.1) (ci := 4) (v := .int s_numbers_length) (C := RX6) (T := TX6) (N := 2) hx hb hts ki_X6 hown hK.1 hP 3 rfl rfl 1 (by decide) kf8 (fun _ h9 => h9) rfl dX10_count_94 ?_
    exact W.iret (v := s_numbers_length) hx hb hr (fun t ht hW => ⟨⟨_, (), rfl, h, ⟨by rw [ht]; exact hP, hD⟩⟩, hS.F ht⟩) hS.2.2 dX10_count_97
  · refine lv_tableIn (tgt := 98) (off := 97) hx hb dX10_count_1 (by rw [c]; decide) (by rw [c]; decide) (by rw [c]; decide +kernel) (by decide) ?_
    replace h := h.2.2.2.2.2.2.2 c
    refine lv_aload_n hx hb dX10_count_98 rfl (lv_at hl 0 rfl) ?_
    refine va_get (D := G.1) (ci := 8) (v := .ref a_reader) (C := RX10) (T := TX10) (N := 11) hx hb hts ki_X10 hown hK.1 hP 0 rfl rfl 2 (by decide) kf9 (fun _ h9 => h9) rfl dX10_count_99 ?_
    refine va_get (D := G.1) (ci := 3) (v := .ref a_reader_letters) (C := RX5) (T := TX5) (N := 2) hx hb hts ki_X5 hown hK.1 hP 2 rfl rfl 0 (by decide) kf10 (fun _ h9 => h9) rfl dX10_count_102 ?_
    refine va_get (D := G.1) (ci := 4) (v := .int s_reader_letters_length) (C := RX6) (T := TX6) (N := 2) hx hb hts ki_X6 hown hK.1 hP 5 rfl rfl 1 (by decide) kf8 (fun _ h9 => h9) rfl dX10_count_105 ?_
    exact W.iret (v := s_reader_letters_length) hx hb hr (fun t ht hW => ⟨⟨_, (), rfl, h, ⟨by rw [ht]; exact hP, hD⟩⟩, hS.F ht⟩) hS.2.2 dX10_count_108
set_option maxHeartbeats 4000000 in
set_option maxRecDepth 100000 in
theorem c_X11_in (l : Launch) (G : hcG) (sz : Nat) (x0 : Int64) (x1 : Int64) (x2 : Int64) (post : Int32 → Prop) (h : wp_X11_in post x0 x1 x2) : Met l yX11_in wsX11_in ({ frames := 0, cells := 0, slots := 0, locals := 0 }) (hcPc G [.long x0, .long x1, .long x2] [] sz) (va_Qi (fun (r : Int32) (u : Unit) => post r) (hcB G (va_A [] sz) (fun u : Unit => [])) (va_A [] sz)) 0 0 (va_A [] sz) := by
  refine Met.ofW (cc := cX11_in) (maxL := 6) (ret := (some .boolean)) (by decide) rfl ?_
  intro p e s m args below meth c s₁ B hml hv
  obtain ⟨rfl, hsz, hP, hK, hD0⟩ := hv
  have hx := B.exec
  have hb := B.bytes
  have hr := B.returns
  have hts := atoms_spec (ws := wsX11_in) B.pre
  have hown : s.vm.findClass RX11 = some m.cls := findClass_of_methodNamed B.named
  have hlocks := B.notSynchronized
  subst hsz
  have hD := hD0.self (sz := s.heap.size)
  generalize hAe : va_A [] s.heap.size = A at hD ⊢
  have hA : ∀ q : Nat, s.heap.size ≤ q → A q := fun q h => by rw [← hAe]; exact Or.inr h
  have hS : va_S A s.heap s.heap [] := va_S.rf
  have hP : va_P G.1 vwCl [] s.heap := hP
  have hl := lv_entry ([.long x0, .long x1, .long x2]) (n := 6) (Nat.le_of_ble_eq_true rfl)
  rw [lg_entry_eq]
  generalize (lg_sl ([.long x0, .long x1, .long x2]) ++ List.replicate (6 - (lg_sl ([.long x0, .long x1, .long x2])).length) Slot.unset).toArray = ls at hl ⊢
  have hl : lv_has ls 6 [(0, .long x0), (2, .long x1), (4, .long x2)] := hl
  unfold wp_X11_in at h
  refine lv_lload_n hx hb dX11_in_0 rfl (lv_at hl 0 rfl) ?_
  refine lv_lload_n hx hb dX11_in_1 rfl (lv_at hl 1 rfl) ?_
  refine W.lcmp hx hb dX11_in_2 ?_
  refine lv_if_lt (tgt := 17) hx hb dX11_in_3 (by decide) (fun c => ?_) (fun c => ?_)
  · replace h := h.1 c
    refine lv_iconst (v := nI 0) hx hb dX11_in_17 kc_0 ?_
    exact W.zret (v := nI 0) hx hb hr rfl (fun t ht hW => ⟨⟨_, (), rfl, h, ⟨by rw [ht]; exact hP, hD⟩⟩, hS.F ht⟩) hS.2.2 dX11_in_18
  · replace h := h.2 c
    refine lv_lload_n hx hb dX11_in_6 rfl (lv_at hl 0 rfl) ?_
    refine lv_lload hx hb dX11_in_7 (lv_at hl 2 rfl) ?_
    refine W.lcmp hx hb dX11_in_9 ?_
    refine lv_if_gt (tgt := 17) hx hb dX11_in_10 (by decide) (fun c => ?_) (fun c => ?_)
    · replace h := h.1 c
      refine lv_iconst (v := nI 0) hx hb dX11_in_17 kc_0 ?_
      exact W.zret (v := nI 0) hx hb hr rfl (fun t ht hW => ⟨⟨_, (), rfl, h, ⟨by rw [ht]; exact hP, hD⟩⟩, hS.F ht⟩) hS.2.2 dX11_in_18
    · replace h := h.2 c
      refine lv_iconst (v := nI 1) hx hb dX11_in_13 kc_1 ?_
      refine lv_goto (tgt := 18) hx hb dX11_in_14 (by decide) ?_
      exact W.zret (v := nI 1) hx hb hr rfl (fun t ht hW => ⟨⟨_, (), rfl, h, ⟨by rw [ht]; exact hP, hD⟩⟩, hS.F ht⟩) hS.2.2 dX11_in_18
set_option maxHeartbeats 4000000 in
set_option maxRecDepth 100000 in
theorem c_X11_refused (l : Launch) (G : hcG) (h0 : Nat) (a_w : Nat) (a_kept : Nat) (a_laid : Nat) (a_refusals : Nat) (a_row : Nat) (a_letters : Nat) (a_hit : Nat) (a_lead : Nat) (a_defeat : Nat) (a_defeater : Nat) (a_order : Nat) (a_is : Nat) (a_was : Nat) (a_depths : Nat) (a_ways : Nat) (sz : Nat) (s_hasImage : Int32) (s_rows : Int32) (s_lettered : Int32) (s_ins : Int32) (s_outs : Int32) (s_ordered : Int32) (s_reading : Int32) (s_isWell : Int32) (s_z : Int32) (g_refusals : Nat → Int32) (x1 : Int32) (post : Int32 → (Nat → Int32) → Prop) (h : wp_X11_refused post g_refusals x1) : Met l yX11_refused wsX11_refused ({ frames := 0, cells := 0, slots := 0, locals := 0 }) (hcPc G [.ref h0, .int x1] [ceX11 h0 a_w a_kept a_laid s_hasImage a_refusals a_row s_rows a_letters s_lettered a_hit a_lead a_defeat a_defeater s_ins s_outs a_order s_ordered a_is a_was s_reading s_isWell a_depths a_ways s_z, caI G a_refusals 7 g_refusals] sz) (va_Qi (fun (r : Int32) (u : (Nat → Int32)) => post r u) (hcB G (va_A [ceX11 h0 a_w a_kept a_laid s_hasImage a_refusals a_row s_rows a_letters s_lettered a_hit a_lead a_defeat a_defeater s_ins s_outs a_order s_ordered a_is a_was s_reading s_isWell a_depths a_ways s_z, caI G a_refusals 7 g_refusals] sz) (fun u : (Nat → Int32) => [ceX11 h0 a_w a_kept a_laid s_hasImage a_refusals a_row s_rows a_letters s_lettered a_hit a_lead a_defeat a_defeater s_ins s_outs a_order s_ordered a_is a_was s_reading s_isWell a_depths a_ways s_z, caI G a_refusals 7 u])) (va_A [ceX11 h0 a_w a_kept a_laid s_hasImage a_refusals a_row s_rows a_letters s_lettered a_hit a_lead a_defeat a_defeater s_ins s_outs a_order s_ordered a_is a_was s_reading s_isWell a_depths a_ways s_z, caI G a_refusals 7 g_refusals] sz)) 0 0 (va_A [ceX11 h0 a_w a_kept a_laid s_hasImage a_refusals a_row s_rows a_letters s_lettered a_hit a_lead a_defeat a_defeater s_ins s_outs a_order s_ordered a_is a_was s_reading s_isWell a_depths a_ways s_z, caI G a_refusals 7 g_refusals] sz) := by
  refine Met.ofW (cc := cX11_refused) (maxL := 2) (ret := (some .int)) (by decide) rfl ?_
  intro p e s m args below meth c s₁ B hml hv
  obtain ⟨rfl, hsz, hP, hK, hD0⟩ := hv
  have hx := B.exec
  have hb := B.bytes
  have hr := B.returns
  have hts := atoms_spec (ws := wsX11_refused) B.pre
  have hown : s.vm.findClass RX11 = some m.cls := findClass_of_methodNamed B.named
  have hlocks := B.notSynchronized
  subst hsz
  have hD := hD0.self (sz := s.heap.size)
  generalize hAe : va_A [ceX11 h0 a_w a_kept a_laid s_hasImage a_refusals a_row s_rows a_letters s_lettered a_hit a_lead a_defeat a_defeater s_ins s_outs a_order s_ordered a_is a_was s_reading s_isWell a_depths a_ways s_z, caI G a_refusals 7 g_refusals] s.heap.size = A at hD ⊢
  have hA : ∀ q : Nat, s.heap.size ≤ q → A q := fun q h => by rw [← hAe]; exact Or.inr h
  have hS : va_S A s.heap s.heap [] := va_S.rf
  have hP : va_P G.1 vwCl [ceX11 h0 a_w a_kept a_laid s_hasImage a_refusals a_row s_rows a_letters s_lettered a_hit a_lead a_defeat a_defeater s_ins s_outs a_order s_ordered a_is a_was s_reading s_isWell a_depths a_ways s_z, caI G a_refusals 7 g_refusals] s.heap := hP
  have hl := lv_entry ([.ref h0, .int x1]) (n := 2) (Nat.le_of_ble_eq_true rfl)
  rw [lg_entry_eq]
  generalize (lg_sl ([.ref h0, .int x1]) ++ List.replicate (2 - (lg_sl ([.ref h0, .int x1])).length) Slot.unset).toArray = ls at hl ⊢
  have hl : lv_has ls 2 [(0, .ref h0), (1, .int x1)] := hl
  have kf0 := hts (.fieldLink RX11 19 "HallOfClaimsModel" "refusals" "[I") (List.mem_of_getElem? (i := 1) (by decide +kernel))
  have ki_X11 : ∀ w ∈ u_ws RX11 TX11 24, w ∈ wsX11_refused := by decide +kernel
  unfold wp_X11_refused at h
  refine lv_aload_n hx hb dX11_refused_0 rfl (lv_at hl 0 rfl) ?_
  refine va_get (D := G.1) (ci := 9) (v := .ref a_refusals) (C := RX11) (T := TX11) (N := 24) hx hb hts ki_X11 hown hK.1 hP 0 rfl rfl 4 (by decide) kf0 (fun _ h9 => h9) rfl dX11_refused_1 ?_
  refine lv_iload_n hx hb dX11_refused_4 rfl (lv_at hl 1 rfl) ?_
  refine lv_ineg hx hb dX11_refused_5 ?_
  refine lv_dup2_11 hx hb dX11_refused_6 rfl rfl ?_
  have hin := h.1
  replace h := h.2
  refine va_iald hx hb hK.1 hP 1 0 rfl rfl hin dX11_refused_7 ?_
  refine lv_iconst (v := nI 1) hx hb dX11_refused_8 kc_1 ?_
  refine lv_iadd hx hb dX11_refused_9 ?_
  have hin := h.1
  replace h := h.2
  refine va_iast hx hb hK.1 hP hD hS 1 0 rfl rfl hin dX11_refused_10 (fun H locs hP hD hS => ?_)
  have hP : va_P G.1 vwCl [ceX11 h0 a_w a_kept a_laid s_hasImage a_refusals a_row s_rows a_letters s_lettered a_hit a_lead a_defeat a_defeater s_ins s_outs a_order s_ordered a_is a_was s_reading s_isWell a_depths a_ways s_z, caI G a_refusals 7 (upd g_refusals (-x1).toNatClampNeg ((g_refusals (-x1).toNatClampNeg) + (nI 1)))] H := hP
  have hD : va_D A [ceX11 h0 a_w a_kept a_laid s_hasImage a_refusals a_row s_rows a_letters s_lettered a_hit a_lead a_defeat a_defeater s_ins s_outs a_order s_ordered a_is a_was s_reading s_isWell a_depths a_ways s_z, caI G a_refusals 7 (upd g_refusals (-x1).toNatClampNeg ((g_refusals (-x1).toNatClampNeg) + (nI 1)))] := hD
  refine lv_iload_n hx hb dX11_refused_11 rfl (lv_at hl 1 rfl) ?_
  exact W.iret (v := x1) hx hb hr (fun t ht hW => ⟨⟨_, (upd g_refusals (-x1).toNatClampNeg ((g_refusals (-x1).toNatClampNeg) + (nI 1))), rfl, h, ⟨by rw [ht]; exact hP, hD⟩⟩, hS.F ht⟩) hS.2.2 dX11_refused_12
set_option maxHeartbeats 4000000 in
set_option maxRecDepth 100000 in
theorem c_X11_copies (l : Launch) (G : hcG) (hp0 : Nat) (hp1 : Nat) (sz : Nat) (g_p0 : Nat → Int32) (g_p1 : Nat → Int32) (post : (Nat → Int32) → Prop) (h : wp_X11_copies post g_p0 g_p1) : Met l yX11_copies wsX11_copies ({ frames := 0, cells := 0, slots := 0, locals := 0 }) (hcPc G [.ref hp0, .ref hp1] [caI G hp0 43 g_p0, caI G hp1 43 g_p1] sz) (va_Qv (fun u : (Nat → Int32) => post u) (hcB G (va_A [caI G hp0 43 g_p0, caI G hp1 43 g_p1] sz) (fun u : (Nat → Int32) => [caI G hp0 43 g_p0, caI G hp1 43 u])) (va_A [caI G hp0 43 g_p0, caI G hp1 43 g_p1] sz)) 0 0 (va_A [caI G hp0 43 g_p0, caI G hp1 43 g_p1] sz) := by
  refine Met.ofW (cc := cX11_copies) (maxL := 3) (ret := none) (by decide) rfl ?_
  intro p e s m args below meth c s₁ B hml hv
  obtain ⟨rfl, hsz, hP, hK, hD0⟩ := hv
  have hx := B.exec
  have hb := B.bytes
  have hr := B.returns
  have hts := atoms_spec (ws := wsX11_copies) B.pre
  have hown : s.vm.findClass RX11 = some m.cls := findClass_of_methodNamed B.named
  have hlocks := B.notSynchronized
  subst hsz
  have hD := hD0.self (sz := s.heap.size)
  generalize hAe : va_A [caI G hp0 43 g_p0, caI G hp1 43 g_p1] s.heap.size = A at hD ⊢
  have hA : ∀ q : Nat, s.heap.size ≤ q → A q := fun q h => by rw [← hAe]; exact Or.inr h
  have hS : va_S A s.heap s.heap [] := va_S.rf
  have hP : va_P G.1 vwCl [caI G hp0 43 g_p0, caI G hp1 43 g_p1] s.heap := hP
  have hl := lv_entry ([.ref hp0, .ref hp1]) (n := 3) (Nat.le_of_ble_eq_true rfl)
  rw [lg_entry_eq]
  generalize (lg_sl ([.ref hp0, .ref hp1]) ++ List.replicate (3 - (lg_sl ([.ref hp0, .ref hp1])).length) Slot.unset).toArray = ls at hl ⊢
  have hl : lv_has ls 3 [(0, .ref hp0), (1, .ref hp1)] := hl
  have w2 : ∀ (n : Nat) (v2 : Int32) (g_p1 : Nat → Int32) , wp_X11_copies_2 post g_p0 n v2 g_p1 → ∀ (H : Heap) (locs : List Loc) (ls : Array Slot), va_P G.1 vwCl [caI G hp0 43 g_p0, caI G hp1 43 g_p1] H → va_D A [caI G hp0 43 g_p0, caI G hp1 43 g_p1] → va_S A s.heap H locs → lv_has ls 3 [(0, .ref hp0), (1, .ref hp1), (2, .int v2)] → W p l e (headSpec wsX11_copies ({ frames := 0, cells := 0, slots := 0, locals := 0 })).room s m args below meth c H locs 0 0 (MQ below (va_Qv (fun u : (Nat → Int32) => post u) (hcB G A (fun u : (Nat → Int32) => [caI G hp0 43 g_p0, caI G hp1 43 u])) A) args s 0 0 A) (F0 m 2 ls []) := by
    intro n
    induction n with
    | zero => intro v2 g_p1 h; exact h.elim
    | succ n ih =>
      intro v2 g_p1 h H locs ls hP hD hS hl
      unfold wp_X11_copies_2 at h
      refine lv_iload_n hx hb dX11_copies_2 rfl (lv_at hl 2 rfl) ?_
      refine lv_bipush (v := nI 43) hx hb dX11_copies_3 kb_43 ?_
      refine lv_icmp_ge (tgt := 20) hx hb dX11_copies_5 (by decide) (fun c => ?_) (fun c => ?_)
      · replace h := h.1 c
        exact W.vret hx hb hr (fun t ht hW => ⟨⟨g_p1, rfl, h, ⟨by rw [ht]; exact hP, hD⟩⟩, hS.F ht⟩) hS.2.2 dX11_copies_20
      · replace h := h.2 c
        refine lv_aload_n hx hb dX11_copies_8 rfl (lv_at hl 1 rfl) ?_
        refine lv_iload_n hx hb dX11_copies_9 rfl (lv_at hl 2 rfl) ?_
        refine lv_aload_n hx hb dX11_copies_10 rfl (lv_at hl 0 rfl) ?_
        refine lv_iload_n hx hb dX11_copies_11 rfl (lv_at hl 2 rfl) ?_
        have hin := h.1
        replace h := h.2
        refine va_iald hx hb hK.1 hP 0 0 rfl rfl hin dX11_copies_12 ?_
        have hin := h.1
        replace h := h.2
        refine va_iast hx hb hK.1 hP hD hS 1 0 rfl rfl hin dX11_copies_13 (fun H locs hP hD hS => ?_)
        have hP : va_P G.1 vwCl [caI G hp0 43 g_p0, caI G hp1 43 (upd g_p1 v2.toNatClampNeg (g_p0 v2.toNatClampNeg))] H := hP
        have hD : va_D A [caI G hp0 43 g_p0, caI G hp1 43 (upd g_p1 v2.toNatClampNeg (g_p0 v2.toNatClampNeg))] := hD
        refine lv_iinc (v := v2 + nI 1) (lv' := [(2, .int (v2 + nI 1)), (0, .ref hp0), (1, .ref hp1)]) hx hb dX11_copies_14 hl (k := 2) rfl (congrArg (fun q => v2 + q) kc_1) (by decide) rfl (fun ls hl => ?_)
        refine lv_goto (tgt := 2) hx hb dX11_copies_17 (by decide) ?_
        exact ih (v2 + nI 1) (upd g_p1 v2.toNatClampNeg (g_p0 v2.toNatClampNeg)) h _ _ _ hP hD hS (lv_sub hl [1, 2, 0] rfl)
  unfold wp_X11_copies at h
  refine lv_iconst (v := nI 0) hx hb dX11_copies_0 kc_0 ?_
  refine lv_istore_n (lv' := [(2, .int (nI 0)), (0, .ref hp0), (1, .ref hp1)]) hx hb dX11_copies_1 rfl hl (by decide) rfl (fun ls hl => ?_)
  obtain ⟨n, h⟩ := h
  exact w2  n (nI 0) g_p1 h _ _ _ hP hD hS (lv_sub hl [1, 2, 0] rfl)
set_option maxHeartbeats 4000000 in
set_option maxRecDepth 100000 in
theorem c_X11_has (l : Launch) (G : hcG) (sz : Nat) (x0 : Int32) (x1 : Int32) (post : Int32 → Prop) (h : wp_X11_has post x0 x1) : Met l yX11_has wsX11_has ({ frames := 0, cells := 0, slots := 0, locals := 0 }) (hcPc G [.int x0, .int x1] [] sz) (va_Qi (fun (r : Int32) (u : Unit) => post r) (hcB G (va_A [] sz) (fun u : Unit => [])) (va_A [] sz)) 0 0 (va_A [] sz) := by
  refine Met.ofW (cc := cX11_has) (maxL := 2) (ret := (some .boolean)) (by decide) rfl ?_
  intro p e s m args below meth c s₁ B hml hv
  obtain ⟨rfl, hsz, hP, hK, hD0⟩ := hv
  have hx := B.exec
  have hb := B.bytes
  have hr := B.returns
  have hts := atoms_spec (ws := wsX11_has) B.pre
  have hown : s.vm.findClass RX11 = some m.cls := findClass_of_methodNamed B.named
  have hlocks := B.notSynchronized
  subst hsz
  have hD := hD0.self (sz := s.heap.size)
  generalize hAe : va_A [] s.heap.size = A at hD ⊢
  have hA : ∀ q : Nat, s.heap.size ≤ q → A q := fun q h => by rw [← hAe]; exact Or.inr h
  have hS : va_S A s.heap s.heap [] := va_S.rf
  have hP : va_P G.1 vwCl [] s.heap := hP
  have hl := lv_entry ([.int x0, .int x1]) (n := 2) (Nat.le_of_ble_eq_true rfl)
  rw [lg_entry_eq]
  generalize (lg_sl ([.int x0, .int x1]) ++ List.replicate (2 - (lg_sl ([.int x0, .int x1])).length) Slot.unset).toArray = ls at hl ⊢
  have hl : lv_has ls 2 [(0, .int x0), (1, .int x1)] := hl
  unfold wp_X11_has at h
  refine lv_iload_n hx hb dX11_has_0 rfl (lv_at hl 0 rfl) ?_
  refine lv_iload_n hx hb dX11_has_1 rfl (lv_at hl 1 rfl) ?_
  refine lv_ishr hx hb dX11_has_2 ?_
  refine lv_iconst (v := nI 1) hx hb dX11_has_3 kc_1 ?_
  refine lv_iand hx hb dX11_has_4 ?_
  refine lv_iconst (v := nI 1) hx hb dX11_has_5 kc_1 ?_
  refine lv_icmp_ne (tgt := 13) hx hb dX11_has_6 (by decide) (fun c => ?_) (fun c => ?_)
  · replace h := h.1 c
    refine lv_iconst (v := nI 0) hx hb dX11_has_13 kc_0 ?_
    exact W.zret (v := nI 0) hx hb hr rfl (fun t ht hW => ⟨⟨_, (), rfl, h, ⟨by rw [ht]; exact hP, hD⟩⟩, hS.F ht⟩) hS.2.2 dX11_has_14
  · replace h := h.2 c
    refine lv_iconst (v := nI 1) hx hb dX11_has_9 kc_1 ?_
    refine lv_goto (tgt := 14) hx hb dX11_has_10 (by decide) ?_
    exact W.zret (v := nI 1) hx hb hr rfl (fun t ht hW => ⟨⟨_, (), rfl, h, ⟨by rw [ht]; exact hP, hD⟩⟩, hS.F ht⟩) hS.2.2 dX11_has_14
set_option maxHeartbeats 4000000 in
set_option maxRecDepth 100000 in
theorem c_X11_ones (l : Launch) (G : hcG) (sz : Nat) (x0 : Int32) (post : Int32 → Prop) (h : wp_X11_ones post x0) : Met l yX11_ones wsX11_ones ({ frames := 0, cells := 0, slots := 0, locals := 0 }) (hcPc G [.int x0] [] sz) (va_Qi (fun (r : Int32) (u : Unit) => post r) (hcB G (va_A [] sz) (fun u : Unit => [])) (va_A [] sz)) 0 0 (va_A [] sz) := by
  refine Met.ofW (cc := cX11_ones) (maxL := 3) (ret := (some .int)) (by decide) rfl ?_
  intro p e s m args below meth c s₁ B hml hv
  obtain ⟨rfl, hsz, hP, hK, hD0⟩ := hv
  have hx := B.exec
  have hb := B.bytes
  have hr := B.returns
  have hts := atoms_spec (ws := wsX11_ones) B.pre
  have hown : s.vm.findClass RX11 = some m.cls := findClass_of_methodNamed B.named
  have hlocks := B.notSynchronized
  subst hsz
  have hD := hD0.self (sz := s.heap.size)
  generalize hAe : va_A [] s.heap.size = A at hD ⊢
  have hA : ∀ q : Nat, s.heap.size ≤ q → A q := fun q h => by rw [← hAe]; exact Or.inr h
  have hS : va_S A s.heap s.heap [] := va_S.rf
  have hP : va_P G.1 vwCl [] s.heap := hP
  have hl := lv_entry ([.int x0]) (n := 3) (Nat.le_of_ble_eq_true rfl)
  rw [lg_entry_eq]
  generalize (lg_sl ([.int x0]) ++ List.replicate (3 - (lg_sl ([.int x0])).length) Slot.unset).toArray = ls at hl ⊢
  have hl : lv_has ls 3 [(0, .int x0)] := hl
  have w4 : ∀ (n : Nat) (v1 : Int32) (v2 : Int32) , wp_X11_ones_4 post x0 n v1 v2 → ∀ (H : Heap) (locs : List Loc) (ls : Array Slot), va_P G.1 vwCl [] H → va_D A [] → va_S A s.heap H locs → lv_has ls 3 [(0, .int x0), (1, .int v1), (2, .int v2)] → W p l e (headSpec wsX11_ones ({ frames := 0, cells := 0, slots := 0, locals := 0 })).room s m args below meth c H locs 0 0 (MQ below (va_Qi (fun (r : Int32) (u : Unit) => post r) (hcB G A (fun u : Unit => [])) A) args s 0 0 A) (F0 m 4 ls []) := by
    intro n
    induction n with
    | zero => intro v1 v2 h; exact h.elim
    | succ n ih =>
      intro v1 v2 h H locs ls hP hD hS hl
      unfold wp_X11_ones_4 at h
      refine lv_iload_n hx hb dX11_ones_4 rfl (lv_at hl 2 rfl) ?_
      refine lv_bipush (v := nI 8) hx hb dX11_ones_5 kb_8 ?_
      refine lv_icmp_ge (tgt := 24) hx hb dX11_ones_7 (by decide) (fun c => ?_) (fun c => ?_)
      · replace h := h.1 c
        refine lv_iload_n hx hb dX11_ones_24 rfl (lv_at hl 1 rfl) ?_
        exact W.iret (v := v1) hx hb hr (fun t ht hW => ⟨⟨_, (), rfl, h, ⟨by rw [ht]; exact hP, hD⟩⟩, hS.F ht⟩) hS.2.2 dX11_ones_25
      · replace h := h.2 c
        refine lv_iload_n hx hb dX11_ones_10 rfl (lv_at hl 1 rfl) ?_
        refine lv_iload_n hx hb dX11_ones_11 rfl (lv_at hl 0 rfl) ?_
        refine lv_iload_n hx hb dX11_ones_12 rfl (lv_at hl 2 rfl) ?_
        refine lv_ishr hx hb dX11_ones_13 ?_
        refine lv_iconst (v := nI 1) hx hb dX11_ones_14 kc_1 ?_
        refine lv_iand hx hb dX11_ones_15 ?_
        refine lv_iadd hx hb dX11_ones_16 ?_
        refine lv_istore_n (lv' := [(1, .int (v1 + ((x0 >>> (v2 &&& 31)) &&& (nI 1)))), (0, .int x0), (2, .int v2)]) hx hb dX11_ones_17 rfl hl (by decide) rfl (fun ls hl => ?_)
        refine lv_iinc (v := v2 + nI 1) (lv' := [(2, .int (v2 + nI 1)), (1, .int (v1 + ((x0 >>> (v2 &&& 31)) &&& (nI 1)))), (0, .int x0)]) hx hb dX11_ones_18 hl (k := 2) rfl (congrArg (fun q => v2 + q) kc_1) (by decide) rfl (fun ls hl => ?_)
        refine lv_goto (tgt := 4) hx hb dX11_ones_21 (by decide) ?_
        exact ih (v1 + ((x0 >>> (v2 &&& 31)) &&& (nI 1))) (v2 + nI 1) h _ _ _ hP hD hS (lv_sub hl [2, 1, 0] rfl)
  unfold wp_X11_ones at h
  refine lv_iconst (v := nI 0) hx hb dX11_ones_0 kc_0 ?_
  refine lv_istore_n (lv' := [(1, .int (nI 0)), (0, .int x0)]) hx hb dX11_ones_1 rfl hl (by decide) rfl (fun ls hl => ?_)
  refine lv_iconst (v := nI 0) hx hb dX11_ones_2 kc_0 ?_
  refine lv_istore_n (lv' := [(2, .int (nI 0)), (1, .int (nI 0)), (0, .int x0)]) hx hb dX11_ones_3 rfl hl (by decide) rfl (fun ls hl => ?_)
  obtain ⟨n, h⟩ := h
  exact w4  n (nI 0) (nI 0) h _ _ _ hP hD hS (lv_sub hl [2, 1, 0] rfl)
set_option maxHeartbeats 4000000 in
set_option maxRecDepth 100000 in
theorem c_X11_isClaim (l : Launch) (G : hcG) (h0 : Nat) (a_w : Nat) (a_kept : Nat) (a_laid : Nat) (a_refusals : Nat) (a_row : Nat) (a_letters : Nat) (a_hit : Nat) (a_lead : Nat) (a_defeat : Nat) (a_defeater : Nat) (a_order : Nat) (a_is : Nat) (a_was : Nat) (a_depths : Nat) (a_ways : Nat) (sz : Nat) (s_hasImage : Int32) (s_rows : Int32) (s_lettered : Int32) (s_ins : Int32) (s_outs : Int32) (s_ordered : Int32) (s_reading : Int32) (s_isWell : Int32) (s_z : Int32) (g_w : Nat → Int32) (x1 : Int32) (post : Int32 → Prop) (h : wp_X11_isClaim post g_w x1) : Met l yX11_isClaim wsX11_isClaim ({ frames := 1, cells := 0, slots := 0, locals := 25 }) (hcPc G [.ref h0, .int x1] [ceX11 h0 a_w a_kept a_laid s_hasImage a_refusals a_row s_rows a_letters s_lettered a_hit a_lead a_defeat a_defeater s_ins s_outs a_order s_ordered a_is a_was s_reading s_isWell a_depths a_ways s_z, caI G a_w 43 g_w] sz) (va_Qi (fun (r : Int32) (u : Unit) => post r) (hcB G (va_A [ceX11 h0 a_w a_kept a_laid s_hasImage a_refusals a_row s_rows a_letters s_lettered a_hit a_lead a_defeat a_defeater s_ins s_outs a_order s_ordered a_is a_was s_reading s_isWell a_depths a_ways s_z, caI G a_w 43 g_w] sz) (fun u : Unit => [ceX11 h0 a_w a_kept a_laid s_hasImage a_refusals a_row s_rows a_letters s_lettered a_hit a_lead a_defeat a_defeater s_ins s_outs a_order s_ordered a_is a_was s_reading s_isWell a_depths a_ways s_z, caI G a_w 43 g_w])) (va_A [ceX11 h0 a_w a_kept a_laid s_hasImage a_refusals a_row s_rows a_letters s_lettered a_hit a_lead a_defeat a_defeater s_ins s_outs a_order s_ordered a_is a_was s_reading s_isWell a_depths a_ways s_z, caI G a_w 43 g_w] sz)) 0 0 (va_A [ceX11 h0 a_w a_kept a_laid s_hasImage a_refusals a_row s_rows a_letters s_lettered a_hit a_lead a_defeat a_defeater s_ins s_outs a_order s_ordered a_is a_was s_reading s_isWell a_depths a_ways s_z, caI G a_w 43 g_w] sz) := by
  refine Met.ofW (cc := cX11_isClaim) (maxL := 2) (ret := (some .boolean)) (by decide) rfl ?_
  intro p e s m args below meth c s₁ B hml hv
  obtain ⟨rfl, hsz, hP, hK, hD0⟩ := hv
  have hx := B.exec
  have hb := B.bytes
  have hr := B.returns
  have hts := atoms_spec (ws := wsX11_isClaim) B.pre
  have hown : s.vm.findClass RX11 = some m.cls := findClass_of_methodNamed B.named
  have hlocks := B.notSynchronized
  subst hsz
  have hD := hD0.self (sz := s.heap.size)
  generalize hAe : va_A [ceX11 h0 a_w a_kept a_laid s_hasImage a_refusals a_row s_rows a_letters s_lettered a_hit a_lead a_defeat a_defeater s_ins s_outs a_order s_ordered a_is a_was s_reading s_isWell a_depths a_ways s_z, caI G a_w 43 g_w] s.heap.size = A at hD ⊢
  have hA : ∀ q : Nat, s.heap.size ≤ q → A q := fun q h => by rw [← hAe]; exact Or.inr h
  have hS : va_S A s.heap s.heap [] := va_S.rf
  have hP : va_P G.1 vwCl [ceX11 h0 a_w a_kept a_laid s_hasImage a_refusals a_row s_rows a_letters s_lettered a_hit a_lead a_defeat a_defeater s_ins s_outs a_order s_ordered a_is a_was s_reading s_isWell a_depths a_ways s_z, caI G a_w 43 g_w] s.heap := hP
  have hl := lv_entry ([.ref h0, .int x1]) (n := 2) (Nat.le_of_ble_eq_true rfl)
  rw [lg_entry_eq]
  generalize (lg_sl ([.ref h0, .int x1]) ++ List.replicate (2 - (lg_sl ([.ref h0, .int x1])).length) Slot.unset).toArray = ls at hl ⊢
  have hl : lv_has ls 2 [(0, .ref h0), (1, .int x1)] := hl
  have kf0 := hts (.fieldLink RX11 9 "HallOfClaimsModel" "w" "[I") (List.mem_of_getElem? (i := 1) (by decide +kernel))
  have ki_X11 : ∀ w ∈ u_ws RX11 TX11 24, w ∈ wsX11_isClaim := by decide +kernel
  unfold wp_X11_isClaim at h
  refine lv_iload_n hx hb dX11_isClaim_0 rfl (lv_at hl 1 rfl) ?_
  refine lv_i2l (v := x1.toInt64) hx hb dX11_isClaim_1 rfl ?_
  refine lv_lconst (v := lN 0) hx hb dX11_isClaim_2 kl_0 ?_
  refine lv_aload_n hx hb dX11_isClaim_3 rfl (lv_at hl 0 rfl) ?_
  refine va_get (D := G.1) (ci := 9) (v := .ref a_w) (C := RX11) (T := TX11) (N := 24) hx hb hts ki_X11 hown hK.1 hP 0 rfl rfl 0 (by decide) kf0 (fun _ h9 => h9) rfl dX11_isClaim_4 ?_
  refine lv_bipush (v := nI 42) hx hb dX11_isClaim_7 kb_42 ?_
  have hin := h.1
  replace h := h.2
  refine va_iald hx hb hK.1 hP 1 0 rfl rfl hin dX11_isClaim_9 ?_
  refine lv_iconst (v := nI 1) hx hb dX11_isClaim_10 kc_1 ?_
  refine lv_isub hx hb dX11_isClaim_11 ?_
  refine lv_i2l (v := ((g_w (nI 42).toNatClampNeg) - (nI 1)).toInt64) hx hb dX11_isClaim_12 rfl ?_
  refine hc_ki (va_runS (As := [.long x1.toInt64, .long (lN 0), .long (((g_w (nI 42).toNatClampNeg) - (nI 1)).toInt64)]) (rest := []) ⟨hx, hb, hml, hown, hts⟩ (c_X11_in l G H.size x1.toInt64 (lN 0) (((g_w (nI 42).toNatClampNeg) - (nI 1)).toInt64) _ h) (va_cwS 3 hts gX11_isClaim_X11_in rfl rfl rfl (by decide +kernel) ⟨Nat.le_of_ble_eq_true rfl, Nat.le_of_ble_eq_true rfl⟩) (hc_pS hK hP hD [] rfl rfl) rfl rfl hl.1 rfl (lv_room (Nat.le_of_ble_eq_true rfl)) dX11_isClaim_13 ⟨Nat.le_refl _, Nat.le_refl _⟩) hP hD hS hA [] [0, 1] rfl rfl rfl (by decide) (fun r13 u H locs h hP hD hS => ?_)
  try dsimp only at h
  have hP : va_P G.1 vwCl [ceX11 h0 a_w a_kept a_laid s_hasImage a_refusals a_row s_rows a_letters s_lettered a_hit a_lead a_defeat a_defeater s_ins s_outs a_order s_ordered a_is a_was s_reading s_isWell a_depths a_ways s_z, caI G a_w 43 g_w] H := hP
  have hD : va_D A [ceX11 h0 a_w a_kept a_laid s_hasImage a_refusals a_row s_rows a_letters s_lettered a_hit a_lead a_defeat a_defeater s_ins s_outs a_order s_ordered a_is a_was s_reading s_isWell a_depths a_ways s_z, caI G a_w 43 g_w] := hD
  have hz := h.1
  replace h := h.2
  exact W.zret (v := r13) hx hb hr hz (fun t ht hW => ⟨⟨_, (), rfl, h, ⟨by rw [ht]; exact hP, hD⟩⟩, hS.F ht⟩) hS.2.2 dX11_isClaim_16
set_option maxHeartbeats 4000000 in
set_option maxRecDepth 100000 in
theorem c_X11_isHeard (l : Launch) (G : hcG) (h0 : Nat) (a_w : Nat) (a_kept : Nat) (a_laid : Nat) (a_refusals : Nat) (a_row : Nat) (a_letters : Nat) (a_hit : Nat) (a_lead : Nat) (a_defeat : Nat) (a_defeater : Nat) (a_order : Nat) (a_is : Nat) (a_was : Nat) (a_depths : Nat) (a_ways : Nat) (sz : Nat) (s_hasImage : Int32) (s_rows : Int32) (s_lettered : Int32) (s_ins : Int32) (s_outs : Int32) (s_ordered : Int32) (s_reading : Int32) (s_isWell : Int32) (s_z : Int32) (g_w : Nat → Int32) (x1 : Int32) (post : Int32 → Prop) (h : wp_X11_isHeard post g_w x1) : Met l yX11_isHeard wsX11_isHeard ({ frames := 1, cells := 0, slots := 0, locals := 21 }) (hcPc G [.ref h0, .int x1] [ceX11 h0 a_w a_kept a_laid s_hasImage a_refusals a_row s_rows a_letters s_lettered a_hit a_lead a_defeat a_defeater s_ins s_outs a_order s_ordered a_is a_was s_reading s_isWell a_depths a_ways s_z, caI G a_w 43 g_w] sz) (va_Qi (fun (r : Int32) (u : Unit) => post r) (hcB G (va_A [ceX11 h0 a_w a_kept a_laid s_hasImage a_refusals a_row s_rows a_letters s_lettered a_hit a_lead a_defeat a_defeater s_ins s_outs a_order s_ordered a_is a_was s_reading s_isWell a_depths a_ways s_z, caI G a_w 43 g_w] sz) (fun u : Unit => [ceX11 h0 a_w a_kept a_laid s_hasImage a_refusals a_row s_rows a_letters s_lettered a_hit a_lead a_defeat a_defeater s_ins s_outs a_order s_ordered a_is a_was s_reading s_isWell a_depths a_ways s_z, caI G a_w 43 g_w])) (va_A [ceX11 h0 a_w a_kept a_laid s_hasImage a_refusals a_row s_rows a_letters s_lettered a_hit a_lead a_defeat a_defeater s_ins s_outs a_order s_ordered a_is a_was s_reading s_isWell a_depths a_ways s_z, caI G a_w 43 g_w] sz)) 0 0 (va_A [ceX11 h0 a_w a_kept a_laid s_hasImage a_refusals a_row s_rows a_letters s_lettered a_hit a_lead a_defeat a_defeater s_ins s_outs a_order s_ordered a_is a_was s_reading s_isWell a_depths a_ways s_z, caI G a_w 43 g_w] sz) := by
  refine Met.ofW (cc := cX11_isHeard) (maxL := 2) (ret := (some .boolean)) (by decide) rfl ?_
  intro p e s m args below meth c s₁ B hml hv
  obtain ⟨rfl, hsz, hP, hK, hD0⟩ := hv
  have hx := B.exec
  have hb := B.bytes
  have hr := B.returns
  have hts := atoms_spec (ws := wsX11_isHeard) B.pre
  have hown : s.vm.findClass RX11 = some m.cls := findClass_of_methodNamed B.named
  have hlocks := B.notSynchronized
  subst hsz
  have hD := hD0.self (sz := s.heap.size)
  generalize hAe : va_A [ceX11 h0 a_w a_kept a_laid s_hasImage a_refusals a_row s_rows a_letters s_lettered a_hit a_lead a_defeat a_defeater s_ins s_outs a_order s_ordered a_is a_was s_reading s_isWell a_depths a_ways s_z, caI G a_w 43 g_w] s.heap.size = A at hD ⊢
  have hA : ∀ q : Nat, s.heap.size ≤ q → A q := fun q h => by rw [← hAe]; exact Or.inr h
  have hS : va_S A s.heap s.heap [] := va_S.rf
  have hP : va_P G.1 vwCl [ceX11 h0 a_w a_kept a_laid s_hasImage a_refusals a_row s_rows a_letters s_lettered a_hit a_lead a_defeat a_defeater s_ins s_outs a_order s_ordered a_is a_was s_reading s_isWell a_depths a_ways s_z, caI G a_w 43 g_w] s.heap := hP
  have hl := lv_entry ([.ref h0, .int x1]) (n := 2) (Nat.le_of_ble_eq_true rfl)
  rw [lg_entry_eq]
  generalize (lg_sl ([.ref h0, .int x1]) ++ List.replicate (2 - (lg_sl ([.ref h0, .int x1])).length) Slot.unset).toArray = ls at hl ⊢
  have hl : lv_has ls 2 [(0, .ref h0), (1, .int x1)] := hl
  have kf0 := hts (.fieldLink RX11 9 "HallOfClaimsModel" "w" "[I") (List.mem_of_getElem? (i := 1) (by decide +kernel))
  have ki_X11 : ∀ w ∈ u_ws RX11 TX11 24, w ∈ wsX11_isHeard := by decide +kernel
  unfold wp_X11_isHeard at h
  refine lv_aload_n hx hb dX11_isHeard_0 rfl (lv_at hl 0 rfl) ?_
  refine va_get (D := G.1) (ci := 9) (v := .ref a_w) (C := RX11) (T := TX11) (N := 24) hx hb hts ki_X11 hown hK.1 hP 0 rfl rfl 0 (by decide) kf0 (fun _ h9 => h9) rfl dX11_isHeard_1 ?_
  refine lv_bipush (v := nI 40) hx hb dX11_isHeard_4 kb_40 ?_
  have hin := h.1
  replace h := h.2
  refine va_iald hx hb hK.1 hP 1 0 rfl rfl hin dX11_isHeard_6 ?_
  refine lv_iload_n hx hb dX11_isHeard_7 rfl (lv_at hl 1 rfl) ?_
  refine hc_ki (va_runS (As := [.int (g_w (nI 40).toNatClampNeg), .int x1]) (rest := []) ⟨hx, hb, hml, hown, hts⟩ (c_X11_has l G H.size (g_w (nI 40).toNatClampNeg) x1 _ h) (va_cwS 2 hts gX11_isHeard_X11_has rfl rfl rfl (by decide +kernel) ⟨Nat.le_of_ble_eq_true rfl, Nat.le_of_ble_eq_true rfl⟩) (hc_pS hK hP hD [] rfl rfl) rfl rfl hl.1 rfl (lv_room (Nat.le_of_ble_eq_true rfl)) dX11_isHeard_8 ⟨Nat.le_refl _, Nat.le_refl _⟩) hP hD hS hA [] [0, 1] rfl rfl rfl (by decide) (fun r8 u H locs h hP hD hS => ?_)
  try dsimp only at h
  have hP : va_P G.1 vwCl [ceX11 h0 a_w a_kept a_laid s_hasImage a_refusals a_row s_rows a_letters s_lettered a_hit a_lead a_defeat a_defeater s_ins s_outs a_order s_ordered a_is a_was s_reading s_isWell a_depths a_ways s_z, caI G a_w 43 g_w] H := hP
  have hD : va_D A [ceX11 h0 a_w a_kept a_laid s_hasImage a_refusals a_row s_rows a_letters s_lettered a_hit a_lead a_defeat a_defeater s_ins s_outs a_order s_ordered a_is a_was s_reading s_isWell a_depths a_ways s_z, caI G a_w 43 g_w] := hD
  have hz := h.1
  replace h := h.2
  exact W.zret (v := r8) hx hb hr hz (fun t ht hW => ⟨⟨_, (), rfl, h, ⟨by rw [ht]; exact hP, hD⟩⟩, hS.F ht⟩) hS.2.2 dX11_isHeard_11
set_option maxHeartbeats 4000000 in
set_option maxRecDepth 100000 in
theorem c_X11_minds (l : Launch) (G : hcG) (h0 : Nat) (a_w : Nat) (a_kept : Nat) (a_laid : Nat) (a_refusals : Nat) (a_row : Nat) (a_letters : Nat) (a_hit : Nat) (a_lead : Nat) (a_defeat : Nat) (a_defeater : Nat) (a_order : Nat) (a_is : Nat) (a_was : Nat) (a_depths : Nat) (a_ways : Nat) (sz : Nat) (s_hasImage : Int32) (s_rows : Int32) (s_lettered : Int32) (s_ins : Int32) (s_outs : Int32) (s_ordered : Int32) (s_reading : Int32) (s_isWell : Int32) (s_z : Int32) (g_w : Nat → Int32) (g_laid : Nat → Int32) (post : (Nat → Int32) → Prop) (h : wp_X11_minds post g_w g_laid) : Met l yX11_minds wsX11_minds ({ frames := 1, cells := 0, slots := 0, locals := 22 }) (hcPc G [.ref h0] [ceX11 h0 a_w a_kept a_laid s_hasImage a_refusals a_row s_rows a_letters s_lettered a_hit a_lead a_defeat a_defeater s_ins s_outs a_order s_ordered a_is a_was s_reading s_isWell a_depths a_ways s_z, caI G a_w 43 g_w, caI G a_laid 43 g_laid] sz) (va_Qv (fun u : (Nat → Int32) => post u) (hcB G (va_A [ceX11 h0 a_w a_kept a_laid s_hasImage a_refusals a_row s_rows a_letters s_lettered a_hit a_lead a_defeat a_defeater s_ins s_outs a_order s_ordered a_is a_was s_reading s_isWell a_depths a_ways s_z, caI G a_w 43 g_w, caI G a_laid 43 g_laid] sz) (fun u : (Nat → Int32) => [ceX11 h0 a_w a_kept a_laid s_hasImage a_refusals a_row s_rows a_letters s_lettered a_hit a_lead a_defeat a_defeater s_ins s_outs a_order s_ordered a_is a_was s_reading s_isWell a_depths a_ways s_z, caI G a_w 43 g_w, caI G a_laid 43 u])) (va_A [ceX11 h0 a_w a_kept a_laid s_hasImage a_refusals a_row s_rows a_letters s_lettered a_hit a_lead a_defeat a_defeater s_ins s_outs a_order s_ordered a_is a_was s_reading s_isWell a_depths a_ways s_z, caI G a_w 43 g_w, caI G a_laid 43 g_laid] sz)) 0 0 (va_A [ceX11 h0 a_w a_kept a_laid s_hasImage a_refusals a_row s_rows a_letters s_lettered a_hit a_lead a_defeat a_defeater s_ins s_outs a_order s_ordered a_is a_was s_reading s_isWell a_depths a_ways s_z, caI G a_w 43 g_w, caI G a_laid 43 g_laid] sz) := by
  refine Met.ofW (cc := cX11_minds) (maxL := 1) (ret := none) (by decide) rfl ?_
  intro p e s m args below meth c s₁ B hml hv
  obtain ⟨rfl, hsz, hP, hK, hD0⟩ := hv
  have hx := B.exec
  have hb := B.bytes
  have hr := B.returns
  have hts := atoms_spec (ws := wsX11_minds) B.pre
  have hown : s.vm.findClass RX11 = some m.cls := findClass_of_methodNamed B.named
  have hlocks := B.notSynchronized
  subst hsz
  have hD := hD0.self (sz := s.heap.size)
  generalize hAe : va_A [ceX11 h0 a_w a_kept a_laid s_hasImage a_refusals a_row s_rows a_letters s_lettered a_hit a_lead a_defeat a_defeater s_ins s_outs a_order s_ordered a_is a_was s_reading s_isWell a_depths a_ways s_z, caI G a_w 43 g_w, caI G a_laid 43 g_laid] s.heap.size = A at hD ⊢
  have hA : ∀ q : Nat, s.heap.size ≤ q → A q := fun q h => by rw [← hAe]; exact Or.inr h
  have hS : va_S A s.heap s.heap [] := va_S.rf
  have hP : va_P G.1 vwCl [ceX11 h0 a_w a_kept a_laid s_hasImage a_refusals a_row s_rows a_letters s_lettered a_hit a_lead a_defeat a_defeater s_ins s_outs a_order s_ordered a_is a_was s_reading s_isWell a_depths a_ways s_z, caI G a_w 43 g_w, caI G a_laid 43 g_laid] s.heap := hP
  have hl := lv_entry ([.ref h0]) (n := 1) (Nat.le_of_ble_eq_true rfl)
  rw [lg_entry_eq]
  generalize (lg_sl ([.ref h0]) ++ List.replicate (1 - (lg_sl ([.ref h0])).length) Slot.unset).toArray = ls at hl ⊢
  have hl : lv_has ls 1 [(0, .ref h0)] := hl
  have kf0 := hts (.fieldLink RX11 9 "HallOfClaimsModel" "w" "[I") (List.mem_of_getElem? (i := 1) (by decide +kernel))
  have kf1 := hts (.fieldLink RX11 16 "HallOfClaimsModel" "laid" "[I") (List.mem_of_getElem? (i := 2) (by decide +kernel))
  have ki_X11 : ∀ w ∈ u_ws RX11 TX11 24, w ∈ wsX11_minds := by decide +kernel
  unfold wp_X11_minds at h
  refine lv_aload_n hx hb dX11_minds_0 rfl (lv_at hl 0 rfl) ?_
  refine va_get (D := G.1) (ci := 9) (v := .ref a_w) (C := RX11) (T := TX11) (N := 24) hx hb hts ki_X11 hown hK.1 hP 0 rfl rfl 0 (by decide) kf0 (fun _ h9 => h9) rfl dX11_minds_1 ?_
  refine lv_aload_n hx hb dX11_minds_4 rfl (lv_at hl 0 rfl) ?_
  refine va_get (D := G.1) (ci := 9) (v := .ref a_laid) (C := RX11) (T := TX11) (N := 24) hx hb hts ki_X11 hown hK.1 hP 0 rfl rfl 2 (by decide) kf1 (fun _ h9 => h9) rfl dX11_minds_5 ?_
  refine hc_kv (va_runS (As := [.ref a_w, .ref a_laid]) (rest := []) ⟨hx, hb, hml, hown, hts⟩ (c_X11_copies l G a_w a_laid H.size g_w g_laid _ h) (va_cwS 2 hts gX11_minds_X11_copies rfl rfl rfl (by decide +kernel) ⟨Nat.le_of_ble_eq_true rfl, Nat.le_of_ble_eq_true rfl⟩) (hc_pS hK hP hD [1, 2] rfl rfl) rfl rfl hl.1 rfl (lv_room (Nat.le_of_ble_eq_true rfl)) dX11_minds_8 ⟨Nat.le_refl _, Nat.le_refl _⟩) hP hD hS hA [1, 2] [0] rfl rfl rfl (by decide) (fun u H locs h hP hD hS => ?_)
  obtain ⟨g_laid_8, rfl⟩ : ∃ z, z = u := ⟨_, rfl⟩
  try dsimp only at h
  have hP : va_P G.1 vwCl [ceX11 h0 a_w a_kept a_laid s_hasImage a_refusals a_row s_rows a_letters s_lettered a_hit a_lead a_defeat a_defeater s_ins s_outs a_order s_ordered a_is a_was s_reading s_isWell a_depths a_ways s_z, caI G a_w 43 g_w, caI G a_laid 43 g_laid_8] H := hP
  have hD : va_D A [ceX11 h0 a_w a_kept a_laid s_hasImage a_refusals a_row s_rows a_letters s_lettered a_hit a_lead a_defeat a_defeater s_ins s_outs a_order s_ordered a_is a_was s_reading s_isWell a_depths a_ways s_z, caI G a_w 43 g_w, caI G a_laid 43 g_laid_8] := hD
  exact W.vret hx hb hr (fun t ht hW => ⟨⟨g_laid_8, rfl, h, ⟨by rw [ht]; exact hP, hD⟩⟩, hS.F ht⟩) hS.2.2 dX11_minds_11
set_option maxHeartbeats 4000000 in
set_option maxRecDepth 100000 in
theorem c_X11_forgets (l : Launch) (G : hcG) (h0 : Nat) (a_w : Nat) (a_kept : Nat) (a_laid : Nat) (a_refusals : Nat) (a_row : Nat) (a_letters : Nat) (a_hit : Nat) (a_lead : Nat) (a_defeat : Nat) (a_defeater : Nat) (a_order : Nat) (a_is : Nat) (a_was : Nat) (a_depths : Nat) (a_ways : Nat) (sz : Nat) (s_hasImage : Int32) (s_rows : Int32) (s_lettered : Int32) (s_ins : Int32) (s_outs : Int32) (s_ordered : Int32) (s_reading : Int32) (s_isWell : Int32) (s_z : Int32) (g_w : Nat → Int32) (g_laid : Nat → Int32) (post : (Nat → Int32) → Prop) (h : wp_X11_forgets post g_w g_laid) : Met l yX11_forgets wsX11_forgets ({ frames := 1, cells := 0, slots := 0, locals := 22 }) (hcPc G [.ref h0] [ceX11 h0 a_w a_kept a_laid s_hasImage a_refusals a_row s_rows a_letters s_lettered a_hit a_lead a_defeat a_defeater s_ins s_outs a_order s_ordered a_is a_was s_reading s_isWell a_depths a_ways s_z, caI G a_w 43 g_w, caI G a_laid 43 g_laid] sz) (va_Qv (fun u : (Nat → Int32) => post u) (hcB G (va_A [ceX11 h0 a_w a_kept a_laid s_hasImage a_refusals a_row s_rows a_letters s_lettered a_hit a_lead a_defeat a_defeater s_ins s_outs a_order s_ordered a_is a_was s_reading s_isWell a_depths a_ways s_z, caI G a_w 43 g_w, caI G a_laid 43 g_laid] sz) (fun u : (Nat → Int32) => [ceX11 h0 a_w a_kept a_laid s_hasImage a_refusals a_row s_rows a_letters s_lettered a_hit a_lead a_defeat a_defeater s_ins s_outs a_order s_ordered a_is a_was s_reading s_isWell a_depths a_ways s_z, caI G a_w 43 u, caI G a_laid 43 g_laid])) (va_A [ceX11 h0 a_w a_kept a_laid s_hasImage a_refusals a_row s_rows a_letters s_lettered a_hit a_lead a_defeat a_defeater s_ins s_outs a_order s_ordered a_is a_was s_reading s_isWell a_depths a_ways s_z, caI G a_w 43 g_w, caI G a_laid 43 g_laid] sz)) 0 0 (va_A [ceX11 h0 a_w a_kept a_laid s_hasImage a_refusals a_row s_rows a_letters s_lettered a_hit a_lead a_defeat a_defeater s_ins s_outs a_order s_ordered a_is a_was s_reading s_isWell a_depths a_ways s_z, caI G a_w 43 g_w, caI G a_laid 43 g_laid] sz) := by
  refine Met.ofW (cc := cX11_forgets) (maxL := 1) (ret := none) (by decide) rfl ?_
  intro p e s m args below meth c s₁ B hml hv
  obtain ⟨rfl, hsz, hP, hK, hD0⟩ := hv
  have hx := B.exec
  have hb := B.bytes
  have hr := B.returns
  have hts := atoms_spec (ws := wsX11_forgets) B.pre
  have hown : s.vm.findClass RX11 = some m.cls := findClass_of_methodNamed B.named
  have hlocks := B.notSynchronized
  subst hsz
  have hD := hD0.self (sz := s.heap.size)
  generalize hAe : va_A [ceX11 h0 a_w a_kept a_laid s_hasImage a_refusals a_row s_rows a_letters s_lettered a_hit a_lead a_defeat a_defeater s_ins s_outs a_order s_ordered a_is a_was s_reading s_isWell a_depths a_ways s_z, caI G a_w 43 g_w, caI G a_laid 43 g_laid] s.heap.size = A at hD ⊢
  have hA : ∀ q : Nat, s.heap.size ≤ q → A q := fun q h => by rw [← hAe]; exact Or.inr h
  have hS : va_S A s.heap s.heap [] := va_S.rf
  have hP : va_P G.1 vwCl [ceX11 h0 a_w a_kept a_laid s_hasImage a_refusals a_row s_rows a_letters s_lettered a_hit a_lead a_defeat a_defeater s_ins s_outs a_order s_ordered a_is a_was s_reading s_isWell a_depths a_ways s_z, caI G a_w 43 g_w, caI G a_laid 43 g_laid] s.heap := hP
  have hl := lv_entry ([.ref h0]) (n := 1) (Nat.le_of_ble_eq_true rfl)
  rw [lg_entry_eq]
  generalize (lg_sl ([.ref h0]) ++ List.replicate (1 - (lg_sl ([.ref h0])).length) Slot.unset).toArray = ls at hl ⊢
  have hl : lv_has ls 1 [(0, .ref h0)] := hl
  have kf0 := hts (.fieldLink RX11 16 "HallOfClaimsModel" "laid" "[I") (List.mem_of_getElem? (i := 1) (by decide +kernel))
  have kf1 := hts (.fieldLink RX11 9 "HallOfClaimsModel" "w" "[I") (List.mem_of_getElem? (i := 2) (by decide +kernel))
  have ki_X11 : ∀ w ∈ u_ws RX11 TX11 24, w ∈ wsX11_forgets := by decide +kernel
  unfold wp_X11_forgets at h
  refine lv_aload_n hx hb dX11_forgets_0 rfl (lv_at hl 0 rfl) ?_
  refine va_get (D := G.1) (ci := 9) (v := .ref a_laid) (C := RX11) (T := TX11) (N := 24) hx hb hts ki_X11 hown hK.1 hP 0 rfl rfl 2 (by decide) kf0 (fun _ h9 => h9) rfl dX11_forgets_1 ?_
  refine lv_aload_n hx hb dX11_forgets_4 rfl (lv_at hl 0 rfl) ?_
  refine va_get (D := G.1) (ci := 9) (v := .ref a_w) (C := RX11) (T := TX11) (N := 24) hx hb hts ki_X11 hown hK.1 hP 0 rfl rfl 0 (by decide) kf1 (fun _ h9 => h9) rfl dX11_forgets_5 ?_
  refine hc_kv (va_runS (As := [.ref a_laid, .ref a_w]) (rest := []) ⟨hx, hb, hml, hown, hts⟩ (c_X11_copies l G a_laid a_w H.size g_laid g_w _ h) (va_cwS 2 hts gX11_forgets_X11_copies rfl rfl rfl (by decide +kernel) ⟨Nat.le_of_ble_eq_true rfl, Nat.le_of_ble_eq_true rfl⟩) (hc_pS hK hP hD [2, 1] rfl rfl) rfl rfl hl.1 rfl (lv_room (Nat.le_of_ble_eq_true rfl)) dX11_forgets_8 ⟨Nat.le_refl _, Nat.le_refl _⟩) hP hD hS hA [2, 1] [0] rfl rfl rfl (by decide) (fun u H locs h hP hD hS => ?_)
  obtain ⟨g_w_8, rfl⟩ : ∃ z, z = u := ⟨_, rfl⟩
  try dsimp only at h
  have hP : va_P G.1 vwCl [ceX11 h0 a_w a_kept a_laid s_hasImage a_refusals a_row s_rows a_letters s_lettered a_hit a_lead a_defeat a_defeater s_ins s_outs a_order s_ordered a_is a_was s_reading s_isWell a_depths a_ways s_z, caI G a_laid 43 g_laid, caI G a_w 43 g_w_8] H := hP
  have hD : va_D A [ceX11 h0 a_w a_kept a_laid s_hasImage a_refusals a_row s_rows a_letters s_lettered a_hit a_lead a_defeat a_defeater s_ins s_outs a_order s_ordered a_is a_was s_reading s_isWell a_depths a_ways s_z, caI G a_laid 43 g_laid, caI G a_w 43 g_w_8] := hD
  exact W.vret hx hb hr (fun t ht hW => ⟨⟨g_w_8, rfl, h, ⟨by rw [ht]; exact (hP.sub [0, 2, 1] rfl), (hD.sub [0, 2, 1] (by decide) rfl)⟩⟩, hS.F ht⟩) hS.2.2 dX11_forgets_11
set_option maxHeartbeats 4000000 in
set_option maxRecDepth 100000 in
theorem c_X11_lets (l : Launch) (G : hcG) (h0 : Nat) (a_w : Nat) (a_kept : Nat) (a_laid : Nat) (a_refusals : Nat) (a_row : Nat) (a_letters : Nat) (a_hit : Nat) (a_lead : Nat) (a_defeat : Nat) (a_defeater : Nat) (a_order : Nat) (a_is : Nat) (a_was : Nat) (a_depths : Nat) (a_ways : Nat) (sz : Nat) (s_hasImage : Int32) (s_rows : Int32) (s_lettered : Int32) (s_ins : Int32) (s_outs : Int32) (s_ordered : Int32) (s_reading : Int32) (s_isWell : Int32) (s_z : Int32) (g_w : Nat → Int32) (x1 : Int32) (x2 : Int32) (post : Int32 → Prop) (h : wp_X11_lets post g_w x1 x2) : Met l yX11_lets wsX11_lets ({ frames := 0, cells := 0, slots := 0, locals := 0 }) (hcPc G [.ref h0, .int x1, .int x2] [ceX11 h0 a_w a_kept a_laid s_hasImage a_refusals a_row s_rows a_letters s_lettered a_hit a_lead a_defeat a_defeater s_ins s_outs a_order s_ordered a_is a_was s_reading s_isWell a_depths a_ways s_z, caI G a_w 43 g_w] sz) (va_Qi (fun (r : Int32) (u : Unit) => post r) (hcB G (va_A [ceX11 h0 a_w a_kept a_laid s_hasImage a_refusals a_row s_rows a_letters s_lettered a_hit a_lead a_defeat a_defeater s_ins s_outs a_order s_ordered a_is a_was s_reading s_isWell a_depths a_ways s_z, caI G a_w 43 g_w] sz) (fun u : Unit => [ceX11 h0 a_w a_kept a_laid s_hasImage a_refusals a_row s_rows a_letters s_lettered a_hit a_lead a_defeat a_defeater s_ins s_outs a_order s_ordered a_is a_was s_reading s_isWell a_depths a_ways s_z, caI G a_w 43 g_w])) (va_A [ceX11 h0 a_w a_kept a_laid s_hasImage a_refusals a_row s_rows a_letters s_lettered a_hit a_lead a_defeat a_defeater s_ins s_outs a_order s_ordered a_is a_was s_reading s_isWell a_depths a_ways s_z, caI G a_w 43 g_w] sz)) 0 0 (va_A [ceX11 h0 a_w a_kept a_laid s_hasImage a_refusals a_row s_rows a_letters s_lettered a_hit a_lead a_defeat a_defeater s_ins s_outs a_order s_ordered a_is a_was s_reading s_isWell a_depths a_ways s_z, caI G a_w 43 g_w] sz) := by
  refine Met.ofW (cc := cX11_lets) (maxL := 5) (ret := (some .boolean)) (by decide) rfl ?_
  intro p e s m args below meth c s₁ B hml hv
  obtain ⟨rfl, hsz, hP, hK, hD0⟩ := hv
  have hx := B.exec
  have hb := B.bytes
  have hr := B.returns
  have hts := atoms_spec (ws := wsX11_lets) B.pre
  have hown : s.vm.findClass RX11 = some m.cls := findClass_of_methodNamed B.named
  have hlocks := B.notSynchronized
  subst hsz
  have hD := hD0.self (sz := s.heap.size)
  generalize hAe : va_A [ceX11 h0 a_w a_kept a_laid s_hasImage a_refusals a_row s_rows a_letters s_lettered a_hit a_lead a_defeat a_defeater s_ins s_outs a_order s_ordered a_is a_was s_reading s_isWell a_depths a_ways s_z, caI G a_w 43 g_w] s.heap.size = A at hD ⊢
  have hA : ∀ q : Nat, s.heap.size ≤ q → A q := fun q h => by rw [← hAe]; exact Or.inr h
  have hS : va_S A s.heap s.heap [] := va_S.rf
  have hP : va_P G.1 vwCl [ceX11 h0 a_w a_kept a_laid s_hasImage a_refusals a_row s_rows a_letters s_lettered a_hit a_lead a_defeat a_defeater s_ins s_outs a_order s_ordered a_is a_was s_reading s_isWell a_depths a_ways s_z, caI G a_w 43 g_w] s.heap := hP
  have hl := lv_entry ([.ref h0, .int x1, .int x2]) (n := 5) (Nat.le_of_ble_eq_true rfl)
  rw [lg_entry_eq]
  generalize (lg_sl ([.ref h0, .int x1, .int x2]) ++ List.replicate (5 - (lg_sl ([.ref h0, .int x1, .int x2])).length) Slot.unset).toArray = ls at hl ⊢
  have hl : lv_has ls 5 [(0, .ref h0), (1, .int x1), (2, .int x2)] := hl
  have kf0 := hts (.fieldLink RX11 9 "HallOfClaimsModel" "w" "[I") (List.mem_of_getElem? (i := 1) (by decide +kernel))
  have ki_X11 : ∀ w ∈ u_ws RX11 TX11 24, w ∈ wsX11_lets := by decide +kernel
  have w92 : ∀ (v3 : Int32) (v4 : Int32) , wp_X11_lets_92 post g_w x1 x2 v3 v4 → ∀ (H : Heap) (locs : List Loc) (ls : Array Slot), va_P G.1 vwCl [ceX11 h0 a_w a_kept a_laid s_hasImage a_refusals a_row s_rows a_letters s_lettered a_hit a_lead a_defeat a_defeater s_ins s_outs a_order s_ordered a_is a_was s_reading s_isWell a_depths a_ways s_z, caI G a_w 43 g_w] H → va_D A [ceX11 h0 a_w a_kept a_laid s_hasImage a_refusals a_row s_rows a_letters s_lettered a_hit a_lead a_defeat a_defeater s_ins s_outs a_order s_ordered a_is a_was s_reading s_isWell a_depths a_ways s_z, caI G a_w 43 g_w] → va_S A s.heap H locs → lv_has ls 5 [(3, .int v3), (4, .int v4)] → W p l e (headSpec wsX11_lets ({ frames := 0, cells := 0, slots := 0, locals := 0 })).room s m args below meth c H locs 0 0 (MQ below (va_Qi (fun (r : Int32) (u : Unit) => post r) (hcB G A (fun u : Unit => [ceX11 h0 a_w a_kept a_laid s_hasImage a_refusals a_row s_rows a_letters s_lettered a_hit a_lead a_defeat a_defeater s_ins s_outs a_order s_ordered a_is a_was s_reading s_isWell a_depths a_ways s_z, caI G a_w 43 g_w])) A) args s 0 0 A) (F0 m 92 ls []) := by
    intro v3 v4 h H locs ls hP hD hS hl
    unfold wp_X11_lets_92 at h
    refine lv_iload hx hb dX11_lets_92 (lv_at hl 1 rfl) ?_
    refine lv_iconst (v := nI 3) hx hb dX11_lets_94 kc_3 ?_
    refine lv_icmp_ne (tgt := 103) hx hb dX11_lets_95 (by decide) (fun c => ?_) (fun c => ?_)
    · replace h := h.1 c
      refine lv_iconst (v := nI 1) hx hb dX11_lets_103 kc_1 ?_
      refine lv_goto (tgt := 108) hx hb dX11_lets_104 (by decide) ?_
      exact W.zret (v := nI 1) hx hb hr rfl (fun t ht hW => ⟨⟨_, (), rfl, h, ⟨by rw [ht]; exact hP, hD⟩⟩, hS.F ht⟩) hS.2.2 dX11_lets_108
    · replace h := h.2 c
      refine lv_iload_n hx hb dX11_lets_98 rfl (lv_at hl 0 rfl) ?_
      refine lv_iconst (v := nI 3) hx hb dX11_lets_99 kc_3 ?_
      refine lv_icmp_ne (tgt := 107) hx hb dX11_lets_100 (by decide) (fun c => ?_) (fun c => ?_)
      · replace h := h.1 c
        refine lv_iconst (v := nI 0) hx hb dX11_lets_107 kc_0 ?_
        exact W.zret (v := nI 0) hx hb hr rfl (fun t ht hW => ⟨⟨_, (), rfl, h, ⟨by rw [ht]; exact hP, hD⟩⟩, hS.F ht⟩) hS.2.2 dX11_lets_108
      · replace h := h.2 c
        refine lv_iconst (v := nI 1) hx hb dX11_lets_103 kc_1 ?_
        refine lv_goto (tgt := 108) hx hb dX11_lets_104 (by decide) ?_
        exact W.zret (v := nI 1) hx hb hr rfl (fun t ht hW => ⟨⟨_, (), rfl, h, ⟨by rw [ht]; exact hP, hD⟩⟩, hS.F ht⟩) hS.2.2 dX11_lets_108
  have w69 : ∀ (v3 : Int32) (v4 : Int32) , wp_X11_lets_69 post g_w x1 x2 v3 v4 → ∀ (H : Heap) (locs : List Loc) (ls : Array Slot), va_P G.1 vwCl [ceX11 h0 a_w a_kept a_laid s_hasImage a_refusals a_row s_rows a_letters s_lettered a_hit a_lead a_defeat a_defeater s_ins s_outs a_order s_ordered a_is a_was s_reading s_isWell a_depths a_ways s_z, caI G a_w 43 g_w] H → va_D A [ceX11 h0 a_w a_kept a_laid s_hasImage a_refusals a_row s_rows a_letters s_lettered a_hit a_lead a_defeat a_defeater s_ins s_outs a_order s_ordered a_is a_was s_reading s_isWell a_depths a_ways s_z, caI G a_w 43 g_w] → va_S A s.heap H locs → lv_has ls 5 [(0, .ref h0), (1, .int x1), (2, .int x2), (3, .int v3), (4, .int v4)] → W p l e (headSpec wsX11_lets ({ frames := 0, cells := 0, slots := 0, locals := 0 })).room s m args below meth c H locs 0 0 (MQ below (va_Qi (fun (r : Int32) (u : Unit) => post r) (hcB G A (fun u : Unit => [ceX11 h0 a_w a_kept a_laid s_hasImage a_refusals a_row s_rows a_letters s_lettered a_hit a_lead a_defeat a_defeater s_ins s_outs a_order s_ordered a_is a_was s_reading s_isWell a_depths a_ways s_z, caI G a_w 43 g_w])) A) args s 0 0 A) (F0 m 69 ls []) := by
    intro v3 v4 h H locs ls hP hD hS hl
    unfold wp_X11_lets_69 at h
    refine lv_aload_n hx hb dX11_lets_69 rfl (lv_at hl 0 rfl) ?_
    refine va_get (D := G.1) (ci := 9) (v := .ref a_w) (C := RX11) (T := TX11) (N := 24) hx hb hts ki_X11 hown hK.1 hP 0 rfl rfl 0 (by decide) kf0 (fun _ h9 => h9) rfl dX11_lets_70 ?_
    refine lv_bipush (v := nI 8) hx hb dX11_lets_73 kb_8 ?_
    refine lv_iload_n hx hb dX11_lets_75 rfl (lv_at hl 1 rfl) ?_
    refine lv_iadd hx hb dX11_lets_76 ?_
    have hin := h.1
    replace h := h.2
    refine va_iald hx hb hK.1 hP 1 0 rfl rfl hin dX11_lets_77 ?_
    refine lv_aload_n hx hb dX11_lets_78 rfl (lv_at hl 0 rfl) ?_
    refine va_get (D := G.1) (ci := 9) (v := .ref a_w) (C := RX11) (T := TX11) (N := 24) hx hb hts ki_X11 hown hK.1 hP 0 rfl rfl 0 (by decide) kf0 (fun _ h9 => h9) rfl dX11_lets_79 ?_
    refine lv_bipush (v := nI 8) hx hb dX11_lets_82 kb_8 ?_
    refine lv_iload_n hx hb dX11_lets_84 rfl (lv_at hl 2 rfl) ?_
    refine lv_iadd hx hb dX11_lets_85 ?_
    have hin := h.1
    replace h := h.2
    refine va_iald hx hb hK.1 hP 1 0 rfl rfl hin dX11_lets_86 ?_
    refine lv_icmp_ge (tgt := 92) hx hb dX11_lets_87 (by decide) (fun c => ?_) (fun c => ?_)
    · replace h := h.1 c
      exact w92  v3 v4 h _ _ _ hP hD hS (lv_sub hl [3, 4] rfl)
    · replace h := h.2 c
      refine lv_iconst (v := nI 0) hx hb dX11_lets_90 kc_0 ?_
      exact W.zret (v := nI 0) hx hb hr rfl (fun t ht hW => ⟨⟨_, (), rfl, h, ⟨by rw [ht]; exact hP, hD⟩⟩, hS.F ht⟩) hS.2.2 dX11_lets_91
  have w57 : ∀ (v3 : Int32) (v4 : Int32) , wp_X11_lets_57 post g_w x1 x2 v3 v4 → ∀ (H : Heap) (locs : List Loc) (ls : Array Slot), va_P G.1 vwCl [ceX11 h0 a_w a_kept a_laid s_hasImage a_refusals a_row s_rows a_letters s_lettered a_hit a_lead a_defeat a_defeater s_ins s_outs a_order s_ordered a_is a_was s_reading s_isWell a_depths a_ways s_z, caI G a_w 43 g_w] H → va_D A [ceX11 h0 a_w a_kept a_laid s_hasImage a_refusals a_row s_rows a_letters s_lettered a_hit a_lead a_defeat a_defeater s_ins s_outs a_order s_ordered a_is a_was s_reading s_isWell a_depths a_ways s_z, caI G a_w 43 g_w] → va_S A s.heap H locs → lv_has ls 5 [(0, .ref h0), (1, .int x1), (2, .int x2), (3, .int v3), (4, .int v4)] → W p l e (headSpec wsX11_lets ({ frames := 0, cells := 0, slots := 0, locals := 0 })).room s m args below meth c H locs 0 0 (MQ below (va_Qi (fun (r : Int32) (u : Unit) => post r) (hcB G A (fun u : Unit => [ceX11 h0 a_w a_kept a_laid s_hasImage a_refusals a_row s_rows a_letters s_lettered a_hit a_lead a_defeat a_defeater s_ins s_outs a_order s_ordered a_is a_was s_reading s_isWell a_depths a_ways s_z, caI G a_w 43 g_w])) A) args s 0 0 A) (F0 m 57 ls []) := by
    intro v3 v4 h H locs ls hP hD hS hl
    unfold wp_X11_lets_57 at h
    refine lv_iload hx hb dX11_lets_57 (lv_at hl 4 rfl) ?_
    refine lv_iconst (v := nI 2) hx hb dX11_lets_59 kc_2 ?_
    refine lv_icmp_eq (tgt := 69) hx hb dX11_lets_60 (by decide) (fun c => ?_) (fun c => ?_)
    · replace h := h.1 c
      exact w69  v3 v4 h _ _ _ hP hD hS (lv_sub hl [0, 1, 2, 3, 4] rfl)
    · replace h := h.2 c
      refine lv_iload hx hb dX11_lets_63 (lv_at hl 4 rfl) ?_
      refine lv_iconst (v := nI 3) hx hb dX11_lets_65 kc_3 ?_
      refine lv_icmp_ne (tgt := 92) hx hb dX11_lets_66 (by decide) (fun c => ?_) (fun c => ?_)
      · replace h := h.1 c
        exact w92  v3 v4 h _ _ _ hP hD hS (lv_sub hl [3, 4] rfl)
      · replace h := h.2 c
        exact w69  v3 v4 h _ _ _ hP hD hS (lv_sub hl [0, 1, 2, 3, 4] rfl)
  have w34 : ∀ (v3 : Int32) (v4 : Int32) , wp_X11_lets_34 post g_w x1 x2 v3 v4 → ∀ (H : Heap) (locs : List Loc) (ls : Array Slot), va_P G.1 vwCl [ceX11 h0 a_w a_kept a_laid s_hasImage a_refusals a_row s_rows a_letters s_lettered a_hit a_lead a_defeat a_defeater s_ins s_outs a_order s_ordered a_is a_was s_reading s_isWell a_depths a_ways s_z, caI G a_w 43 g_w] H → va_D A [ceX11 h0 a_w a_kept a_laid s_hasImage a_refusals a_row s_rows a_letters s_lettered a_hit a_lead a_defeat a_defeater s_ins s_outs a_order s_ordered a_is a_was s_reading s_isWell a_depths a_ways s_z, caI G a_w 43 g_w] → va_S A s.heap H locs → lv_has ls 5 [(0, .ref h0), (1, .int x1), (2, .int x2), (3, .int v3), (4, .int v4)] → W p l e (headSpec wsX11_lets ({ frames := 0, cells := 0, slots := 0, locals := 0 })).room s m args below meth c H locs 0 0 (MQ below (va_Qi (fun (r : Int32) (u : Unit) => post r) (hcB G A (fun u : Unit => [ceX11 h0 a_w a_kept a_laid s_hasImage a_refusals a_row s_rows a_letters s_lettered a_hit a_lead a_defeat a_defeater s_ins s_outs a_order s_ordered a_is a_was s_reading s_isWell a_depths a_ways s_z, caI G a_w 43 g_w])) A) args s 0 0 A) (F0 m 34 ls []) := by
    intro v3 v4 h H locs ls hP hD hS hl
    unfold wp_X11_lets_34 at h
    refine lv_aload_n hx hb dX11_lets_34 rfl (lv_at hl 0 rfl) ?_
    refine va_get (D := G.1) (ci := 9) (v := .ref a_w) (C := RX11) (T := TX11) (N := 24) hx hb hts ki_X11 hown hK.1 hP 0 rfl rfl 0 (by decide) kf0 (fun _ h9 => h9) rfl dX11_lets_35 ?_
    refine lv_bipush (v := nI 8) hx hb dX11_lets_38 kb_8 ?_
    refine lv_iload_n hx hb dX11_lets_40 rfl (lv_at hl 2 rfl) ?_
    refine lv_iadd hx hb dX11_lets_41 ?_
    have hin := h.1
    replace h := h.2
    refine va_iald hx hb hK.1 hP 1 0 rfl rfl hin dX11_lets_42 ?_
    refine lv_aload_n hx hb dX11_lets_43 rfl (lv_at hl 0 rfl) ?_
    refine va_get (D := G.1) (ci := 9) (v := .ref a_w) (C := RX11) (T := TX11) (N := 24) hx hb hts ki_X11 hown hK.1 hP 0 rfl rfl 0 (by decide) kf0 (fun _ h9 => h9) rfl dX11_lets_44 ?_
    refine lv_bipush (v := nI 8) hx hb dX11_lets_47 kb_8 ?_
    refine lv_iload_n hx hb dX11_lets_49 rfl (lv_at hl 1 rfl) ?_
    refine lv_iadd hx hb dX11_lets_50 ?_
    have hin := h.1
    replace h := h.2
    refine va_iald hx hb hK.1 hP 1 0 rfl rfl hin dX11_lets_51 ?_
    refine lv_icmp_le (tgt := 57) hx hb dX11_lets_52 (by decide) (fun c => ?_) (fun c => ?_)
    · replace h := h.1 c
      exact w57  v3 v4 h _ _ _ hP hD hS (lv_sub hl [0, 1, 2, 3, 4] rfl)
    · replace h := h.2 c
      refine lv_iconst (v := nI 0) hx hb dX11_lets_55 kc_0 ?_
      exact W.zret (v := nI 0) hx hb hr rfl (fun t ht hW => ⟨⟨_, (), rfl, h, ⟨by rw [ht]; exact hP, hD⟩⟩, hS.F ht⟩) hS.2.2 dX11_lets_56
  unfold wp_X11_lets at h
  refine lv_aload_n hx hb dX11_lets_0 rfl (lv_at hl 0 rfl) ?_
  refine va_get (D := G.1) (ci := 9) (v := .ref a_w) (C := RX11) (T := TX11) (N := 24) hx hb hts ki_X11 hown hK.1 hP 0 rfl rfl 0 (by decide) kf0 (fun _ h9 => h9) rfl dX11_lets_1 ?_
  refine lv_iconst (v := nI 0) hx hb dX11_lets_4 kc_0 ?_
  refine lv_iload_n hx hb dX11_lets_5 rfl (lv_at hl 1 rfl) ?_
  refine lv_iadd hx hb dX11_lets_6 ?_
  have hin := h.1
  replace h := h.2
  refine va_iald hx hb hK.1 hP 1 0 rfl rfl hin dX11_lets_7 ?_
  refine lv_istore_n (lv' := [(3, .int (g_w ((nI 0) + x1).toNatClampNeg)), (0, .ref h0), (1, .int x1), (2, .int x2)]) hx hb dX11_lets_8 rfl hl (by decide) rfl (fun ls hl => ?_)
  refine lv_aload_n hx hb dX11_lets_9 rfl (lv_at hl 1 rfl) ?_
  refine va_get (D := G.1) (ci := 9) (v := .ref a_w) (C := RX11) (T := TX11) (N := 24) hx hb hts ki_X11 hown hK.1 hP 0 rfl rfl 0 (by decide) kf0 (fun _ h9 => h9) rfl dX11_lets_10 ?_
  refine lv_iconst (v := nI 0) hx hb dX11_lets_13 kc_0 ?_
  refine lv_iload_n hx hb dX11_lets_14 rfl (lv_at hl 3 rfl) ?_
  refine lv_iadd hx hb dX11_lets_15 ?_
  have hin := h.1
  replace h := h.2
  refine va_iald hx hb hK.1 hP 1 0 rfl rfl hin dX11_lets_16 ?_
  refine lv_istore (lv' := [(4, .int (g_w ((nI 0) + x2).toNatClampNeg)), (3, .int (g_w ((nI 0) + x1).toNatClampNeg)), (0, .ref h0), (1, .int x1), (2, .int x2)]) hx hb dX11_lets_17 hl (by decide) rfl (fun ls hl => ?_)
  refine lv_iload_n hx hb dX11_lets_19 rfl (lv_at hl 1 rfl) ?_
  refine lv_iconst (v := nI 5) hx hb dX11_lets_20 kc_5 ?_
  refine lv_icmp_eq (tgt := 55) hx hb dX11_lets_21 (by decide) (fun c => ?_) (fun c => ?_)
  · replace h := h.1 c
    refine lv_iconst (v := nI 0) hx hb dX11_lets_55 kc_0 ?_
    exact W.zret (v := nI 0) hx hb hr rfl (fun t ht hW => ⟨⟨_, (), rfl, h, ⟨by rw [ht]; exact hP, hD⟩⟩, hS.F ht⟩) hS.2.2 dX11_lets_56
  · replace h := h.2 c
    refine lv_iload_n hx hb dX11_lets_24 rfl (lv_at hl 1 rfl) ?_
    refine lv_iconst (v := nI 1) hx hb dX11_lets_25 kc_1 ?_
    refine lv_icmp_eq (tgt := 34) hx hb dX11_lets_26 (by decide) (fun c => ?_) (fun c => ?_)
    · replace h := h.1 c
      exact w34  (g_w ((nI 0) + x1).toNatClampNeg) (g_w ((nI 0) + x2).toNatClampNeg) h _ _ _ hP hD hS (lv_sub hl [2, 3, 4, 1, 0] rfl)
    · replace h := h.2 c
      refine lv_iload_n hx hb dX11_lets_29 rfl (lv_at hl 1 rfl) ?_
      refine lv_iconst (v := nI 4) hx hb dX11_lets_30 kc_4 ?_
      refine lv_icmp_ne (tgt := 57) hx hb dX11_lets_31 (by decide) (fun c => ?_) (fun c => ?_)
      · replace h := h.1 c
        exact w57  (g_w ((nI 0) + x1).toNatClampNeg) (g_w ((nI 0) + x2).toNatClampNeg) h _ _ _ hP hD hS (lv_sub hl [2, 3, 4, 1, 0] rfl)
      · replace h := h.2 c
        exact w34  (g_w ((nI 0) + x1).toNatClampNeg) (g_w ((nI 0) + x2).toNatClampNeg) h _ _ _ hP hD hS (lv_sub hl [2, 3, 4, 1, 0] rfl)
set_option maxHeartbeats 4000000 in
set_option maxRecDepth 100000 in
theorem c_X11_hits (l : Launch) (G : hcG) (h0 : Nat) (a_w : Nat) (a_kept : Nat) (a_laid : Nat) (a_refusals : Nat) (a_row : Nat) (a_letters : Nat) (a_hit : Nat) (a_lead : Nat) (a_defeat : Nat) (a_defeater : Nat) (a_order : Nat) (a_is : Nat) (a_was : Nat) (a_depths : Nat) (a_ways : Nat) (sz : Nat) (s_hasImage : Int32) (s_rows : Int32) (s_lettered : Int32) (s_ins : Int32) (s_outs : Int32) (s_ordered : Int32) (s_reading : Int32) (s_isWell : Int32) (s_z : Int32) (g_w : Nat → Int32) (x1 : Int32) (x2 : Int32) (post : Int32 → Prop) (h : wp_X11_hits post g_w x1 x2) : Met l yX11_hits wsX11_hits ({ frames := 2, cells := 0, slots := 0, locals := 42 }) (hcPc G [.ref h0, .int x1, .int x2] [ceX11 h0 a_w a_kept a_laid s_hasImage a_refusals a_row s_rows a_letters s_lettered a_hit a_lead a_defeat a_defeater s_ins s_outs a_order s_ordered a_is a_was s_reading s_isWell a_depths a_ways s_z, caI G a_w 43 g_w] sz) (va_Qi (fun (r : Int32) (u : Unit) => post r) (hcB G (va_A [ceX11 h0 a_w a_kept a_laid s_hasImage a_refusals a_row s_rows a_letters s_lettered a_hit a_lead a_defeat a_defeater s_ins s_outs a_order s_ordered a_is a_was s_reading s_isWell a_depths a_ways s_z, caI G a_w 43 g_w] sz) (fun u : Unit => [ceX11 h0 a_w a_kept a_laid s_hasImage a_refusals a_row s_rows a_letters s_lettered a_hit a_lead a_defeat a_defeater s_ins s_outs a_order s_ordered a_is a_was s_reading s_isWell a_depths a_ways s_z, caI G a_w 43 g_w])) (va_A [ceX11 h0 a_w a_kept a_laid s_hasImage a_refusals a_row s_rows a_letters s_lettered a_hit a_lead a_defeat a_defeater s_ins s_outs a_order s_ordered a_is a_was s_reading s_isWell a_depths a_ways s_z, caI G a_w 43 g_w] sz)) 0 0 (va_A [ceX11 h0 a_w a_kept a_laid s_hasImage a_refusals a_row s_rows a_letters s_lettered a_hit a_lead a_defeat a_defeater s_ins s_outs a_order s_ordered a_is a_was s_reading s_isWell a_depths a_ways s_z, caI G a_w 43 g_w] sz) := by
  refine Met.ofW (cc := cX11_hits) (maxL := 3) (ret := (some .boolean)) (by decide) rfl ?_
  intro p e s m args below meth c s₁ B hml hv
  obtain ⟨rfl, hsz, hP, hK, hD0⟩ := hv
  have hx := B.exec
  have hb := B.bytes
  have hr := B.returns
  have hts := atoms_spec (ws := wsX11_hits) B.pre
  have hown : s.vm.findClass RX11 = some m.cls := findClass_of_methodNamed B.named
  have hlocks := B.notSynchronized
  subst hsz
  have hD := hD0.self (sz := s.heap.size)
  generalize hAe : va_A [ceX11 h0 a_w a_kept a_laid s_hasImage a_refusals a_row s_rows a_letters s_lettered a_hit a_lead a_defeat a_defeater s_ins s_outs a_order s_ordered a_is a_was s_reading s_isWell a_depths a_ways s_z, caI G a_w 43 g_w] s.heap.size = A at hD ⊢
  have hA : ∀ q : Nat, s.heap.size ≤ q → A q := fun q h => by rw [← hAe]; exact Or.inr h
  have hS : va_S A s.heap s.heap [] := va_S.rf
  have hP : va_P G.1 vwCl [ceX11 h0 a_w a_kept a_laid s_hasImage a_refusals a_row s_rows a_letters s_lettered a_hit a_lead a_defeat a_defeater s_ins s_outs a_order s_ordered a_is a_was s_reading s_isWell a_depths a_ways s_z, caI G a_w 43 g_w] s.heap := hP
  have hl := lv_entry ([.ref h0, .int x1, .int x2]) (n := 3) (Nat.le_of_ble_eq_true rfl)
  rw [lg_entry_eq]
  generalize (lg_sl ([.ref h0, .int x1, .int x2]) ++ List.replicate (3 - (lg_sl ([.ref h0, .int x1, .int x2])).length) Slot.unset).toArray = ls at hl ⊢
  have hl : lv_has ls 3 [(0, .ref h0), (1, .int x1), (2, .int x2)] := hl
  have kf0 := hts (.fieldLink RX11 9 "HallOfClaimsModel" "w" "[I") (List.mem_of_getElem? (i := 1) (by decide +kernel))
  have ki_X11 : ∀ w ∈ u_ws RX11 TX11 24, w ∈ wsX11_hits := by decide +kernel
  unfold wp_X11_hits at h
  refine lv_aload_n hx hb dX11_hits_0 rfl (lv_at hl 0 rfl) ?_
  refine lv_iload_n hx hb dX11_hits_1 rfl (lv_at hl 1 rfl) ?_
  refine hc_ki (va_runV (As := [.int x1]) (rest := []) ⟨hx, hb, hml, hown, hts⟩ (c_X11_isHeard l G h0 a_w a_kept a_laid a_refusals a_row a_letters a_hit a_lead a_defeat a_defeater a_order a_is a_was a_depths a_ways H.size s_hasImage s_rows s_lettered s_ins s_outs s_ordered s_reading s_isWell s_z g_w x1 _ h) (cwV 1 hts gX11_hits_X11_isHeard rfl rfl rfl (by decide +kernel) ⟨Nat.le_of_ble_eq_true rfl, Nat.le_of_ble_eq_true rfl⟩) (hc_pV hK hP hD [0, 1] rfl rfl (ci := 9) 0 rfl rfl) rfl rfl hl.1 rfl (lv_room (Nat.le_of_ble_eq_true rfl)) dX11_hits_2 ⟨Nat.le_refl _, Nat.le_refl _⟩) hP hD hS hA [0, 1] [] rfl rfl rfl (by decide) (fun r2 u H locs h hP hD hS => ?_)
  try dsimp only at h
  have hP : va_P G.1 vwCl [ceX11 h0 a_w a_kept a_laid s_hasImage a_refusals a_row s_rows a_letters s_lettered a_hit a_lead a_defeat a_defeater s_ins s_outs a_order s_ordered a_is a_was s_reading s_isWell a_depths a_ways s_z, caI G a_w 43 g_w] H := hP
  have hD : va_D A [ceX11 h0 a_w a_kept a_laid s_hasImage a_refusals a_row s_rows a_letters s_lettered a_hit a_lead a_defeat a_defeater s_ins s_outs a_order s_ordered a_is a_was s_reading s_isWell a_depths a_ways s_z, caI G a_w 43 g_w] := hD
  refine lv_if_eq (tgt := 16) hx hb dX11_hits_5 (by decide) (fun c => ?_) (fun c => ?_)
  · replace h := h.1 c
    refine lv_iconst (v := nI 0) hx hb dX11_hits_16 kc_0 ?_
    exact W.zret (v := nI 0) hx hb hr rfl (fun t ht hW => ⟨⟨_, (), rfl, h, ⟨by rw [ht]; exact hP, hD⟩⟩, hS.F ht⟩) hS.2.2 dX11_hits_17
  · replace h := h.2 c
    refine lv_aload_n hx hb dX11_hits_8 rfl (lv_at hl 0 rfl) ?_
    refine lv_iload_n hx hb dX11_hits_9 rfl (lv_at hl 2 rfl) ?_
    refine hc_ki (va_runV (As := [.int x2]) (rest := []) ⟨hx, hb, hml, hown, hts⟩ (c_X11_isHeard l G h0 a_w a_kept a_laid a_refusals a_row a_letters a_hit a_lead a_defeat a_defeater a_order a_is a_was a_depths a_ways H.size s_hasImage s_rows s_lettered s_ins s_outs s_ordered s_reading s_isWell s_z g_w x2 _ h) (cwV 1 hts gX11_hits_X11_isHeard rfl rfl rfl (by decide +kernel) ⟨Nat.le_of_ble_eq_true rfl, Nat.le_of_ble_eq_true rfl⟩) (hc_pV hK hP hD [0, 1] rfl rfl (ci := 9) 0 rfl rfl) rfl rfl hl.1 rfl (lv_room (Nat.le_of_ble_eq_true rfl)) dX11_hits_10 ⟨Nat.le_refl _, Nat.le_refl _⟩) hP hD hS hA [0, 1] [] rfl rfl rfl (by decide) (fun r10 u H locs h hP hD hS => ?_)
    try dsimp only at h
    have hP : va_P G.1 vwCl [ceX11 h0 a_w a_kept a_laid s_hasImage a_refusals a_row s_rows a_letters s_lettered a_hit a_lead a_defeat a_defeater s_ins s_outs a_order s_ordered a_is a_was s_reading s_isWell a_depths a_ways s_z, caI G a_w 43 g_w] H := hP
    have hD : va_D A [ceX11 h0 a_w a_kept a_laid s_hasImage a_refusals a_row s_rows a_letters s_lettered a_hit a_lead a_defeat a_defeater s_ins s_outs a_order s_ordered a_is a_was s_reading s_isWell a_depths a_ways s_z, caI G a_w 43 g_w] := hD
    refine lv_if_ne (tgt := 18) hx hb dX11_hits_13 (by decide) (fun c => ?_) (fun c => ?_)
    · replace h := h.1 c
      refine lv_iload_n hx hb dX11_hits_18 rfl (lv_at hl 1 rfl) ?_
      refine lv_iload_n hx hb dX11_hits_19 rfl (lv_at hl 2 rfl) ?_
      refine lv_icmp_ne (tgt := 43) hx hb dX11_hits_20 (by decide) (fun c => ?_) (fun c => ?_)
      · replace h := h.1 c
        refine lv_aload_n hx hb dX11_hits_43 rfl (lv_at hl 0 rfl) ?_
        refine va_get (D := G.1) (ci := 9) (v := .ref a_w) (C := RX11) (T := TX11) (N := 24) hx hb hts ki_X11 hown hK.1 hP 0 rfl rfl 0 (by decide) kf0 (fun _ h9 => h9) rfl dX11_hits_44 ?_
        refine lv_bipush (v := nI 24) hx hb dX11_hits_47 kb_24 ?_
        refine lv_iload_n hx hb dX11_hits_49 rfl (lv_at hl 1 rfl) ?_
        refine lv_iadd hx hb dX11_hits_50 ?_
        have hin := h.1
        replace h := h.2
        refine va_iald hx hb hK.1 hP 1 0 rfl rfl hin dX11_hits_51 ?_
        refine lv_iload_n hx hb dX11_hits_52 rfl (lv_at hl 2 rfl) ?_
        refine hc_ki (va_runS (As := [.int (g_w ((nI 24) + x1).toNatClampNeg), .int x2]) (rest := []) ⟨hx, hb, hml, hown, hts⟩ (c_X11_has l G H.size (g_w ((nI 24) + x1).toNatClampNeg) x2 _ h) (va_cwS 2 hts gX11_hits_X11_has rfl rfl rfl (by decide +kernel) ⟨Nat.le_of_ble_eq_true rfl, Nat.le_of_ble_eq_true rfl⟩) (hc_pS hK hP hD [] rfl rfl) rfl rfl hl.1 rfl (lv_room (Nat.le_of_ble_eq_true rfl)) dX11_hits_53 ⟨Nat.le_refl _, Nat.le_refl _⟩) hP hD hS hA [] [0, 1] rfl rfl rfl (by decide) (fun r53 u H locs h hP hD hS => ?_)
        try dsimp only at h
        have hP : va_P G.1 vwCl [ceX11 h0 a_w a_kept a_laid s_hasImage a_refusals a_row s_rows a_letters s_lettered a_hit a_lead a_defeat a_defeater s_ins s_outs a_order s_ordered a_is a_was s_reading s_isWell a_depths a_ways s_z, caI G a_w 43 g_w] H := hP
        have hD : va_D A [ceX11 h0 a_w a_kept a_laid s_hasImage a_refusals a_row s_rows a_letters s_lettered a_hit a_lead a_defeat a_defeater s_ins s_outs a_order s_ordered a_is a_was s_reading s_isWell a_depths a_ways s_z, caI G a_w 43 g_w] := hD
        refine lv_if_eq (tgt := 72) hx hb dX11_hits_56 (by decide) (fun c => ?_) (fun c => ?_)
        · replace h := h.1 c
          refine lv_iconst (v := nI 0) hx hb dX11_hits_72 kc_0 ?_
          exact W.zret (v := nI 0) hx hb hr rfl (fun t ht hW => ⟨⟨_, (), rfl, h, ⟨by rw [ht]; exact hP, hD⟩⟩, hS.F ht⟩) hS.2.2 dX11_hits_73
        · replace h := h.2 c
          refine lv_aload_n hx hb dX11_hits_59 rfl (lv_at hl 0 rfl) ?_
          refine lv_iload_n hx hb dX11_hits_60 rfl (lv_at hl 1 rfl) ?_
          refine lv_iload_n hx hb dX11_hits_61 rfl (lv_at hl 2 rfl) ?_
          refine hc_ki (va_runV (As := [.int x1, .int x2]) (rest := []) ⟨hx, hb, hml, hown, hts⟩ (c_X11_lets l G h0 a_w a_kept a_laid a_refusals a_row a_letters a_hit a_lead a_defeat a_defeater a_order a_is a_was a_depths a_ways H.size s_hasImage s_rows s_lettered s_ins s_outs s_ordered s_reading s_isWell s_z g_w x1 x2 _ h) (cwV 2 hts gX11_hits_X11_lets rfl rfl rfl (by decide +kernel) ⟨Nat.le_of_ble_eq_true rfl, Nat.le_of_ble_eq_true rfl⟩) (hc_pV hK hP hD [0, 1] rfl rfl (ci := 9) 0 rfl rfl) rfl rfl hl.1 rfl (lv_room (Nat.le_of_ble_eq_true rfl)) dX11_hits_62 ⟨Nat.le_refl _, Nat.le_refl _⟩) hP hD hS hA [0, 1] [] rfl rfl rfl (by decide) (fun r62 u H locs h hP hD hS => ?_)
          try dsimp only at h
          have hP : va_P G.1 vwCl [ceX11 h0 a_w a_kept a_laid s_hasImage a_refusals a_row s_rows a_letters s_lettered a_hit a_lead a_defeat a_defeater s_ins s_outs a_order s_ordered a_is a_was s_reading s_isWell a_depths a_ways s_z, caI G a_w 43 g_w] H := hP
          have hD : va_D A [ceX11 h0 a_w a_kept a_laid s_hasImage a_refusals a_row s_rows a_letters s_lettered a_hit a_lead a_defeat a_defeater s_ins s_outs a_order s_ordered a_is a_was s_reading s_isWell a_depths a_ways s_z, caI G a_w 43 g_w] := hD
          refine lv_if_eq (tgt := 72) hx hb dX11_hits_65 (by decide) (fun c => ?_) (fun c => ?_)
          · replace h := h.1 c
            refine lv_iconst (v := nI 0) hx hb dX11_hits_72 kc_0 ?_
            exact W.zret (v := nI 0) hx hb hr rfl (fun t ht hW => ⟨⟨_, (), rfl, h, ⟨by rw [ht]; exact hP, hD⟩⟩, hS.F ht⟩) hS.2.2 dX11_hits_73
          · replace h := h.2 c
            refine lv_iconst (v := nI 1) hx hb dX11_hits_68 kc_1 ?_
            refine lv_goto (tgt := 73) hx hb dX11_hits_69 (by decide) ?_
            exact W.zret (v := nI 1) hx hb hr rfl (fun t ht hW => ⟨⟨_, (), rfl, h, ⟨by rw [ht]; exact hP, hD⟩⟩, hS.F ht⟩) hS.2.2 dX11_hits_73
      · replace h := h.2 c
        refine lv_aload_n hx hb dX11_hits_23 rfl (lv_at hl 0 rfl) ?_
        refine va_get (D := G.1) (ci := 9) (v := .ref a_w) (C := RX11) (T := TX11) (N := 24) hx hb hts ki_X11 hown hK.1 hP 0 rfl rfl 0 (by decide) kf0 (fun _ h9 => h9) rfl dX11_hits_24 ?_
        refine lv_iconst (v := nI 0) hx hb dX11_hits_27 kc_0 ?_
        refine lv_iload_n hx hb dX11_hits_28 rfl (lv_at hl 1 rfl) ?_
        refine lv_iadd hx hb dX11_hits_29 ?_
        have hin := h.1
        replace h := h.2
        refine va_iald hx hb hK.1 hP 1 0 rfl rfl hin dX11_hits_30 ?_
        refine lv_iconst (v := nI 4) hx hb dX11_hits_31 kc_4 ?_
        refine lv_icmp_ne (tgt := 39) hx hb dX11_hits_32 (by decide) (fun c => ?_) (fun c => ?_)
        · replace h := h.1 c
          refine lv_iconst (v := nI 0) hx hb dX11_hits_39 kc_0 ?_
          refine lv_goto (tgt := 73) hx hb dX11_hits_40 (by decide) ?_
          exact W.zret (v := nI 0) hx hb hr rfl (fun t ht hW => ⟨⟨_, (), rfl, h, ⟨by rw [ht]; exact hP, hD⟩⟩, hS.F ht⟩) hS.2.2 dX11_hits_73
        · replace h := h.2 c
          refine lv_iconst (v := nI 1) hx hb dX11_hits_35 kc_1 ?_
          refine lv_goto (tgt := 73) hx hb dX11_hits_36 (by decide) ?_
          exact W.zret (v := nI 1) hx hb hr rfl (fun t ht hW => ⟨⟨_, (), rfl, h, ⟨by rw [ht]; exact hP, hD⟩⟩, hS.F ht⟩) hS.2.2 dX11_hits_73
    · replace h := h.2 c
      refine lv_iconst (v := nI 0) hx hb dX11_hits_16 kc_0 ?_
      exact W.zret (v := nI 0) hx hb hr rfl (fun t ht hW => ⟨⟨_, (), rfl, h, ⟨by rw [ht]; exact hP, hD⟩⟩, hS.F ht⟩) hS.2.2 dX11_hits_17
