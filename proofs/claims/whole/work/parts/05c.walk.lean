set_option maxHeartbeats 4000000 in
set_option maxRecDepth 100000 in
theorem c_X6_add (l : Launch) (G : hcG) (h0 : Nat) (a_numbers : Nat) (sz : Nat) (n_numbers : Nat) (s_length : Int32) (g_numbers : Nat → Int32) (x1 : Int32) (post : Int32 → (Nat → Int32) → Int32 → Prop) (h : wp_X6_add post n_numbers g_numbers s_length x1) : Met l yX6_add wsX6_add ({ frames := 0, cells := 0, slots := 0, locals := 0 }) (hcPc G [.ref h0, .int x1] [ceX6 h0 a_numbers s_length, caI G a_numbers n_numbers g_numbers] sz) (va_Qi (fun (r : Int32) (u : (Nat → Int32) × Int32) => post r u.1 u.2) (hcB G (va_A [ceX6 h0 a_numbers s_length, caI G a_numbers n_numbers g_numbers] sz) (fun u : (Nat → Int32) × Int32 => [ceX6 h0 a_numbers u.2, caI G a_numbers n_numbers u.1])) (va_A [ceX6 h0 a_numbers s_length, caI G a_numbers n_numbers g_numbers] sz)) 0 0 (va_A [ceX6 h0 a_numbers s_length, caI G a_numbers n_numbers g_numbers] sz) := by
  refine Met.ofW (cc := cX6_add) (maxL := 2) (ret := (some .int)) (by decide) rfl ?_
  intro p e s m args below meth c s₁ B hml hv
  obtain ⟨rfl, hsz, hP, hK, hD0⟩ := hv
  have hx := B.exec
  have hb := B.bytes
  have hr := B.returns
  have hts := atoms_spec (ws := wsX6_add) B.pre
  have hown : s.vm.findClass RX6 = some m.cls := findClass_of_methodNamed B.named
  have hlocks := B.notSynchronized
  subst hsz
  have hD := hD0.self (sz := s.heap.size)
  generalize hAe : va_A [ceX6 h0 a_numbers s_length, caI G a_numbers n_numbers g_numbers] s.heap.size = A at hD ⊢
  have hA : ∀ q : Nat, s.heap.size ≤ q → A q := fun q h => by rw [← hAe]; exact Or.inr h
  have hS : va_S A s.heap s.heap [] := va_S.rf
  have hP : va_P G.1 vwCl [ceX6 h0 a_numbers s_length, caI G a_numbers n_numbers g_numbers] s.heap := hP
  have hl := lv_entry ([.ref h0, .int x1]) (n := 2) (Nat.le_of_ble_eq_true rfl)
  rw [lg_entry_eq]
  generalize (lg_sl ([.ref h0, .int x1]) ++ List.replicate (2 - (lg_sl ([.ref h0, .int x1])).length) Slot.unset).toArray = ls at hl ⊢
  have hl : lv_has ls 2 [(0, .ref h0), (1, .int x1)] := hl
  have kf0 := hts (.fieldLink RX6 7 "HallOfClaims$Row" "length" "I") (List.mem_of_getElem? (i := 1) (by decide +kernel))
  have kf1 := hts (.fieldLink RX6 19 "HallOfClaims$Row" "numbers" "[I") (List.mem_of_getElem? (i := 2) (by decide +kernel))
  have ki_X6 : ∀ w ∈ u_ws RX6 TX6 2, w ∈ wsX6_add := by decide +kernel
  unfold wp_X6_add at h
  refine lv_aload_n hx hb dX6_add_0 rfl (lv_at hl 0 rfl) ?_
  refine va_get (D := G.1) (ci := 4) (v := .int s_length) (C := RX6) (T := TX6) (N := 2) hx hb hts ki_X6 hown hK.1 hP 0 rfl rfl 1 (by decide) kf0 (fun _ h9 => h9) rfl dX6_add_1 ?_
  refine lv_if_lt (tgt := 39) hx hb dX6_add_4 (by decide) (fun c => ?_) (fun c => ?_)
  · replace h := h.1 c
    refine lv_aload_n hx hb dX6_add_39 rfl (lv_at hl 0 rfl) ?_
    refine va_get (D := G.1) (ci := 4) (v := .int s_length) (C := RX6) (T := TX6) (N := 2) hx hb hts ki_X6 hown hK.1 hP 0 rfl rfl 1 (by decide) kf0 (fun _ h9 => h9) rfl dX6_add_40 ?_
    exact W.iret (v := s_length) hx hb hr (fun t ht hW => ⟨⟨_, ⟨g_numbers, s_length⟩, rfl, h, ⟨by rw [ht]; exact hP, hD⟩⟩, hS.F ht⟩) hS.2.2 dX6_add_43
  · replace h := h.2 c
    refine lv_aload_n hx hb dX6_add_7 rfl (lv_at hl 0 rfl) ?_
    refine va_get (D := G.1) (ci := 4) (v := .int s_length) (C := RX6) (T := TX6) (N := 2) hx hb hts ki_X6 hown hK.1 hP 0 rfl rfl 1 (by decide) kf0 (fun _ h9 => h9) rfl dX6_add_8 ?_
    refine lv_aload_n hx hb dX6_add_11 rfl (lv_at hl 0 rfl) ?_
    refine va_get (D := G.1) (ci := 4) (v := .ref a_numbers) (C := RX6) (T := TX6) (N := 2) hx hb hts ki_X6 hown hK.1 hP 0 rfl rfl 0 (by decide) kf1 (fun _ h9 => h9) rfl dX6_add_12 ?_
    refine va_alen hx hb hK.1 hP 1 0 rfl rfl (v := nI n_numbers) rfl dX6_add_15 ?_
    refine lv_icmp_ge (tgt := 39) hx hb dX6_add_16 (by decide) (fun c => ?_) (fun c => ?_)
    · replace h := h.1 c
      refine lv_aload_n hx hb dX6_add_39 rfl (lv_at hl 0 rfl) ?_
      refine va_get (D := G.1) (ci := 4) (v := .int s_length) (C := RX6) (T := TX6) (N := 2) hx hb hts ki_X6 hown hK.1 hP 0 rfl rfl 1 (by decide) kf0 (fun _ h9 => h9) rfl dX6_add_40 ?_
      exact W.iret (v := s_length) hx hb hr (fun t ht hW => ⟨⟨_, ⟨g_numbers, s_length⟩, rfl, h, ⟨by rw [ht]; exact hP, hD⟩⟩, hS.F ht⟩) hS.2.2 dX6_add_43
    · replace h := h.2 c
      refine lv_aload_n hx hb dX6_add_19 rfl (lv_at hl 0 rfl) ?_
      refine va_get (D := G.1) (ci := 4) (v := .ref a_numbers) (C := RX6) (T := TX6) (N := 2) hx hb hts ki_X6 hown hK.1 hP 0 rfl rfl 0 (by decide) kf1 (fun _ h9 => h9) rfl dX6_add_20 ?_
      refine lv_aload_n hx hb dX6_add_23 rfl (lv_at hl 0 rfl) ?_
      refine va_get (D := G.1) (ci := 4) (v := .int s_length) (C := RX6) (T := TX6) (N := 2) hx hb hts ki_X6 hown hK.1 hP 0 rfl rfl 1 (by decide) kf0 (fun _ h9 => h9) rfl dX6_add_24 ?_
      refine lv_iload_n hx hb dX6_add_27 rfl (lv_at hl 1 rfl) ?_
      have hin := h.1
      replace h := h.2
      refine va_iast hx hb hK.1 hP hD hS 1 0 rfl rfl hin dX6_add_28 (fun H locs hP hD hS => ?_)
      have hP : va_P G.1 vwCl [ceX6 h0 a_numbers s_length, caI G a_numbers n_numbers (upd g_numbers s_length.toNatClampNeg x1)] H := hP
      have hD : va_D A [ceX6 h0 a_numbers s_length, caI G a_numbers n_numbers (upd g_numbers s_length.toNatClampNeg x1)] := hD
      refine lv_aload_n hx hb dX6_add_29 rfl (lv_at hl 0 rfl) ?_
      refine lv_dup hx hb dX6_add_30 rfl ?_
      refine va_get (D := G.1) (ci := 4) (v := .int s_length) (C := RX6) (T := TX6) (N := 2) hx hb hts ki_X6 hown hK.1 hP 0 rfl rfl 1 (by decide) kf0 (fun _ h9 => h9) rfl dX6_add_31 ?_
      refine lv_iconst (v := nI 1) hx hb dX6_add_34 kc_1 ?_
      refine lv_iadd hx hb dX6_add_35 ?_
      refine va_put (D := G.1) (ci := 4) (v := .int (s_length + (nI 1))) (ty := .int) (C := RX6) (T := TX6) (N := 2) hx hb hts ki_X6 tyX6 tyX6_ok nmX6 hown hK.1 hP hD hS 0 rfl rfl 1 (by decide) kf0 (fun _ h9 => h9) rfl (by decide +kernel) rfl rfl (Nat.le_of_ble_eq_true rfl) dX6_add_36 (fun H locs hP hD hS => ?_)
      have hP : va_P G.1 vwCl [ceX6 h0 a_numbers (s_length + (nI 1)), caI G a_numbers n_numbers (upd g_numbers s_length.toNatClampNeg x1)] H := hP
      have hD : va_D A [ceX6 h0 a_numbers (s_length + (nI 1)), caI G a_numbers n_numbers (upd g_numbers s_length.toNatClampNeg x1)] := hD
      refine lv_aload_n hx hb dX6_add_39 rfl (lv_at hl 0 rfl) ?_
      refine va_get (D := G.1) (ci := 4) (v := .int (s_length + (nI 1))) (C := RX6) (T := TX6) (N := 2) hx hb hts ki_X6 hown hK.1 hP 0 rfl rfl 1 (by decide) kf0 (fun _ h9 => h9) rfl dX6_add_40 ?_
      exact W.iret (v := s_length + (nI 1)) hx hb hr (fun t ht hW => ⟨⟨_, ⟨(upd g_numbers s_length.toNatClampNeg x1), (s_length + (nI 1))⟩, rfl, h, ⟨by rw [ht]; exact hP, hD⟩⟩, hS.F ht⟩) hS.2.2 dX6_add_43
set_option maxHeartbeats 4000000 in
set_option maxRecDepth 100000 in
theorem c_X7_isMarked (l : Launch) (G : hcG) (h0 : Nat) (a_chosen : Nat) (a_marked : Nat) (a_surpassed : Nat) (sz : Nat) (s_heard : Int32) (s_defeats : Int64) (s_defeaters : Int64) (g_marked : Nat → Int32) (x1 : Int32) (post : Int32 → Prop) (h : wp_X7_isMarked post g_marked x1) : Met l yX7_isMarked wsX7_isMarked ({ frames := 0, cells := 0, slots := 0, locals := 0 }) (hcPc G [.ref h0, .int x1] [ceX7 h0 a_chosen a_marked a_surpassed s_heard s_defeats s_defeaters, caZ G a_marked 256 g_marked] sz) (va_Qi (fun (r : Int32) (u : Unit) => post r) (hcB G (va_A [ceX7 h0 a_chosen a_marked a_surpassed s_heard s_defeats s_defeaters, caZ G a_marked 256 g_marked] sz) (fun u : Unit => [ceX7 h0 a_chosen a_marked a_surpassed s_heard s_defeats s_defeaters, caZ G a_marked 256 g_marked])) (va_A [ceX7 h0 a_chosen a_marked a_surpassed s_heard s_defeats s_defeaters, caZ G a_marked 256 g_marked] sz)) 0 0 (va_A [ceX7 h0 a_chosen a_marked a_surpassed s_heard s_defeats s_defeaters, caZ G a_marked 256 g_marked] sz) := by
  refine Met.ofW (cc := cX7_isMarked) (maxL := 2) (ret := (some .boolean)) (by decide) rfl ?_
  intro p e s m args below meth c s₁ B hml hv
  obtain ⟨rfl, hsz, hP, hK, hD0⟩ := hv
  have hx := B.exec
  have hb := B.bytes
  have hr := B.returns
  have hts := atoms_spec (ws := wsX7_isMarked) B.pre
  have hown : s.vm.findClass RX7 = some m.cls := findClass_of_methodNamed B.named
  have hlocks := B.notSynchronized
  subst hsz
  have hD := hD0.self (sz := s.heap.size)
  generalize hAe : va_A [ceX7 h0 a_chosen a_marked a_surpassed s_heard s_defeats s_defeaters, caZ G a_marked 256 g_marked] s.heap.size = A at hD ⊢
  have hA : ∀ q : Nat, s.heap.size ≤ q → A q := fun q h => by rw [← hAe]; exact Or.inr h
  have hS : va_S A s.heap s.heap [] := va_S.rf
  have hP : va_P G.1 vwCl [ceX7 h0 a_chosen a_marked a_surpassed s_heard s_defeats s_defeaters, caZ G a_marked 256 g_marked] s.heap := hP
  have hl := lv_entry ([.ref h0, .int x1]) (n := 2) (Nat.le_of_ble_eq_true rfl)
  rw [lg_entry_eq]
  generalize (lg_sl ([.ref h0, .int x1]) ++ List.replicate (2 - (lg_sl ([.ref h0, .int x1])).length) Slot.unset).toArray = ls at hl ⊢
  have hl : lv_has ls 2 [(0, .ref h0), (1, .int x1)] := hl
  have kf0 := hts (.fieldLink RX7 15 "HallOfClaims$Sorts" "marked" "[Z") (List.mem_of_getElem? (i := 1) (by decide +kernel))
  have ki_X7 : ∀ w ∈ u_ws RX7 TX7 6, w ∈ wsX7_isMarked := by decide +kernel
  unfold wp_X7_isMarked at h
  refine lv_iload_n hx hb dX7_isMarked_0 rfl (lv_at hl 1 rfl) ?_
  refine lv_if_lt (tgt := 26) hx hb dX7_isMarked_1 (by decide) (fun c => ?_) (fun c => ?_)
  · replace h := h.1 c
    refine lv_iconst (v := nI 0) hx hb dX7_isMarked_26 kc_0 ?_
    exact W.zret (v := nI 0) hx hb hr rfl (fun t ht hW => ⟨⟨_, (), rfl, h, ⟨by rw [ht]; exact hP, hD⟩⟩, hS.F ht⟩) hS.2.2 dX7_isMarked_27
  · replace h := h.2 c
    refine lv_iload_n hx hb dX7_isMarked_4 rfl (lv_at hl 1 rfl) ?_
    refine lv_aload_n hx hb dX7_isMarked_5 rfl (lv_at hl 0 rfl) ?_
    refine va_get (D := G.1) (ci := 5) (v := .ref a_marked) (C := RX7) (T := TX7) (N := 6) hx hb hts ki_X7 hown hK.1 hP 0 rfl rfl 1 (by decide) kf0 (fun _ h9 => h9) rfl dX7_isMarked_6 ?_
    refine va_alen hx hb hK.1 hP 1 2 rfl rfl (v := nI 256) rfl dX7_isMarked_9 ?_
    refine lv_icmp_ge (tgt := 26) hx hb dX7_isMarked_10 (by decide) (fun c => ?_) (fun c => ?_)
    · replace h := h.1 c
      refine lv_iconst (v := nI 0) hx hb dX7_isMarked_26 kc_0 ?_
      exact W.zret (v := nI 0) hx hb hr rfl (fun t ht hW => ⟨⟨_, (), rfl, h, ⟨by rw [ht]; exact hP, hD⟩⟩, hS.F ht⟩) hS.2.2 dX7_isMarked_27
    · replace h := h.2 c
      refine lv_aload_n hx hb dX7_isMarked_13 rfl (lv_at hl 0 rfl) ?_
      refine va_get (D := G.1) (ci := 5) (v := .ref a_marked) (C := RX7) (T := TX7) (N := 6) hx hb hts ki_X7 hown hK.1 hP 0 rfl rfl 1 (by decide) kf0 (fun _ h9 => h9) rfl dX7_isMarked_14 ?_
      refine lv_iload_n hx hb dX7_isMarked_17 rfl (lv_at hl 1 rfl) ?_
      have hin := h.1
      replace h := h.2
      refine va_zald hx hb hK.1 hP 1 2 rfl rfl hin dX7_isMarked_18 ?_
      refine lv_if_eq (tgt := 26) hx hb dX7_isMarked_19 (by decide) (fun c => ?_) (fun c => ?_)
      · replace h := h.1 c
        refine lv_iconst (v := nI 0) hx hb dX7_isMarked_26 kc_0 ?_
        exact W.zret (v := nI 0) hx hb hr rfl (fun t ht hW => ⟨⟨_, (), rfl, h, ⟨by rw [ht]; exact hP, hD⟩⟩, hS.F ht⟩) hS.2.2 dX7_isMarked_27
      · replace h := h.2 c
        refine lv_iconst (v := nI 1) hx hb dX7_isMarked_22 kc_1 ?_
        refine lv_goto (tgt := 27) hx hb dX7_isMarked_23 (by decide) ?_
        exact W.zret (v := nI 1) hx hb hr rfl (fun t ht hW => ⟨⟨_, (), rfl, h, ⟨by rw [ht]; exact hP, hD⟩⟩, hS.F ht⟩) hS.2.2 dX7_isMarked_27
set_option maxHeartbeats 4000000 in
set_option maxRecDepth 100000 in
theorem c_X7_isSurpassed (l : Launch) (G : hcG) (h0 : Nat) (a_chosen : Nat) (a_marked : Nat) (a_surpassed : Nat) (sz : Nat) (s_heard : Int32) (s_defeats : Int64) (s_defeaters : Int64) (g_surpassed : Nat → Int32) (x1 : Int32) (post : Int32 → Prop) (h : wp_X7_isSurpassed post g_surpassed x1) : Met l yX7_isSurpassed wsX7_isSurpassed ({ frames := 0, cells := 0, slots := 0, locals := 0 }) (hcPc G [.ref h0, .int x1] [ceX7 h0 a_chosen a_marked a_surpassed s_heard s_defeats s_defeaters, caZ G a_surpassed 256 g_surpassed] sz) (va_Qi (fun (r : Int32) (u : Unit) => post r) (hcB G (va_A [ceX7 h0 a_chosen a_marked a_surpassed s_heard s_defeats s_defeaters, caZ G a_surpassed 256 g_surpassed] sz) (fun u : Unit => [ceX7 h0 a_chosen a_marked a_surpassed s_heard s_defeats s_defeaters, caZ G a_surpassed 256 g_surpassed])) (va_A [ceX7 h0 a_chosen a_marked a_surpassed s_heard s_defeats s_defeaters, caZ G a_surpassed 256 g_surpassed] sz)) 0 0 (va_A [ceX7 h0 a_chosen a_marked a_surpassed s_heard s_defeats s_defeaters, caZ G a_surpassed 256 g_surpassed] sz) := by
  refine Met.ofW (cc := cX7_isSurpassed) (maxL := 2) (ret := (some .boolean)) (by decide) rfl ?_
  intro p e s m args below meth c s₁ B hml hv
  obtain ⟨rfl, hsz, hP, hK, hD0⟩ := hv
  have hx := B.exec
  have hb := B.bytes
  have hr := B.returns
  have hts := atoms_spec (ws := wsX7_isSurpassed) B.pre
  have hown : s.vm.findClass RX7 = some m.cls := findClass_of_methodNamed B.named
  have hlocks := B.notSynchronized
  subst hsz
  have hD := hD0.self (sz := s.heap.size)
  generalize hAe : va_A [ceX7 h0 a_chosen a_marked a_surpassed s_heard s_defeats s_defeaters, caZ G a_surpassed 256 g_surpassed] s.heap.size = A at hD ⊢
  have hA : ∀ q : Nat, s.heap.size ≤ q → A q := fun q h => by rw [← hAe]; exact Or.inr h
  have hS : va_S A s.heap s.heap [] := va_S.rf
  have hP : va_P G.1 vwCl [ceX7 h0 a_chosen a_marked a_surpassed s_heard s_defeats s_defeaters, caZ G a_surpassed 256 g_surpassed] s.heap := hP
  have hl := lv_entry ([.ref h0, .int x1]) (n := 2) (Nat.le_of_ble_eq_true rfl)
  rw [lg_entry_eq]
  generalize (lg_sl ([.ref h0, .int x1]) ++ List.replicate (2 - (lg_sl ([.ref h0, .int x1])).length) Slot.unset).toArray = ls at hl ⊢
  have hl : lv_has ls 2 [(0, .ref h0), (1, .int x1)] := hl
  have kf0 := hts (.fieldLink RX7 18 "HallOfClaims$Sorts" "surpassed" "[Z") (List.mem_of_getElem? (i := 1) (by decide +kernel))
  have ki_X7 : ∀ w ∈ u_ws RX7 TX7 6, w ∈ wsX7_isSurpassed := by decide +kernel
  unfold wp_X7_isSurpassed at h
  refine lv_iload_n hx hb dX7_isSurpassed_0 rfl (lv_at hl 1 rfl) ?_
  refine lv_if_lt (tgt := 26) hx hb dX7_isSurpassed_1 (by decide) (fun c => ?_) (fun c => ?_)
  · replace h := h.1 c
    refine lv_iconst (v := nI 0) hx hb dX7_isSurpassed_26 kc_0 ?_
    exact W.zret (v := nI 0) hx hb hr rfl (fun t ht hW => ⟨⟨_, (), rfl, h, ⟨by rw [ht]; exact hP, hD⟩⟩, hS.F ht⟩) hS.2.2 dX7_isSurpassed_27
  · replace h := h.2 c
    refine lv_iload_n hx hb dX7_isSurpassed_4 rfl (lv_at hl 1 rfl) ?_
    refine lv_aload_n hx hb dX7_isSurpassed_5 rfl (lv_at hl 0 rfl) ?_
    refine va_get (D := G.1) (ci := 5) (v := .ref a_surpassed) (C := RX7) (T := TX7) (N := 6) hx hb hts ki_X7 hown hK.1 hP 0 rfl rfl 2 (by decide) kf0 (fun _ h9 => h9) rfl dX7_isSurpassed_6 ?_
    refine va_alen hx hb hK.1 hP 1 2 rfl rfl (v := nI 256) rfl dX7_isSurpassed_9 ?_
    refine lv_icmp_ge (tgt := 26) hx hb dX7_isSurpassed_10 (by decide) (fun c => ?_) (fun c => ?_)
    · replace h := h.1 c
      refine lv_iconst (v := nI 0) hx hb dX7_isSurpassed_26 kc_0 ?_
      exact W.zret (v := nI 0) hx hb hr rfl (fun t ht hW => ⟨⟨_, (), rfl, h, ⟨by rw [ht]; exact hP, hD⟩⟩, hS.F ht⟩) hS.2.2 dX7_isSurpassed_27
    · replace h := h.2 c
      refine lv_aload_n hx hb dX7_isSurpassed_13 rfl (lv_at hl 0 rfl) ?_
      refine va_get (D := G.1) (ci := 5) (v := .ref a_surpassed) (C := RX7) (T := TX7) (N := 6) hx hb hts ki_X7 hown hK.1 hP 0 rfl rfl 2 (by decide) kf0 (fun _ h9 => h9) rfl dX7_isSurpassed_14 ?_
      refine lv_iload_n hx hb dX7_isSurpassed_17 rfl (lv_at hl 1 rfl) ?_
      have hin := h.1
      replace h := h.2
      refine va_zald hx hb hK.1 hP 1 2 rfl rfl hin dX7_isSurpassed_18 ?_
      refine lv_if_eq (tgt := 26) hx hb dX7_isSurpassed_19 (by decide) (fun c => ?_) (fun c => ?_)
      · replace h := h.1 c
        refine lv_iconst (v := nI 0) hx hb dX7_isSurpassed_26 kc_0 ?_
        exact W.zret (v := nI 0) hx hb hr rfl (fun t ht hW => ⟨⟨_, (), rfl, h, ⟨by rw [ht]; exact hP, hD⟩⟩, hS.F ht⟩) hS.2.2 dX7_isSurpassed_27
      · replace h := h.2 c
        refine lv_iconst (v := nI 1) hx hb dX7_isSurpassed_22 kc_1 ?_
        refine lv_goto (tgt := 27) hx hb dX7_isSurpassed_23 (by decide) ?_
        exact W.zret (v := nI 1) hx hb hr rfl (fun t ht hW => ⟨⟨_, (), rfl, h, ⟨by rw [ht]; exact hP, hD⟩⟩, hS.F ht⟩) hS.2.2 dX7_isSurpassed_27
set_option maxHeartbeats 4000000 in
set_option maxRecDepth 100000 in
theorem c_X7_findSurpassed (l : Launch) (G : hcG) (h0 : Nat) (a_chosen : Nat) (a_marked : Nat) (a_surpassed : Nat) (sz : Nat) (s_heard : Int32) (s_defeats : Int64) (s_defeaters : Int64) (g_marked : Nat → Int32) (g_surpassed : Nat → Int32) (post : (Nat → Int32) → Prop) (h : wp_X7_findSurpassed post g_marked g_surpassed) : Met l yX7_findSurpassed wsX7_findSurpassed ({ frames := 1, cells := 0, slots := 0, locals := 21 }) (hcPc G [.ref h0] [ceX7 h0 a_chosen a_marked a_surpassed s_heard s_defeats s_defeaters, caZ G a_marked 256 g_marked, caZ G a_surpassed 256 g_surpassed] sz) (va_Qv (fun u : (Nat → Int32) => post u) (hcB G (va_A [ceX7 h0 a_chosen a_marked a_surpassed s_heard s_defeats s_defeaters, caZ G a_marked 256 g_marked, caZ G a_surpassed 256 g_surpassed] sz) (fun u : (Nat → Int32) => [ceX7 h0 a_chosen a_marked a_surpassed s_heard s_defeats s_defeaters, caZ G a_marked 256 g_marked, caZ G a_surpassed 256 u])) (va_A [ceX7 h0 a_chosen a_marked a_surpassed s_heard s_defeats s_defeaters, caZ G a_marked 256 g_marked, caZ G a_surpassed 256 g_surpassed] sz)) 0 0 (va_A [ceX7 h0 a_chosen a_marked a_surpassed s_heard s_defeats s_defeaters, caZ G a_marked 256 g_marked, caZ G a_surpassed 256 g_surpassed] sz) := by
  refine Met.ofW (cc := cX7_findSurpassed) (maxL := 5) (ret := none) (by decide) rfl ?_
  intro p e s m args below meth c s₁ B hml hv
  obtain ⟨rfl, hsz, hP, hK, hD0⟩ := hv
  have hx := B.exec
  have hb := B.bytes
  have hr := B.returns
  have hts := atoms_spec (ws := wsX7_findSurpassed) B.pre
  have hown : s.vm.findClass RX7 = some m.cls := findClass_of_methodNamed B.named
  have hlocks := B.notSynchronized
  subst hsz
  have hD := hD0.self (sz := s.heap.size)
  generalize hAe : va_A [ceX7 h0 a_chosen a_marked a_surpassed s_heard s_defeats s_defeaters, caZ G a_marked 256 g_marked, caZ G a_surpassed 256 g_surpassed] s.heap.size = A at hD ⊢
  have hA : ∀ q : Nat, s.heap.size ≤ q → A q := fun q h => by rw [← hAe]; exact Or.inr h
  have hS : va_S A s.heap s.heap [] := va_S.rf
  have hP : va_P G.1 vwCl [ceX7 h0 a_chosen a_marked a_surpassed s_heard s_defeats s_defeaters, caZ G a_marked 256 g_marked, caZ G a_surpassed 256 g_surpassed] s.heap := hP
  have hl := lv_entry ([.ref h0]) (n := 5) (Nat.le_of_ble_eq_true rfl)
  rw [lg_entry_eq]
  generalize (lg_sl ([.ref h0]) ++ List.replicate (5 - (lg_sl ([.ref h0])).length) Slot.unset).toArray = ls at hl ⊢
  have hl : lv_has ls 5 [(0, .ref h0)] := hl
  have kf0 := hts (.fieldLink RX7 18 "HallOfClaims$Sorts" "surpassed" "[Z") (List.mem_of_getElem? (i := 1) (by decide +kernel))
  have ki_X7 : ∀ w ∈ u_ws RX7 TX7 6, w ∈ wsX7_findSurpassed := by decide +kernel
  have w16 : ∀ (K8 : Int32 → (Nat → Int32) → Prop), (∀ (v1 : Int32) (g_surpassed : Nat → Int32) , K8 v1 g_surpassed → ∀ (H : Heap) (locs : List Loc) (ls : Array Slot), va_P G.1 vwCl [ceX7 h0 a_chosen a_marked a_surpassed s_heard s_defeats s_defeaters, caZ G a_marked 256 g_marked, caZ G a_surpassed 256 g_surpassed] H → va_D A [ceX7 h0 a_chosen a_marked a_surpassed s_heard s_defeats s_defeaters, caZ G a_marked 256 g_marked, caZ G a_surpassed 256 g_surpassed] → va_S A s.heap H locs → lv_has ls 5 [(0, .ref h0), (1, .int v1)] → W p l e (headSpec wsX7_findSurpassed ({ frames := 1, cells := 0, slots := 0, locals := 21 })).room s m ([.ref h0] : List Value).toArray below meth c H locs 0 0 (MQ below (va_Qv (fun u : (Nat → Int32) => post u) (hcB G A (fun u : (Nat → Int32) => [ceX7 h0 a_chosen a_marked a_surpassed s_heard s_defeats s_defeaters, caZ G a_marked 256 g_marked, caZ G a_surpassed 256 u])) A) ([.ref h0] : List Value).toArray s 0 0 A) (F0 m 8 ls [])) → ∀ (n : Nat) (v1 : Int32) (v2 : Int32) (v3 : Int32) (g_surpassed : Nat → Int32) , wp_X7_findSurpassed_16 post g_marked K8 n v1 v2 v3 g_surpassed → ∀ (H : Heap) (locs : List Loc) (ls : Array Slot), va_P G.1 vwCl [ceX7 h0 a_chosen a_marked a_surpassed s_heard s_defeats s_defeaters, caZ G a_marked 256 g_marked, caZ G a_surpassed 256 g_surpassed] H → va_D A [ceX7 h0 a_chosen a_marked a_surpassed s_heard s_defeats s_defeaters, caZ G a_marked 256 g_marked, caZ G a_surpassed 256 g_surpassed] → va_S A s.heap H locs → lv_has ls 5 [(0, .ref h0), (1, .int v1), (2, .int v2), (3, .int v3)] → W p l e (headSpec wsX7_findSurpassed ({ frames := 1, cells := 0, slots := 0, locals := 21 })).room s m ([.ref h0] : List Value).toArray below meth c H locs 0 0 (MQ below (va_Qv (fun u : (Nat → Int32) => post u) (hcB G A (fun u : (Nat → Int32) => [ceX7 h0 a_chosen a_marked a_surpassed s_heard s_defeats s_defeaters, caZ G a_marked 256 g_marked, caZ G a_surpassed 256 u])) A) ([.ref h0] : List Value).toArray s 0 0 A) (F0 m 16 ls []) := by
    intro K8 hK8 n
    induction n with
    | zero => intro v1 v2 v3 g_surpassed h; exact h.elim
    | succ n ih =>
      intro v1 v2 v3 g_surpassed h H locs ls hP hD hS hl
      unfold wp_X7_findSurpassed_16 at h
      refine lv_iload_n hx hb dX7_findSurpassed_16 rfl (lv_at hl 3 rfl) ?_
      refine lv_bipush (v := nI 8) hx hb dX7_findSurpassed_17 kb_8 ?_
      refine lv_icmp_ge (tgt := 61) hx hb dX7_findSurpassed_19 (by decide) (fun c => ?_) (fun c => ?_)
      · replace h := h.1 c
        refine lv_aload_n hx hb dX7_findSurpassed_61 rfl (lv_at hl 0 rfl) ?_
        refine va_get (D := G.1) (ci := 5) (v := .ref a_surpassed) (C := RX7) (T := TX7) (N := 6) hx hb hts ki_X7 hown hK.1 hP 0 rfl rfl 2 (by decide) kf0 (fun _ h9 => h9) rfl dX7_findSurpassed_62 ?_
        refine lv_iload_n hx hb dX7_findSurpassed_65 rfl (lv_at hl 1 rfl) ?_
        refine lv_iload_n hx hb dX7_findSurpassed_66 rfl (lv_at hl 2 rfl) ?_
        have hin := h.1
        replace h := h.2
        refine va_zast hx hb hK.1 hP hD hS 2 2 rfl rfl hin dX7_findSurpassed_67 (fun H locs hP hD hS => ?_)
        have hP : va_P G.1 vwCl [ceX7 h0 a_chosen a_marked a_surpassed s_heard s_defeats s_defeaters, caZ G a_marked 256 g_marked, caZ G a_surpassed 256 (upd g_surpassed v1.toNatClampNeg (vp_nar .boolean v2))] H := hP
        have hD : va_D A [ceX7 h0 a_chosen a_marked a_surpassed s_heard s_defeats s_defeaters, caZ G a_marked 256 g_marked, caZ G a_surpassed 256 (upd g_surpassed v1.toNatClampNeg (vp_nar .boolean v2))] := hD
        refine lv_iinc (v := v1 + (-1 : Int32)) (lv' := [(1, .int (v1 + (-1 : Int32))), (0, .ref h0), (2, .int v2), (3, .int v3)]) hx hb dX7_findSurpassed_68 hl (k := 1) rfl (congrArg (fun q => v1 + q) kc_m1) (by decide) rfl (fun ls hl => ?_)
        refine lv_goto (tgt := 8) hx hb dX7_findSurpassed_71 (by decide) ?_
        exact hK8 (v1 + (-1 : Int32)) (upd g_surpassed v1.toNatClampNeg (vp_nar .boolean v2)) h _ _ _ hP hD hS (lv_sub hl [1, 0] rfl)
      · replace h := h.2 c
        refine lv_iload_n hx hb dX7_findSurpassed_22 rfl (lv_at hl 1 rfl) ?_
        refine lv_iconst (v := nI 1) hx hb dX7_findSurpassed_23 kc_1 ?_
        refine lv_iload_n hx hb dX7_findSurpassed_24 rfl (lv_at hl 3 rfl) ?_
        refine lv_ishl hx hb dX7_findSurpassed_25 ?_
        refine lv_ior hx hb dX7_findSurpassed_26 ?_
        refine lv_istore (lv' := [(4, .int (v1 ||| ((nI 1) <<< (v3 &&& 31)))), (0, .ref h0), (1, .int v1), (2, .int v2), (3, .int v3)]) hx hb dX7_findSurpassed_27 hl (by decide) rfl (fun ls hl => ?_)
        refine lv_iload hx hb dX7_findSurpassed_29 (lv_at hl 0 rfl) ?_
        refine lv_iload_n hx hb dX7_findSurpassed_31 rfl (lv_at hl 2 rfl) ?_
        refine lv_icmp_eq (tgt := 55) hx hb dX7_findSurpassed_32 (by decide) (fun c => ?_) (fun c => ?_)
        · replace h := h.1 c
          refine lv_iinc (v := v3 + nI 1) (lv' := [(3, .int (v3 + nI 1)), (4, .int (v1 ||| ((nI 1) <<< (v3 &&& 31)))), (0, .ref h0), (1, .int v1), (2, .int v2)]) hx hb dX7_findSurpassed_55 hl (k := 4) rfl (congrArg (fun q => v3 + q) kc_1) (by decide) rfl (fun ls hl => ?_)
          refine lv_goto (tgt := 16) hx hb dX7_findSurpassed_58 (by decide) ?_
          exact ih v1 v2 (v3 + nI 1) g_surpassed h _ _ _ hP hD hS (lv_sub hl [2, 3, 4, 0] rfl)
        · replace h := h.2 c
          refine lv_aload_n hx hb dX7_findSurpassed_35 rfl (lv_at hl 1 rfl) ?_
          refine lv_iload hx hb dX7_findSurpassed_36 (lv_at hl 0 rfl) ?_
          refine hc_ki (wr := [caZ G a_surpassed 256 g_surpassed]) (va_runV (As := [.int (v1 ||| ((nI 1) <<< (v3 &&& 31)))]) (rest := []) ⟨hx, hb, hml, hown, hts⟩ (c_X7_isMarked l G h0 a_chosen a_marked a_surpassed H.size s_heard s_defeats s_defeaters g_marked (v1 ||| ((nI 1) <<< (v3 &&& 31))) _ h) (cwV 1 hts gX7_findSurpassed_X7_isMarked rfl rfl rfl (by decide +kernel) ⟨Nat.le_of_ble_eq_true rfl, Nat.le_of_ble_eq_true rfl⟩) (hc_pV hK hP hD [0, 1] rfl rfl (ci := 5) 0 rfl rfl) rfl rfl hl.1 rfl (lv_room (Nat.le_of_ble_eq_true rfl)) dX7_findSurpassed_38 ⟨Nat.le_refl _, Nat.le_refl _⟩) hP hD hS hA [0, 1] [2] rfl rfl rfl (by decide) (fun r38 u H locs h hP hD hS => ?_)
          try dsimp only at h
          have hP : va_P G.1 vwCl [caZ G a_surpassed 256 g_surpassed, ceX7 h0 a_chosen a_marked a_surpassed s_heard s_defeats s_defeaters, caZ G a_marked 256 g_marked] H := hP
          have hD : va_D A [caZ G a_surpassed 256 g_surpassed, ceX7 h0 a_chosen a_marked a_surpassed s_heard s_defeats s_defeaters, caZ G a_marked 256 g_marked] := hD
          refine lv_if_ne (tgt := 53) hx hb dX7_findSurpassed_41 (by decide) (fun c => ?_) (fun c => ?_)
          · replace h := h.1 c
            refine lv_iconst (v := nI 1) hx hb dX7_findSurpassed_53 kc_1 ?_
            refine lv_istore_n (lv' := [(2, .int (nI 1)), (4, .int (v1 ||| ((nI 1) <<< (v3 &&& 31)))), (0, .ref h0), (1, .int v1), (3, .int v3)]) hx hb dX7_findSurpassed_54 rfl hl (by decide) rfl (fun ls hl => ?_)
            refine lv_iinc (v := v3 + nI 1) (lv' := [(3, .int (v3 + nI 1)), (2, .int (nI 1)), (4, .int (v1 ||| ((nI 1) <<< (v3 &&& 31)))), (0, .ref h0), (1, .int v1)]) hx hb dX7_findSurpassed_55 hl (k := 4) rfl (congrArg (fun q => v3 + q) kc_1) (by decide) rfl (fun ls hl => ?_)
            refine lv_goto (tgt := 16) hx hb dX7_findSurpassed_58 (by decide) ?_
            exact ih v1 (nI 1) (v3 + nI 1) g_surpassed h _ _ _ (hP.sub [1, 2, 0] rfl) (hD.sub [1, 2, 0] (by decide) rfl) hS (lv_sub hl [3, 4, 1, 0] rfl)
          · replace h := h.2 c
            refine lv_aload_n hx hb dX7_findSurpassed_44 rfl (lv_at hl 1 rfl) ?_
            refine lv_iload hx hb dX7_findSurpassed_45 (lv_at hl 0 rfl) ?_
            refine hc_ki (wr := [caZ G a_marked 256 g_marked]) (va_runV (As := [.int (v1 ||| ((nI 1) <<< (v3 &&& 31)))]) (rest := []) ⟨hx, hb, hml, hown, hts⟩ (c_X7_isSurpassed l G h0 a_chosen a_marked a_surpassed H.size s_heard s_defeats s_defeaters g_surpassed (v1 ||| ((nI 1) <<< (v3 &&& 31))) _ h) (cwV 1 hts gX7_findSurpassed_X7_isSurpassed rfl rfl rfl (by decide +kernel) ⟨Nat.le_of_ble_eq_true rfl, Nat.le_of_ble_eq_true rfl⟩) (hc_pV hK hP hD [1, 0] rfl rfl (ci := 5) 1 rfl rfl) rfl rfl hl.1 rfl (lv_room (Nat.le_of_ble_eq_true rfl)) dX7_findSurpassed_47 ⟨Nat.le_refl _, Nat.le_refl _⟩) hP hD hS hA [1, 0] [2] rfl rfl rfl (by decide) (fun r47 u H locs h hP hD hS => ?_)
            try dsimp only at h
            have hP : va_P G.1 vwCl [caZ G a_marked 256 g_marked, ceX7 h0 a_chosen a_marked a_surpassed s_heard s_defeats s_defeaters, caZ G a_surpassed 256 g_surpassed] H := hP
            have hD : va_D A [caZ G a_marked 256 g_marked, ceX7 h0 a_chosen a_marked a_surpassed s_heard s_defeats s_defeaters, caZ G a_surpassed 256 g_surpassed] := hD
            refine lv_if_eq (tgt := 55) hx hb dX7_findSurpassed_50 (by decide) (fun c => ?_) (fun c => ?_)
            · replace h := h.1 c
              refine lv_iinc (v := v3 + nI 1) (lv' := [(3, .int (v3 + nI 1)), (4, .int (v1 ||| ((nI 1) <<< (v3 &&& 31)))), (0, .ref h0), (1, .int v1), (2, .int v2)]) hx hb dX7_findSurpassed_55 hl (k := 4) rfl (congrArg (fun q => v3 + q) kc_1) (by decide) rfl (fun ls hl => ?_)
              refine lv_goto (tgt := 16) hx hb dX7_findSurpassed_58 (by decide) ?_
              exact ih v1 v2 (v3 + nI 1) g_surpassed h _ _ _ (hP.sub [1, 0, 2] rfl) (hD.sub [1, 0, 2] (by decide) rfl) hS (lv_sub hl [2, 3, 4, 0] rfl)
            · replace h := h.2 c
              refine lv_iconst (v := nI 1) hx hb dX7_findSurpassed_53 kc_1 ?_
              refine lv_istore_n (lv' := [(2, .int (nI 1)), (4, .int (v1 ||| ((nI 1) <<< (v3 &&& 31)))), (0, .ref h0), (1, .int v1), (3, .int v3)]) hx hb dX7_findSurpassed_54 rfl hl (by decide) rfl (fun ls hl => ?_)
              refine lv_iinc (v := v3 + nI 1) (lv' := [(3, .int (v3 + nI 1)), (2, .int (nI 1)), (4, .int (v1 ||| ((nI 1) <<< (v3 &&& 31)))), (0, .ref h0), (1, .int v1)]) hx hb dX7_findSurpassed_55 hl (k := 4) rfl (congrArg (fun q => v3 + q) kc_1) (by decide) rfl (fun ls hl => ?_)
              refine lv_goto (tgt := 16) hx hb dX7_findSurpassed_58 (by decide) ?_
              exact ih v1 (nI 1) (v3 + nI 1) g_surpassed h _ _ _ (hP.sub [1, 0, 2] rfl) (hD.sub [1, 0, 2] (by decide) rfl) hS (lv_sub hl [3, 4, 1, 0] rfl)
  have w8 : ∀ (n : Nat) (v1 : Int32) (g_surpassed : Nat → Int32) , wp_X7_findSurpassed_8 post g_marked n v1 g_surpassed → ∀ (H : Heap) (locs : List Loc) (ls : Array Slot), va_P G.1 vwCl [ceX7 h0 a_chosen a_marked a_surpassed s_heard s_defeats s_defeaters, caZ G a_marked 256 g_marked, caZ G a_surpassed 256 g_surpassed] H → va_D A [ceX7 h0 a_chosen a_marked a_surpassed s_heard s_defeats s_defeaters, caZ G a_marked 256 g_marked, caZ G a_surpassed 256 g_surpassed] → va_S A s.heap H locs → lv_has ls 5 [(0, .ref h0), (1, .int v1)] → W p l e (headSpec wsX7_findSurpassed ({ frames := 1, cells := 0, slots := 0, locals := 21 })).room s m ([.ref h0] : List Value).toArray below meth c H locs 0 0 (MQ below (va_Qv (fun u : (Nat → Int32) => post u) (hcB G A (fun u : (Nat → Int32) => [ceX7 h0 a_chosen a_marked a_surpassed s_heard s_defeats s_defeaters, caZ G a_marked 256 g_marked, caZ G a_surpassed 256 u])) A) ([.ref h0] : List Value).toArray s 0 0 A) (F0 m 8 ls []) := by
    intro n
    induction n with
    | zero => intro v1 g_surpassed h; exact h.elim
    | succ n ih =>
      intro v1 g_surpassed h H locs ls hP hD hS hl
      unfold wp_X7_findSurpassed_8 at h
      refine lv_iload_n hx hb dX7_findSurpassed_8 rfl (lv_at hl 1 rfl) ?_
      refine lv_if_lt (tgt := 74) hx hb dX7_findSurpassed_9 (by decide) (fun c => ?_) (fun c => ?_)
      · replace h := h.1 c
        exact W.vret hx hb hr (fun t ht hW => ⟨⟨g_surpassed, rfl, h, ⟨by rw [ht]; exact hP, hD⟩⟩, hS.F ht⟩) hS.2.2 dX7_findSurpassed_74
      · replace h := h.2 c
        refine lv_iconst (v := nI 0) hx hb dX7_findSurpassed_12 kc_0 ?_
        refine lv_istore_n (lv' := [(2, .int (nI 0)), (0, .ref h0), (1, .int v1)]) hx hb dX7_findSurpassed_13 rfl hl (by decide) rfl (fun ls hl => ?_)
        refine lv_iconst (v := nI 0) hx hb dX7_findSurpassed_14 kc_0 ?_
        refine lv_istore_n (lv' := [(3, .int (nI 0)), (2, .int (nI 0)), (0, .ref h0), (1, .int v1)]) hx hb dX7_findSurpassed_15 rfl hl (by decide) rfl (fun ls hl => ?_)
        obtain ⟨n16, h⟩ := h
        exact w16 ((wp_X7_findSurpassed_8 post g_marked n)) ih n16 v1 (nI 0) (nI 0) g_surpassed h _ _ _ hP hD hS (lv_sub hl [2, 3, 1, 0] rfl)
  unfold wp_X7_findSurpassed at h
  refine lv_aload_n hx hb dX7_findSurpassed_0 rfl (lv_at hl 0 rfl) ?_
  refine va_get (D := G.1) (ci := 5) (v := .ref a_surpassed) (C := RX7) (T := TX7) (N := 6) hx hb hts ki_X7 hown hK.1 hP 0 rfl rfl 2 (by decide) kf0 (fun _ h9 => h9) rfl dX7_findSurpassed_1 ?_
  refine va_alen hx hb hK.1 hP 2 2 rfl rfl (v := nI 256) rfl dX7_findSurpassed_4 ?_
  refine lv_iconst (v := nI 1) hx hb dX7_findSurpassed_5 kc_1 ?_
  refine lv_isub hx hb dX7_findSurpassed_6 ?_
  refine lv_istore_n (lv' := [(1, .int ((nI 256) - (nI 1))), (0, .ref h0)]) hx hb dX7_findSurpassed_7 rfl hl (by decide) rfl (fun ls hl => ?_)
  obtain ⟨n8, h⟩ := h
  exact w8  n8 ((nI 256) - (nI 1)) g_surpassed h _ _ _ hP hD hS (lv_sub hl [1, 0] rfl)
set_option maxHeartbeats 4000000 in
set_option maxRecDepth 100000 in
theorem c_X7_mark (l : Launch) (G : hcG) (h0 : Nat) (a_chosen : Nat) (a_marked : Nat) (a_surpassed : Nat) (sz : Nat) (s_heard : Int32) (s_defeats : Int64) (s_defeaters : Int64) (g_marked : Nat → Int32) (x1 : Int32) (post : (Nat → Int32) → Prop) (h : wp_X7_mark post g_marked x1) : Met l yX7_mark wsX7_mark ({ frames := 0, cells := 0, slots := 0, locals := 0 }) (hcPc G [.ref h0, .int x1] [ceX7 h0 a_chosen a_marked a_surpassed s_heard s_defeats s_defeaters, caZ G a_marked 256 g_marked] sz) (va_Qv (fun u : (Nat → Int32) => post u) (hcB G (va_A [ceX7 h0 a_chosen a_marked a_surpassed s_heard s_defeats s_defeaters, caZ G a_marked 256 g_marked] sz) (fun u : (Nat → Int32) => [ceX7 h0 a_chosen a_marked a_surpassed s_heard s_defeats s_defeaters, caZ G a_marked 256 u])) (va_A [ceX7 h0 a_chosen a_marked a_surpassed s_heard s_defeats s_defeaters, caZ G a_marked 256 g_marked] sz)) 0 0 (va_A [ceX7 h0 a_chosen a_marked a_surpassed s_heard s_defeats s_defeaters, caZ G a_marked 256 g_marked] sz) := by
  refine Met.ofW (cc := cX7_mark) (maxL := 2) (ret := none) (by decide) rfl ?_
  intro p e s m args below meth c s₁ B hml hv
  obtain ⟨rfl, hsz, hP, hK, hD0⟩ := hv
  have hx := B.exec
  have hb := B.bytes
  have hr := B.returns
  have hts := atoms_spec (ws := wsX7_mark) B.pre
  have hown : s.vm.findClass RX7 = some m.cls := findClass_of_methodNamed B.named
  have hlocks := B.notSynchronized
  subst hsz
  have hD := hD0.self (sz := s.heap.size)
  generalize hAe : va_A [ceX7 h0 a_chosen a_marked a_surpassed s_heard s_defeats s_defeaters, caZ G a_marked 256 g_marked] s.heap.size = A at hD ⊢
  have hA : ∀ q : Nat, s.heap.size ≤ q → A q := fun q h => by rw [← hAe]; exact Or.inr h
  have hS : va_S A s.heap s.heap [] := va_S.rf
  have hP : va_P G.1 vwCl [ceX7 h0 a_chosen a_marked a_surpassed s_heard s_defeats s_defeaters, caZ G a_marked 256 g_marked] s.heap := hP
  have hl := lv_entry ([.ref h0, .int x1]) (n := 2) (Nat.le_of_ble_eq_true rfl)
  rw [lg_entry_eq]
  generalize (lg_sl ([.ref h0, .int x1]) ++ List.replicate (2 - (lg_sl ([.ref h0, .int x1])).length) Slot.unset).toArray = ls at hl ⊢
  have hl : lv_has ls 2 [(0, .ref h0), (1, .int x1)] := hl
  have kf0 := hts (.fieldLink RX7 15 "HallOfClaims$Sorts" "marked" "[Z") (List.mem_of_getElem? (i := 1) (by decide +kernel))
  have ki_X7 : ∀ w ∈ u_ws RX7 TX7 6, w ∈ wsX7_mark := by decide +kernel
  unfold wp_X7_mark at h
  refine lv_iload_n hx hb dX7_mark_0 rfl (lv_at hl 1 rfl) ?_
  refine lv_if_lt (tgt := 20) hx hb dX7_mark_1 (by decide) (fun c => ?_) (fun c => ?_)
  · replace h := h.1 c
    exact W.vret hx hb hr (fun t ht hW => ⟨⟨g_marked, rfl, h, ⟨by rw [ht]; exact hP, hD⟩⟩, hS.F ht⟩) hS.2.2 dX7_mark_20
  · replace h := h.2 c
    refine lv_iload_n hx hb dX7_mark_4 rfl (lv_at hl 1 rfl) ?_
    refine lv_aload_n hx hb dX7_mark_5 rfl (lv_at hl 0 rfl) ?_
    refine va_get (D := G.1) (ci := 5) (v := .ref a_marked) (C := RX7) (T := TX7) (N := 6) hx hb hts ki_X7 hown hK.1 hP 0 rfl rfl 1 (by decide) kf0 (fun _ h9 => h9) rfl dX7_mark_6 ?_
    refine va_alen hx hb hK.1 hP 1 2 rfl rfl (v := nI 256) rfl dX7_mark_9 ?_
    refine lv_icmp_ge (tgt := 20) hx hb dX7_mark_10 (by decide) (fun c => ?_) (fun c => ?_)
    · replace h := h.1 c
      exact W.vret hx hb hr (fun t ht hW => ⟨⟨g_marked, rfl, h, ⟨by rw [ht]; exact hP, hD⟩⟩, hS.F ht⟩) hS.2.2 dX7_mark_20
    · replace h := h.2 c
      refine lv_aload_n hx hb dX7_mark_13 rfl (lv_at hl 0 rfl) ?_
      refine va_get (D := G.1) (ci := 5) (v := .ref a_marked) (C := RX7) (T := TX7) (N := 6) hx hb hts ki_X7 hown hK.1 hP 0 rfl rfl 1 (by decide) kf0 (fun _ h9 => h9) rfl dX7_mark_14 ?_
      refine lv_iload_n hx hb dX7_mark_17 rfl (lv_at hl 1 rfl) ?_
      refine lv_iconst (v := nI 1) hx hb dX7_mark_18 kc_1 ?_
      have hin := h.1
      replace h := h.2
      refine va_zast hx hb hK.1 hP hD hS 1 2 rfl rfl hin dX7_mark_19 (fun H locs hP hD hS => ?_)
      have hP : va_P G.1 vwCl [ceX7 h0 a_chosen a_marked a_surpassed s_heard s_defeats s_defeaters, caZ G a_marked 256 (upd g_marked x1.toNatClampNeg (vp_nar .boolean (nI 1)))] H := hP
      have hD : va_D A [ceX7 h0 a_chosen a_marked a_surpassed s_heard s_defeats s_defeaters, caZ G a_marked 256 (upd g_marked x1.toNatClampNeg (vp_nar .boolean (nI 1)))] := hD
      exact W.vret hx hb hr (fun t ht hW => ⟨⟨(upd g_marked x1.toNatClampNeg (vp_nar .boolean (nI 1))), rfl, h, ⟨by rw [ht]; exact hP, hD⟩⟩, hS.F ht⟩) hS.2.2 dX7_mark_20
set_option maxHeartbeats 4000000 in
set_option maxRecDepth 100000 in
theorem c_X7_rangeOf (l : Launch) (G : hcG) (h0 : Nat) (a_chosen : Nat) (a_marked : Nat) (a_surpassed : Nat) (sz : Nat) (s_heard : Int32) (s_defeats : Int64) (s_defeaters : Int64) (x1 : Int32) (post : Int32 → Prop) (h : wp_X7_rangeOf post s_defeats x1) : Met l yX7_rangeOf wsX7_rangeOf ({ frames := 2, cells := 0, slots := 0, locals := 46 }) (hcPc G [.ref h0, .int x1] [ceX7 h0 a_chosen a_marked a_surpassed s_heard s_defeats s_defeaters] sz) (va_Qi (fun (r : Int32) (u : Unit) => post r) (hcB G (va_A [ceX7 h0 a_chosen a_marked a_surpassed s_heard s_defeats s_defeaters] sz) (fun u : Unit => [ceX7 h0 a_chosen a_marked a_surpassed s_heard s_defeats s_defeaters])) (va_A [ceX7 h0 a_chosen a_marked a_surpassed s_heard s_defeats s_defeaters] sz)) 0 0 (va_A [ceX7 h0 a_chosen a_marked a_surpassed s_heard s_defeats s_defeaters] sz) := by
  refine Met.ofW (cc := cX7_rangeOf) (maxL := 2) (ret := (some .int)) (by decide) rfl ?_
  intro p e s m args below meth c s₁ B hml hv
  obtain ⟨rfl, hsz, hP, hK, hD0⟩ := hv
  have hx := B.exec
  have hb := B.bytes
  have hr := B.returns
  have hts := atoms_spec (ws := wsX7_rangeOf) B.pre
  have hown : s.vm.findClass RX7 = some m.cls := findClass_of_methodNamed B.named
  have hlocks := B.notSynchronized
  subst hsz
  have hD := hD0.self (sz := s.heap.size)
  generalize hAe : va_A [ceX7 h0 a_chosen a_marked a_surpassed s_heard s_defeats s_defeaters] s.heap.size = A at hD ⊢
  have hA : ∀ q : Nat, s.heap.size ≤ q → A q := fun q h => by rw [← hAe]; exact Or.inr h
  have hS : va_S A s.heap s.heap [] := va_S.rf
  have hP : va_P G.1 vwCl [ceX7 h0 a_chosen a_marked a_surpassed s_heard s_defeats s_defeaters] s.heap := hP
  have hl := lv_entry ([.ref h0, .int x1]) (n := 2) (Nat.le_of_ble_eq_true rfl)
  rw [lg_entry_eq]
  generalize (lg_sl ([.ref h0, .int x1]) ++ List.replicate (2 - (lg_sl ([.ref h0, .int x1])).length) Slot.unset).toArray = ls at hl ⊢
  have hl : lv_has ls 2 [(0, .ref h0), (1, .int x1)] := hl
  have kf0 := hts (.fieldLink RX7 25 "HallOfClaims$Sorts" "defeats" "J") (List.mem_of_getElem? (i := 1) (by decide +kernel))
  have ki_X7 : ∀ w ∈ u_ws RX7 TX7 6, w ∈ wsX7_rangeOf := by decide +kernel
  unfold wp_X7_rangeOf at h
  refine lv_iload_n hx hb dX7_rangeOf_0 rfl (lv_at hl 1 rfl) ?_
  refine lv_aload_n hx hb dX7_rangeOf_1 rfl (lv_at hl 0 rfl) ?_
  refine va_get (D := G.1) (ci := 5) (v := .long s_defeats) (C := RX7) (T := TX7) (N := 6) hx hb hts ki_X7 hown hK.1 hP 0 rfl rfl 4 (by decide) kf0 (fun _ h9 => h9) rfl dX7_rangeOf_2 ?_
  refine lv_iload_n hx hb dX7_rangeOf_5 rfl (lv_at hl 1 rfl) ?_
  refine hc_ki (wr := [ceX7 h0 a_chosen a_marked a_surpassed s_heard s_defeats s_defeaters]) (va_runS (As := [.long s_defeats, .int x1]) (rest := [.int x1]) ⟨hx, hb, hml, hown, hts⟩ (c_X0_reach l G s.heap.size s_defeats x1 _ h) (va_cwS 2 hts gX7_rangeOf_X0_reach rfl rfl rfl (by decide +kernel) ⟨Nat.le_of_ble_eq_true rfl, Nat.le_of_ble_eq_true rfl⟩) (hc_pS hK hP hD [] rfl rfl) rfl rfl hl.1 rfl (lv_room (Nat.le_of_ble_eq_true rfl)) dX7_rangeOf_6 ⟨Nat.le_refl _, Nat.le_refl _⟩) hP hD hS hA [] [0] rfl rfl rfl (by decide) (fun r6 u H locs h hP hD hS => ?_)
  try dsimp only at h
  have hP : va_P G.1 vwCl [ceX7 h0 a_chosen a_marked a_surpassed s_heard s_defeats s_defeaters] H := hP
  have hD : va_D A [ceX7 h0 a_chosen a_marked a_surpassed s_heard s_defeats s_defeaters] := hD
  refine lv_ior hx hb dX7_rangeOf_9 ?_
  exact W.iret (v := x1 ||| r6) hx hb hr (fun t ht hW => ⟨⟨_, (), rfl, h, ⟨by rw [ht]; exact hP, hD⟩⟩, hS.F ht⟩) hS.2.2 dX7_rangeOf_10
set_option maxHeartbeats 4000000 in
set_option maxRecDepth 100000 in
theorem c_X7_dropSurpassed (l : Launch) (G : hcG) (h0 : Nat) (a_chosen : Nat) (a_marked : Nat) (a_surpassed : Nat) (sz : Nat) (s_heard : Int32) (s_defeats : Int64) (s_defeaters : Int64) (g_chosen : Nat → Int32) (g_marked : Nat → Int32) (g_surpassed : Nat → Int32) (x1 : Int32) (post : (Nat → Int32) → (Nat → Int32) → (Nat → Int32) → Prop) (h : wp_X7_dropSurpassed post g_chosen g_marked g_surpassed s_defeats x1) : Met l yX7_dropSurpassed wsX7_dropSurpassed ({ frames := 3, cells := 0, slots := 0, locals := 67 }) (hcPc G [.ref h0, .int x1] [ceX7 h0 a_chosen a_marked a_surpassed s_heard s_defeats s_defeaters, caZ G a_chosen 256 g_chosen, caZ G a_marked 256 g_marked, caZ G a_surpassed 256 g_surpassed] sz) (va_Qv (fun u : (Nat → Int32) × (Nat → Int32) × (Nat → Int32) => post u.1 u.2.1 u.2.2) (hcB G (va_A [ceX7 h0 a_chosen a_marked a_surpassed s_heard s_defeats s_defeaters, caZ G a_chosen 256 g_chosen, caZ G a_marked 256 g_marked, caZ G a_surpassed 256 g_surpassed] sz) (fun u : (Nat → Int32) × (Nat → Int32) × (Nat → Int32) => [ceX7 h0 a_chosen a_marked a_surpassed s_heard s_defeats s_defeaters, caZ G a_chosen 256 u.1, caZ G a_marked 256 u.2.1, caZ G a_surpassed 256 u.2.2])) (va_A [ceX7 h0 a_chosen a_marked a_surpassed s_heard s_defeats s_defeaters, caZ G a_chosen 256 g_chosen, caZ G a_marked 256 g_marked, caZ G a_surpassed 256 g_surpassed] sz)) 0 0 (va_A [ceX7 h0 a_chosen a_marked a_surpassed s_heard s_defeats s_defeaters, caZ G a_chosen 256 g_chosen, caZ G a_marked 256 g_marked, caZ G a_surpassed 256 g_surpassed] sz) := by
  refine Met.ofW (cc := cX7_dropSurpassed) (maxL := 3) (ret := none) (by decide) rfl ?_
  intro p e s m args below meth c s₁ B hml hv
  obtain ⟨rfl, hsz, hP, hK, hD0⟩ := hv
  have hx := B.exec
  have hb := B.bytes
  have hr := B.returns
  have hts := atoms_spec (ws := wsX7_dropSurpassed) B.pre
  have hown : s.vm.findClass RX7 = some m.cls := findClass_of_methodNamed B.named
  have hlocks := B.notSynchronized
  subst hsz
  have hD := hD0.self (sz := s.heap.size)
  generalize hAe : va_A [ceX7 h0 a_chosen a_marked a_surpassed s_heard s_defeats s_defeaters, caZ G a_chosen 256 g_chosen, caZ G a_marked 256 g_marked, caZ G a_surpassed 256 g_surpassed] s.heap.size = A at hD ⊢
  have hA : ∀ q : Nat, s.heap.size ≤ q → A q := fun q h => by rw [← hAe]; exact Or.inr h
  have hS : va_S A s.heap s.heap [] := va_S.rf
  have hP : va_P G.1 vwCl [ceX7 h0 a_chosen a_marked a_surpassed s_heard s_defeats s_defeaters, caZ G a_chosen 256 g_chosen, caZ G a_marked 256 g_marked, caZ G a_surpassed 256 g_surpassed] s.heap := hP
  have hl := lv_entry ([.ref h0, .int x1]) (n := 3) (Nat.le_of_ble_eq_true rfl)
  rw [lg_entry_eq]
  generalize (lg_sl ([.ref h0, .int x1]) ++ List.replicate (3 - (lg_sl ([.ref h0, .int x1])).length) Slot.unset).toArray = ls at hl ⊢
  have hl : lv_has ls 3 [(0, .ref h0), (1, .int x1)] := hl
  have kf0 := hts (.fieldLink RX7 15 "HallOfClaims$Sorts" "marked" "[Z") (List.mem_of_getElem? (i := 1) (by decide +kernel))
  have kf1 := hts (.fieldLink RX7 9 "HallOfClaims$Sorts" "chosen" "[Z") (List.mem_of_getElem? (i := 2) (by decide +kernel))
  have ki_X7 : ∀ w ∈ u_ws RX7 TX7 6, w ∈ wsX7_dropSurpassed := by decide +kernel
  have w110 : ∀ (K73 : Int32 → (Nat → Int32) → (Nat → Int32) → (Nat → Int32) → Prop), (∀ (v2 : Int32) (g_chosen : Nat → Int32) (g_marked : Nat → Int32) (g_surpassed : Nat → Int32) , K73 v2 g_chosen g_marked g_surpassed → ∀ (H : Heap) (locs : List Loc) (ls : Array Slot), va_P G.1 vwCl [ceX7 h0 a_chosen a_marked a_surpassed s_heard s_defeats s_defeaters, caZ G a_chosen 256 g_chosen, caZ G a_marked 256 g_marked, caZ G a_surpassed 256 g_surpassed] H → va_D A [ceX7 h0 a_chosen a_marked a_surpassed s_heard s_defeats s_defeaters, caZ G a_chosen 256 g_chosen, caZ G a_marked 256 g_marked, caZ G a_surpassed 256 g_surpassed] → va_S A s.heap H locs → lv_has ls 3 [(0, .ref h0), (1, .int x1), (2, .int v2)] → W p l e (headSpec wsX7_dropSurpassed ({ frames := 3, cells := 0, slots := 0, locals := 67 })).room s m ([.ref h0, .int x1] : List Value).toArray below meth c H locs 0 0 (MQ below (va_Qv (fun u : (Nat → Int32) × (Nat → Int32) × (Nat → Int32) => post u.1 u.2.1 u.2.2) (hcB G A (fun u : (Nat → Int32) × (Nat → Int32) × (Nat → Int32) => [ceX7 h0 a_chosen a_marked a_surpassed s_heard s_defeats s_defeaters, caZ G a_chosen 256 u.1, caZ G a_marked 256 u.2.1, caZ G a_surpassed 256 u.2.2])) A) ([.ref h0, .int x1] : List Value).toArray s 0 0 A) (F0 m 73 ls [])) → ∀ (v2 : Int32) (g_chosen : Nat → Int32) (g_marked : Nat → Int32) (g_surpassed : Nat → Int32) (t0 : Int32) (t2 : Int32) , wp_X7_dropSurpassed_110 post s_defeats x1 K73 v2 g_chosen g_marked g_surpassed t0 t2 → ∀ (H : Heap) (locs : List Loc) (ls : Array Slot), va_P G.1 vwCl [ceX7 h0 a_chosen a_marked a_surpassed s_heard s_defeats s_defeaters, caZ G a_chosen 256 g_chosen, caZ G a_marked 256 g_marked, caZ G a_surpassed 256 g_surpassed] H → va_D A [ceX7 h0 a_chosen a_marked a_surpassed s_heard s_defeats s_defeaters, caZ G a_chosen 256 g_chosen, caZ G a_marked 256 g_marked, caZ G a_surpassed 256 g_surpassed] → va_S A s.heap H locs → lv_has ls 3 [(0, .ref h0), (1, .int x1), (2, .int v2)] → W p l e (headSpec wsX7_dropSurpassed ({ frames := 3, cells := 0, slots := 0, locals := 67 })).room s m ([.ref h0, .int x1] : List Value).toArray below meth c H locs 0 0 (MQ below (va_Qv (fun u : (Nat → Int32) × (Nat → Int32) × (Nat → Int32) => post u.1 u.2.1 u.2.2) (hcB G A (fun u : (Nat → Int32) × (Nat → Int32) × (Nat → Int32) => [ceX7 h0 a_chosen a_marked a_surpassed s_heard s_defeats s_defeaters, caZ G a_chosen 256 u.1, caZ G a_marked 256 u.2.1, caZ G a_surpassed 256 u.2.2])) A) ([.ref h0, .int x1] : List Value).toArray s 0 0 A) (F0 m 110 ls [.int t0, .ref h0, .int t2, .ref a_chosen]) := by
    intro K73 hK73 v2 g_chosen g_marked g_surpassed t0 t2 h H locs ls hP hD hS hl
    unfold wp_X7_dropSurpassed_110 at h
    refine hc_ki (wr := [caZ G a_chosen 256 g_chosen, caZ G a_marked 256 g_marked]) (va_runV (As := [.int t0]) (rest := [.int t2, .ref a_chosen]) ⟨hx, hb, hml, hown, hts⟩ (c_X7_isSurpassed l G h0 a_chosen a_marked a_surpassed H.size s_heard s_defeats s_defeaters g_surpassed t0 _ h) (cwV 1 hts gX7_dropSurpassed_X7_isSurpassed rfl rfl rfl (by decide +kernel) ⟨Nat.le_of_ble_eq_true rfl, Nat.le_of_ble_eq_true rfl⟩) (hc_pV hK hP hD [0, 3] rfl rfl (ci := 5) 0 rfl rfl) rfl rfl hl.1 rfl (lv_room (Nat.le_of_ble_eq_true rfl)) dX7_dropSurpassed_110 ⟨Nat.le_refl _, Nat.le_refl _⟩) hP hD hS hA [0, 3] [1, 2] rfl rfl rfl (by decide) (fun r110 u H locs h hP hD hS => ?_)
    try dsimp only at h
    have hP : va_P G.1 vwCl [caZ G a_chosen 256 g_chosen, caZ G a_marked 256 g_marked, ceX7 h0 a_chosen a_marked a_surpassed s_heard s_defeats s_defeaters, caZ G a_surpassed 256 g_surpassed] H := hP
    have hD : va_D A [caZ G a_chosen 256 g_chosen, caZ G a_marked 256 g_marked, ceX7 h0 a_chosen a_marked a_surpassed s_heard s_defeats s_defeaters, caZ G a_surpassed 256 g_surpassed] := hD
    refine lv_if_ne (tgt := 120) hx hb dX7_dropSurpassed_113 (by decide) (fun c => ?_) (fun c => ?_)
    · replace h := h.1 c
      refine lv_iconst (v := nI 0) hx hb dX7_dropSurpassed_120 kc_0 ?_
      have hin := h.1
      replace h := h.2
      refine va_zast hx hb hK.1 hP hD hS 0 2 rfl rfl hin dX7_dropSurpassed_121 (fun H locs hP hD hS => ?_)
      have hP : va_P G.1 vwCl [caZ G a_chosen 256 (upd g_chosen t2.toNatClampNeg (vp_nar .boolean (nI 0))), caZ G a_marked 256 g_marked, ceX7 h0 a_chosen a_marked a_surpassed s_heard s_defeats s_defeaters, caZ G a_surpassed 256 g_surpassed] H := hP
      have hD : va_D A [caZ G a_chosen 256 (upd g_chosen t2.toNatClampNeg (vp_nar .boolean (nI 0))), caZ G a_marked 256 g_marked, ceX7 h0 a_chosen a_marked a_surpassed s_heard s_defeats s_defeaters, caZ G a_surpassed 256 g_surpassed] := hD
      refine lv_iinc (v := v2 + nI 1) (lv' := [(2, .int (v2 + nI 1)), (0, .ref h0), (1, .int x1)]) hx hb dX7_dropSurpassed_122 hl (k := 2) rfl (congrArg (fun q => v2 + q) kc_1) (by decide) rfl (fun ls hl => ?_)
      refine lv_goto (tgt := 73) hx hb dX7_dropSurpassed_125 (by decide) ?_
      exact hK73 (v2 + nI 1) (upd g_chosen t2.toNatClampNeg (vp_nar .boolean (nI 0))) g_marked g_surpassed h _ _ _ (hP.sub [2, 0, 1, 3] rfl) (hD.sub [2, 0, 1, 3] (by decide) rfl) hS (lv_sub hl [1, 2, 0] rfl)
    · replace h := h.2 c
      refine lv_iconst (v := nI 1) hx hb dX7_dropSurpassed_116 kc_1 ?_
      refine lv_goto (tgt := 121) hx hb dX7_dropSurpassed_117 (by decide) ?_
      have hin := h.1
      replace h := h.2
      refine va_zast hx hb hK.1 hP hD hS 0 2 rfl rfl hin dX7_dropSurpassed_121 (fun H locs hP hD hS => ?_)
      have hP : va_P G.1 vwCl [caZ G a_chosen 256 (upd g_chosen t2.toNatClampNeg (vp_nar .boolean (nI 1))), caZ G a_marked 256 g_marked, ceX7 h0 a_chosen a_marked a_surpassed s_heard s_defeats s_defeaters, caZ G a_surpassed 256 g_surpassed] H := hP
      have hD : va_D A [caZ G a_chosen 256 (upd g_chosen t2.toNatClampNeg (vp_nar .boolean (nI 1))), caZ G a_marked 256 g_marked, ceX7 h0 a_chosen a_marked a_surpassed s_heard s_defeats s_defeaters, caZ G a_surpassed 256 g_surpassed] := hD
      refine lv_iinc (v := v2 + nI 1) (lv' := [(2, .int (v2 + nI 1)), (0, .ref h0), (1, .int x1)]) hx hb dX7_dropSurpassed_122 hl (k := 2) rfl (congrArg (fun q => v2 + q) kc_1) (by decide) rfl (fun ls hl => ?_)
      refine lv_goto (tgt := 73) hx hb dX7_dropSurpassed_125 (by decide) ?_
      exact hK73 (v2 + nI 1) (upd g_chosen t2.toNatClampNeg (vp_nar .boolean (nI 1))) g_marked g_surpassed h _ _ _ (hP.sub [2, 0, 1, 3] rfl) (hD.sub [2, 0, 1, 3] (by decide) rfl) hS (lv_sub hl [1, 2, 0] rfl)
  have w73 : ∀ (n : Nat) (v2 : Int32) (g_chosen : Nat → Int32) (g_marked : Nat → Int32) (g_surpassed : Nat → Int32) , wp_X7_dropSurpassed_73 post s_defeats x1 n v2 g_chosen g_marked g_surpassed → ∀ (H : Heap) (locs : List Loc) (ls : Array Slot), va_P G.1 vwCl [ceX7 h0 a_chosen a_marked a_surpassed s_heard s_defeats s_defeaters, caZ G a_chosen 256 g_chosen, caZ G a_marked 256 g_marked, caZ G a_surpassed 256 g_surpassed] H → va_D A [ceX7 h0 a_chosen a_marked a_surpassed s_heard s_defeats s_defeaters, caZ G a_chosen 256 g_chosen, caZ G a_marked 256 g_marked, caZ G a_surpassed 256 g_surpassed] → va_S A s.heap H locs → lv_has ls 3 [(0, .ref h0), (1, .int x1), (2, .int v2)] → W p l e (headSpec wsX7_dropSurpassed ({ frames := 3, cells := 0, slots := 0, locals := 67 })).room s m ([.ref h0, .int x1] : List Value).toArray below meth c H locs 0 0 (MQ below (va_Qv (fun u : (Nat → Int32) × (Nat → Int32) × (Nat → Int32) => post u.1 u.2.1 u.2.2) (hcB G A (fun u : (Nat → Int32) × (Nat → Int32) × (Nat → Int32) => [ceX7 h0 a_chosen a_marked a_surpassed s_heard s_defeats s_defeaters, caZ G a_chosen 256 u.1, caZ G a_marked 256 u.2.1, caZ G a_surpassed 256 u.2.2])) A) ([.ref h0, .int x1] : List Value).toArray s 0 0 A) (F0 m 73 ls []) := by
    intro n
    induction n with
    | zero => intro v2 g_chosen g_marked g_surpassed h; exact h.elim
    | succ n ih =>
      intro v2 g_chosen g_marked g_surpassed h H locs ls hP hD hS hl
      unfold wp_X7_dropSurpassed_73 at h
      refine lv_iload_n hx hb dX7_dropSurpassed_73 rfl (lv_at hl 2 rfl) ?_
      refine lv_aload_n hx hb dX7_dropSurpassed_74 rfl (lv_at hl 0 rfl) ?_
      refine va_get (D := G.1) (ci := 5) (v := .ref a_chosen) (C := RX7) (T := TX7) (N := 6) hx hb hts ki_X7 hown hK.1 hP 0 rfl rfl 0 (by decide) kf1 (fun _ h9 => h9) rfl dX7_dropSurpassed_75 ?_
      refine va_alen hx hb hK.1 hP 1 2 rfl rfl (v := nI 256) rfl dX7_dropSurpassed_78 ?_
      refine lv_icmp_ge (tgt := 128) hx hb dX7_dropSurpassed_79 (by decide) (fun c => ?_) (fun c => ?_)
      · replace h := h.1 c
        exact W.vret hx hb hr (fun t ht hW => ⟨⟨⟨g_chosen, g_marked, g_surpassed⟩, rfl, h, ⟨by rw [ht]; exact hP, hD⟩⟩, hS.F ht⟩) hS.2.2 dX7_dropSurpassed_128
      · replace h := h.2 c
        refine lv_aload_n hx hb dX7_dropSurpassed_82 rfl (lv_at hl 0 rfl) ?_
        refine va_get (D := G.1) (ci := 5) (v := .ref a_chosen) (C := RX7) (T := TX7) (N := 6) hx hb hts ki_X7 hown hK.1 hP 0 rfl rfl 0 (by decide) kf1 (fun _ h9 => h9) rfl dX7_dropSurpassed_83 ?_
        refine lv_iload_n hx hb dX7_dropSurpassed_86 rfl (lv_at hl 2 rfl) ?_
        refine lv_aload_n hx hb dX7_dropSurpassed_87 rfl (lv_at hl 0 rfl) ?_
        refine va_get (D := G.1) (ci := 5) (v := .ref a_chosen) (C := RX7) (T := TX7) (N := 6) hx hb hts ki_X7 hown hK.1 hP 0 rfl rfl 0 (by decide) kf1 (fun _ h9 => h9) rfl dX7_dropSurpassed_88 ?_
        refine lv_iload_n hx hb dX7_dropSurpassed_91 rfl (lv_at hl 2 rfl) ?_
        have hin := h.1
        replace h := h.2
        refine va_zald hx hb hK.1 hP 1 2 rfl rfl hin dX7_dropSurpassed_92 ?_
        refine lv_if_eq (tgt := 120) hx hb dX7_dropSurpassed_93 (by decide) (fun c => ?_) (fun c => ?_)
        · replace h := h.1 c
          refine lv_iconst (v := nI 0) hx hb dX7_dropSurpassed_120 kc_0 ?_
          have hin := h.1
          replace h := h.2
          refine va_zast hx hb hK.1 hP hD hS 1 2 rfl rfl hin dX7_dropSurpassed_121 (fun H locs hP hD hS => ?_)
          have hP : va_P G.1 vwCl [ceX7 h0 a_chosen a_marked a_surpassed s_heard s_defeats s_defeaters, caZ G a_chosen 256 (upd g_chosen v2.toNatClampNeg (vp_nar .boolean (nI 0))), caZ G a_marked 256 g_marked, caZ G a_surpassed 256 g_surpassed] H := hP
          have hD : va_D A [ceX7 h0 a_chosen a_marked a_surpassed s_heard s_defeats s_defeaters, caZ G a_chosen 256 (upd g_chosen v2.toNatClampNeg (vp_nar .boolean (nI 0))), caZ G a_marked 256 g_marked, caZ G a_surpassed 256 g_surpassed] := hD
          refine lv_iinc (v := v2 + nI 1) (lv' := [(2, .int (v2 + nI 1)), (0, .ref h0), (1, .int x1)]) hx hb dX7_dropSurpassed_122 hl (k := 2) rfl (congrArg (fun q => v2 + q) kc_1) (by decide) rfl (fun ls hl => ?_)
          refine lv_goto (tgt := 73) hx hb dX7_dropSurpassed_125 (by decide) ?_
          exact ih (v2 + nI 1) (upd g_chosen v2.toNatClampNeg (vp_nar .boolean (nI 0))) g_marked g_surpassed h _ _ _ hP hD hS (lv_sub hl [1, 2, 0] rfl)
        · replace h := h.2 c
          refine lv_aload_n hx hb dX7_dropSurpassed_96 rfl (lv_at hl 0 rfl) ?_
          refine lv_iload_n hx hb dX7_dropSurpassed_97 rfl (lv_at hl 1 rfl) ?_
          refine lv_if_eq (tgt := 109) hx hb dX7_dropSurpassed_98 (by decide) (fun c => ?_) (fun c => ?_)
          · replace h := h.1 c
            refine lv_iload_n hx hb dX7_dropSurpassed_109 rfl (lv_at hl 2 rfl) ?_
            exact w110 ((wp_X7_dropSurpassed_73 post s_defeats x1 n)) ih v2 g_chosen g_marked g_surpassed v2 v2 h _ _ _ hP hD hS (lv_sub hl [0, 1, 2] rfl)
          · replace h := h.2 c
            refine lv_aload_n hx hb dX7_dropSurpassed_101 rfl (lv_at hl 0 rfl) ?_
            refine lv_iload_n hx hb dX7_dropSurpassed_102 rfl (lv_at hl 2 rfl) ?_
            refine hc_ki (wr := [caZ G a_chosen 256 g_chosen, caZ G a_marked 256 g_marked, caZ G a_surpassed 256 g_surpassed]) (va_runV (As := [.int v2]) (rest := [.ref h0, .int v2, .ref a_chosen]) ⟨hx, hb, hml, hown, hts⟩ (c_X7_rangeOf l G h0 a_chosen a_marked a_surpassed H.size s_heard s_defeats s_defeaters v2 _ h) (cwV 1 hts gX7_dropSurpassed_X7_rangeOf rfl rfl rfl (by decide +kernel) ⟨Nat.le_of_ble_eq_true rfl, Nat.le_of_ble_eq_true rfl⟩) (hc_pV hK hP hD [0] rfl rfl (ci := 5) 0 rfl rfl) rfl rfl hl.1 rfl (lv_room (Nat.le_of_ble_eq_true rfl)) dX7_dropSurpassed_103 ⟨Nat.le_refl _, Nat.le_refl _⟩) hP hD hS hA [0] [1, 2, 3] rfl rfl rfl (by decide) (fun r103 u H locs h hP hD hS => ?_)
            try dsimp only at h
            have hP : va_P G.1 vwCl [caZ G a_chosen 256 g_chosen, caZ G a_marked 256 g_marked, caZ G a_surpassed 256 g_surpassed, ceX7 h0 a_chosen a_marked a_surpassed s_heard s_defeats s_defeaters] H := hP
            have hD : va_D A [caZ G a_chosen 256 g_chosen, caZ G a_marked 256 g_marked, caZ G a_surpassed 256 g_surpassed, ceX7 h0 a_chosen a_marked a_surpassed s_heard s_defeats s_defeaters] := hD
            refine lv_goto (tgt := 110) hx hb dX7_dropSurpassed_106 (by decide) ?_
            exact w110 ((wp_X7_dropSurpassed_73 post s_defeats x1 n)) ih v2 g_chosen g_marked g_surpassed r103 v2 h _ _ _ (hP.sub [3, 0, 1, 2] rfl) (hD.sub [3, 0, 1, 2] (by decide) rfl) hS (lv_sub hl [0, 1, 2] rfl)
  have w26 : ∀ (n : Nat) (v2 : Int32) (g_chosen : Nat → Int32) (g_marked : Nat → Int32) (g_surpassed : Nat → Int32) , wp_X7_dropSurpassed_26 post s_defeats x1 n v2 g_chosen g_marked g_surpassed → ∀ (H : Heap) (locs : List Loc) (ls : Array Slot), va_P G.1 vwCl [ceX7 h0 a_chosen a_marked a_surpassed s_heard s_defeats s_defeaters, caZ G a_chosen 256 g_chosen, caZ G a_marked 256 g_marked, caZ G a_surpassed 256 g_surpassed] H → va_D A [ceX7 h0 a_chosen a_marked a_surpassed s_heard s_defeats s_defeaters, caZ G a_chosen 256 g_chosen, caZ G a_marked 256 g_marked, caZ G a_surpassed 256 g_surpassed] → va_S A s.heap H locs → lv_has ls 3 [(0, .ref h0), (1, .int x1), (2, .int v2)] → W p l e (headSpec wsX7_dropSurpassed ({ frames := 3, cells := 0, slots := 0, locals := 67 })).room s m ([.ref h0, .int x1] : List Value).toArray below meth c H locs 0 0 (MQ below (va_Qv (fun u : (Nat → Int32) × (Nat → Int32) × (Nat → Int32) => post u.1 u.2.1 u.2.2) (hcB G A (fun u : (Nat → Int32) × (Nat → Int32) × (Nat → Int32) => [ceX7 h0 a_chosen a_marked a_surpassed s_heard s_defeats s_defeaters, caZ G a_chosen 256 u.1, caZ G a_marked 256 u.2.1, caZ G a_surpassed 256 u.2.2])) A) ([.ref h0, .int x1] : List Value).toArray s 0 0 A) (F0 m 26 ls []) := by
    intro n
    induction n with
    | zero => intro v2 g_chosen g_marked g_surpassed h; exact h.elim
    | succ n ih =>
      intro v2 g_chosen g_marked g_surpassed h H locs ls hP hD hS hl
      unfold wp_X7_dropSurpassed_26 at h
      refine lv_iload_n hx hb dX7_dropSurpassed_26 rfl (lv_at hl 2 rfl) ?_
      refine lv_aload_n hx hb dX7_dropSurpassed_27 rfl (lv_at hl 0 rfl) ?_
      refine va_get (D := G.1) (ci := 5) (v := .ref a_chosen) (C := RX7) (T := TX7) (N := 6) hx hb hts ki_X7 hown hK.1 hP 0 rfl rfl 0 (by decide) kf1 (fun _ h9 => h9) rfl dX7_dropSurpassed_28 ?_
      refine va_alen hx hb hK.1 hP 1 2 rfl rfl (v := nI 256) rfl dX7_dropSurpassed_31 ?_
      refine lv_icmp_ge (tgt := 67) hx hb dX7_dropSurpassed_32 (by decide) (fun c => ?_) (fun c => ?_)
      · replace h := h.1 c
        refine lv_aload_n hx hb dX7_dropSurpassed_67 rfl (lv_at hl 0 rfl) ?_
        refine hc_kv (wr := [caZ G a_chosen 256 g_chosen]) (va_runV (As := []) (rest := []) ⟨hx, hb, hml, hown, hts⟩ (c_X7_findSurpassed l G h0 a_chosen a_marked a_surpassed H.size s_heard s_defeats s_defeaters g_marked g_surpassed _ h) (cwV 0 hts gX7_dropSurpassed_X7_findSurpassed rfl rfl rfl (by decide +kernel) ⟨Nat.le_of_ble_eq_true rfl, Nat.le_of_ble_eq_true rfl⟩) (hc_pV hK hP hD [0, 2, 3] rfl rfl (ci := 5) 0 rfl rfl) rfl rfl hl.1 rfl (lv_room (Nat.le_of_ble_eq_true rfl)) dX7_dropSurpassed_68 ⟨Nat.le_refl _, Nat.le_refl _⟩) hP hD hS hA [0, 2, 3] [1] rfl rfl rfl (by decide) (fun u H locs h hP hD hS => ?_)
        obtain ⟨g_surpassed_68, rfl⟩ : ∃ z, z = u := ⟨_, rfl⟩
        try dsimp only at h
        have hP : va_P G.1 vwCl [caZ G a_chosen 256 g_chosen, ceX7 h0 a_chosen a_marked a_surpassed s_heard s_defeats s_defeaters, caZ G a_marked 256 g_marked, caZ G a_surpassed 256 g_surpassed_68] H := hP
        have hD : va_D A [caZ G a_chosen 256 g_chosen, ceX7 h0 a_chosen a_marked a_surpassed s_heard s_defeats s_defeaters, caZ G a_marked 256 g_marked, caZ G a_surpassed 256 g_surpassed_68] := hD
        refine lv_iconst (v := nI 0) hx hb dX7_dropSurpassed_71 kc_0 ?_
        refine lv_istore_n (lv' := [(2, .int (nI 0)), (0, .ref h0), (1, .int x1)]) hx hb dX7_dropSurpassed_72 rfl hl (by decide) rfl (fun ls hl => ?_)
        obtain ⟨n73, h⟩ := h
        exact w73  n73 (nI 0) g_chosen g_marked g_surpassed_68 h _ _ _ (hP.sub [1, 0, 2, 3] rfl) (hD.sub [1, 0, 2, 3] (by decide) rfl) hS (lv_sub hl [1, 2, 0] rfl)
      · replace h := h.2 c
        refine lv_aload_n hx hb dX7_dropSurpassed_35 rfl (lv_at hl 0 rfl) ?_
        refine va_get (D := G.1) (ci := 5) (v := .ref a_chosen) (C := RX7) (T := TX7) (N := 6) hx hb hts ki_X7 hown hK.1 hP 0 rfl rfl 0 (by decide) kf1 (fun _ h9 => h9) rfl dX7_dropSurpassed_36 ?_
        refine lv_iload_n hx hb dX7_dropSurpassed_39 rfl (lv_at hl 2 rfl) ?_
        have hin := h.1
        replace h := h.2
        refine va_zald hx hb hK.1 hP 1 2 rfl rfl hin dX7_dropSurpassed_40 ?_
        refine lv_if_eq (tgt := 61) hx hb dX7_dropSurpassed_41 (by decide) (fun c => ?_) (fun c => ?_)
        · replace h := h.1 c
          refine lv_iinc (v := v2 + nI 1) (lv' := [(2, .int (v2 + nI 1)), (0, .ref h0), (1, .int x1)]) hx hb dX7_dropSurpassed_61 hl (k := 2) rfl (congrArg (fun q => v2 + q) kc_1) (by decide) rfl (fun ls hl => ?_)
          refine lv_goto (tgt := 26) hx hb dX7_dropSurpassed_64 (by decide) ?_
          exact ih (v2 + nI 1) g_chosen g_marked g_surpassed h _ _ _ hP hD hS (lv_sub hl [1, 2, 0] rfl)
        · replace h := h.2 c
          refine lv_aload_n hx hb dX7_dropSurpassed_44 rfl (lv_at hl 0 rfl) ?_
          refine lv_iload_n hx hb dX7_dropSurpassed_45 rfl (lv_at hl 1 rfl) ?_
          refine lv_if_eq (tgt := 57) hx hb dX7_dropSurpassed_46 (by decide) (fun c => ?_) (fun c => ?_)
          · replace h := h.1 c
            refine lv_iload_n hx hb dX7_dropSurpassed_57 rfl (lv_at hl 2 rfl) ?_
            refine hc_kv (wr := [caZ G a_chosen 256 g_chosen, caZ G a_surpassed 256 g_surpassed]) (va_runV (As := [.int v2]) (rest := []) ⟨hx, hb, hml, hown, hts⟩ (c_X7_mark l G h0 a_chosen a_marked a_surpassed H.size s_heard s_defeats s_defeaters g_marked v2 _ h) (cwV 1 hts gX7_dropSurpassed_X7_mark rfl rfl rfl (by decide +kernel) ⟨Nat.le_of_ble_eq_true rfl, Nat.le_of_ble_eq_true rfl⟩) (hc_pV hK hP hD [0, 2] rfl rfl (ci := 5) 0 rfl rfl) rfl rfl hl.1 rfl (lv_room (Nat.le_of_ble_eq_true rfl)) dX7_dropSurpassed_58 ⟨Nat.le_refl _, Nat.le_refl _⟩) hP hD hS hA [0, 2] [1, 3] rfl rfl rfl (by decide) (fun u H locs h hP hD hS => ?_)
            obtain ⟨g_marked_58, rfl⟩ : ∃ z, z = u := ⟨_, rfl⟩
            try dsimp only at h
            have hP : va_P G.1 vwCl [caZ G a_chosen 256 g_chosen, caZ G a_surpassed 256 g_surpassed, ceX7 h0 a_chosen a_marked a_surpassed s_heard s_defeats s_defeaters, caZ G a_marked 256 g_marked_58] H := hP
            have hD : va_D A [caZ G a_chosen 256 g_chosen, caZ G a_surpassed 256 g_surpassed, ceX7 h0 a_chosen a_marked a_surpassed s_heard s_defeats s_defeaters, caZ G a_marked 256 g_marked_58] := hD
            refine lv_iinc (v := v2 + nI 1) (lv' := [(2, .int (v2 + nI 1)), (0, .ref h0), (1, .int x1)]) hx hb dX7_dropSurpassed_61 hl (k := 2) rfl (congrArg (fun q => v2 + q) kc_1) (by decide) rfl (fun ls hl => ?_)
            refine lv_goto (tgt := 26) hx hb dX7_dropSurpassed_64 (by decide) ?_
            exact ih (v2 + nI 1) g_chosen g_marked_58 g_surpassed h _ _ _ (hP.sub [2, 0, 3, 1] rfl) (hD.sub [2, 0, 3, 1] (by decide) rfl) hS (lv_sub hl [1, 2, 0] rfl)
          · replace h := h.2 c
            refine lv_aload_n hx hb dX7_dropSurpassed_49 rfl (lv_at hl 0 rfl) ?_
            refine lv_iload_n hx hb dX7_dropSurpassed_50 rfl (lv_at hl 2 rfl) ?_
            refine hc_ki (wr := [caZ G a_chosen 256 g_chosen, caZ G a_marked 256 g_marked, caZ G a_surpassed 256 g_surpassed]) (va_runV (As := [.int v2]) (rest := [.ref h0]) ⟨hx, hb, hml, hown, hts⟩ (c_X7_rangeOf l G h0 a_chosen a_marked a_surpassed H.size s_heard s_defeats s_defeaters v2 _ h) (cwV 1 hts gX7_dropSurpassed_X7_rangeOf rfl rfl rfl (by decide +kernel) ⟨Nat.le_of_ble_eq_true rfl, Nat.le_of_ble_eq_true rfl⟩) (hc_pV hK hP hD [0] rfl rfl (ci := 5) 0 rfl rfl) rfl rfl hl.1 rfl (lv_room (Nat.le_of_ble_eq_true rfl)) dX7_dropSurpassed_51 ⟨Nat.le_refl _, Nat.le_refl _⟩) hP hD hS hA [0] [1, 2, 3] rfl rfl rfl (by decide) (fun r51 u H locs h hP hD hS => ?_)
            try dsimp only at h
            have hP : va_P G.1 vwCl [caZ G a_chosen 256 g_chosen, caZ G a_marked 256 g_marked, caZ G a_surpassed 256 g_surpassed, ceX7 h0 a_chosen a_marked a_surpassed s_heard s_defeats s_defeaters] H := hP
            have hD : va_D A [caZ G a_chosen 256 g_chosen, caZ G a_marked 256 g_marked, caZ G a_surpassed 256 g_surpassed, ceX7 h0 a_chosen a_marked a_surpassed s_heard s_defeats s_defeaters] := hD
            refine lv_goto (tgt := 58) hx hb dX7_dropSurpassed_54 (by decide) ?_
            refine hc_kv (wr := [caZ G a_chosen 256 g_chosen, caZ G a_surpassed 256 g_surpassed]) (va_runV (As := [.int r51]) (rest := []) ⟨hx, hb, hml, hown, hts⟩ (c_X7_mark l G h0 a_chosen a_marked a_surpassed H.size s_heard s_defeats s_defeaters g_marked r51 _ h) (cwV 1 hts gX7_dropSurpassed_X7_mark rfl rfl rfl (by decide +kernel) ⟨Nat.le_of_ble_eq_true rfl, Nat.le_of_ble_eq_true rfl⟩) (hc_pV hK hP hD [3, 1] rfl rfl (ci := 5) 3 rfl rfl) rfl rfl hl.1 rfl (lv_room (Nat.le_of_ble_eq_true rfl)) dX7_dropSurpassed_58 ⟨Nat.le_refl _, Nat.le_refl _⟩) hP hD hS hA [3, 1] [0, 2] rfl rfl rfl (by decide) (fun u H locs h hP hD hS => ?_)
            obtain ⟨g_marked_58, rfl⟩ : ∃ z, z = u := ⟨_, rfl⟩
            try dsimp only at h
            have hP : va_P G.1 vwCl [caZ G a_chosen 256 g_chosen, caZ G a_surpassed 256 g_surpassed, ceX7 h0 a_chosen a_marked a_surpassed s_heard s_defeats s_defeaters, caZ G a_marked 256 g_marked_58] H := hP
            have hD : va_D A [caZ G a_chosen 256 g_chosen, caZ G a_surpassed 256 g_surpassed, ceX7 h0 a_chosen a_marked a_surpassed s_heard s_defeats s_defeaters, caZ G a_marked 256 g_marked_58] := hD
            refine lv_iinc (v := v2 + nI 1) (lv' := [(2, .int (v2 + nI 1)), (0, .ref h0), (1, .int x1)]) hx hb dX7_dropSurpassed_61 hl (k := 2) rfl (congrArg (fun q => v2 + q) kc_1) (by decide) rfl (fun ls hl => ?_)
            refine lv_goto (tgt := 26) hx hb dX7_dropSurpassed_64 (by decide) ?_
            exact ih (v2 + nI 1) g_chosen g_marked_58 g_surpassed h _ _ _ (hP.sub [2, 0, 3, 1] rfl) (hD.sub [2, 0, 3, 1] (by decide) rfl) hS (lv_sub hl [1, 2, 0] rfl)
  have w2 : ∀ (n : Nat) (v2 : Int32) (g_chosen : Nat → Int32) (g_marked : Nat → Int32) (g_surpassed : Nat → Int32) , wp_X7_dropSurpassed_2 post s_defeats x1 n v2 g_chosen g_marked g_surpassed → ∀ (H : Heap) (locs : List Loc) (ls : Array Slot), va_P G.1 vwCl [ceX7 h0 a_chosen a_marked a_surpassed s_heard s_defeats s_defeaters, caZ G a_chosen 256 g_chosen, caZ G a_marked 256 g_marked, caZ G a_surpassed 256 g_surpassed] H → va_D A [ceX7 h0 a_chosen a_marked a_surpassed s_heard s_defeats s_defeaters, caZ G a_chosen 256 g_chosen, caZ G a_marked 256 g_marked, caZ G a_surpassed 256 g_surpassed] → va_S A s.heap H locs → lv_has ls 3 [(0, .ref h0), (1, .int x1), (2, .int v2)] → W p l e (headSpec wsX7_dropSurpassed ({ frames := 3, cells := 0, slots := 0, locals := 67 })).room s m ([.ref h0, .int x1] : List Value).toArray below meth c H locs 0 0 (MQ below (va_Qv (fun u : (Nat → Int32) × (Nat → Int32) × (Nat → Int32) => post u.1 u.2.1 u.2.2) (hcB G A (fun u : (Nat → Int32) × (Nat → Int32) × (Nat → Int32) => [ceX7 h0 a_chosen a_marked a_surpassed s_heard s_defeats s_defeaters, caZ G a_chosen 256 u.1, caZ G a_marked 256 u.2.1, caZ G a_surpassed 256 u.2.2])) A) ([.ref h0, .int x1] : List Value).toArray s 0 0 A) (F0 m 2 ls []) := by
    intro n
    induction n with
    | zero => intro v2 g_chosen g_marked g_surpassed h; exact h.elim
    | succ n ih =>
      intro v2 g_chosen g_marked g_surpassed h H locs ls hP hD hS hl
      unfold wp_X7_dropSurpassed_2 at h
      refine lv_iload_n hx hb dX7_dropSurpassed_2 rfl (lv_at hl 2 rfl) ?_
      refine lv_aload_n hx hb dX7_dropSurpassed_3 rfl (lv_at hl 0 rfl) ?_
      refine va_get (D := G.1) (ci := 5) (v := .ref a_marked) (C := RX7) (T := TX7) (N := 6) hx hb hts ki_X7 hown hK.1 hP 0 rfl rfl 1 (by decide) kf0 (fun _ h9 => h9) rfl dX7_dropSurpassed_4 ?_
      refine va_alen hx hb hK.1 hP 2 2 rfl rfl (v := nI 256) rfl dX7_dropSurpassed_7 ?_
      refine lv_icmp_ge (tgt := 24) hx hb dX7_dropSurpassed_8 (by decide) (fun c => ?_) (fun c => ?_)
      · replace h := h.1 c
        refine lv_iconst (v := nI 0) hx hb dX7_dropSurpassed_24 kc_0 ?_
        refine lv_istore_n (lv' := [(2, .int (nI 0)), (0, .ref h0), (1, .int x1)]) hx hb dX7_dropSurpassed_25 rfl hl (by decide) rfl (fun ls hl => ?_)
        obtain ⟨n26, h⟩ := h
        exact w26  n26 (nI 0) g_chosen g_marked g_surpassed h _ _ _ hP hD hS (lv_sub hl [1, 2, 0] rfl)
      · replace h := h.2 c
        refine lv_aload_n hx hb dX7_dropSurpassed_11 rfl (lv_at hl 0 rfl) ?_
        refine va_get (D := G.1) (ci := 5) (v := .ref a_marked) (C := RX7) (T := TX7) (N := 6) hx hb hts ki_X7 hown hK.1 hP 0 rfl rfl 1 (by decide) kf0 (fun _ h9 => h9) rfl dX7_dropSurpassed_12 ?_
        refine lv_iload_n hx hb dX7_dropSurpassed_15 rfl (lv_at hl 2 rfl) ?_
        refine lv_iconst (v := nI 0) hx hb dX7_dropSurpassed_16 kc_0 ?_
        have hin := h.1
        replace h := h.2
        refine va_zast hx hb hK.1 hP hD hS 2 2 rfl rfl hin dX7_dropSurpassed_17 (fun H locs hP hD hS => ?_)
        have hP : va_P G.1 vwCl [ceX7 h0 a_chosen a_marked a_surpassed s_heard s_defeats s_defeaters, caZ G a_chosen 256 g_chosen, caZ G a_marked 256 (upd g_marked v2.toNatClampNeg (vp_nar .boolean (nI 0))), caZ G a_surpassed 256 g_surpassed] H := hP
        have hD : va_D A [ceX7 h0 a_chosen a_marked a_surpassed s_heard s_defeats s_defeaters, caZ G a_chosen 256 g_chosen, caZ G a_marked 256 (upd g_marked v2.toNatClampNeg (vp_nar .boolean (nI 0))), caZ G a_surpassed 256 g_surpassed] := hD
        refine lv_iinc (v := v2 + nI 1) (lv' := [(2, .int (v2 + nI 1)), (0, .ref h0), (1, .int x1)]) hx hb dX7_dropSurpassed_18 hl (k := 2) rfl (congrArg (fun q => v2 + q) kc_1) (by decide) rfl (fun ls hl => ?_)
        refine lv_goto (tgt := 2) hx hb dX7_dropSurpassed_21 (by decide) ?_
        exact ih (v2 + nI 1) g_chosen (upd g_marked v2.toNatClampNeg (vp_nar .boolean (nI 0))) g_surpassed h _ _ _ hP hD hS (lv_sub hl [1, 2, 0] rfl)
  unfold wp_X7_dropSurpassed at h
  refine lv_iconst (v := nI 0) hx hb dX7_dropSurpassed_0 kc_0 ?_
  refine lv_istore_n (lv' := [(2, .int (nI 0)), (0, .ref h0), (1, .int x1)]) hx hb dX7_dropSurpassed_1 rfl hl (by decide) rfl (fun ls hl => ?_)
  obtain ⟨n2, h⟩ := h
  exact w2  n2 (nI 0) g_chosen g_marked g_surpassed h _ _ _ hP hD hS (lv_sub hl [1, 2, 0] rfl)
set_option maxHeartbeats 4000000 in
set_option maxRecDepth 100000 in
theorem c_X7_isAdmissible (l : Launch) (G : hcG) (h0 : Nat) (a_chosen : Nat) (a_marked : Nat) (a_surpassed : Nat) (sz : Nat) (s_heard : Int32) (s_defeats : Int64) (s_defeaters : Int64) (x1 : Int32) (post : Int32 → Prop) (h : wp_X7_isAdmissible post s_defeats s_defeaters x1) : Met l yX7_isAdmissible wsX7_isAdmissible ({ frames := 2, cells := 0, slots := 0, locals := 46 }) (hcPc G [.ref h0, .int x1] [ceX7 h0 a_chosen a_marked a_surpassed s_heard s_defeats s_defeaters] sz) (va_Qi (fun (r : Int32) (u : Unit) => post r) (hcB G (va_A [ceX7 h0 a_chosen a_marked a_surpassed s_heard s_defeats s_defeaters] sz) (fun u : Unit => [ceX7 h0 a_chosen a_marked a_surpassed s_heard s_defeats s_defeaters])) (va_A [ceX7 h0 a_chosen a_marked a_surpassed s_heard s_defeats s_defeaters] sz)) 0 0 (va_A [ceX7 h0 a_chosen a_marked a_surpassed s_heard s_defeats s_defeaters] sz) := by
  refine Met.ofW (cc := cX7_isAdmissible) (maxL := 3) (ret := (some .boolean)) (by decide) rfl ?_
  intro p e s m args below meth c s₁ B hml hv
  obtain ⟨rfl, hsz, hP, hK, hD0⟩ := hv
  have hx := B.exec
  have hb := B.bytes
  have hr := B.returns
  have hts := atoms_spec (ws := wsX7_isAdmissible) B.pre
  have hown : s.vm.findClass RX7 = some m.cls := findClass_of_methodNamed B.named
  have hlocks := B.notSynchronized
  subst hsz
  have hD := hD0.self (sz := s.heap.size)
  generalize hAe : va_A [ceX7 h0 a_chosen a_marked a_surpassed s_heard s_defeats s_defeaters] s.heap.size = A at hD ⊢
  have hA : ∀ q : Nat, s.heap.size ≤ q → A q := fun q h => by rw [← hAe]; exact Or.inr h
  have hS : va_S A s.heap s.heap [] := va_S.rf
  have hP : va_P G.1 vwCl [ceX7 h0 a_chosen a_marked a_surpassed s_heard s_defeats s_defeaters] s.heap := hP
  have hl := lv_entry ([.ref h0, .int x1]) (n := 3) (Nat.le_of_ble_eq_true rfl)
  rw [lg_entry_eq]
  generalize (lg_sl ([.ref h0, .int x1]) ++ List.replicate (3 - (lg_sl ([.ref h0, .int x1])).length) Slot.unset).toArray = ls at hl ⊢
  have hl : lv_has ls 3 [(0, .ref h0), (1, .int x1)] := hl
  have kf0 := hts (.fieldLink RX7 25 "HallOfClaims$Sorts" "defeats" "J") (List.mem_of_getElem? (i := 1) (by decide +kernel))
  have kf1 := hts (.fieldLink RX7 29 "HallOfClaims$Sorts" "defeaters" "J") (List.mem_of_getElem? (i := 2) (by decide +kernel))
  have ki_X7 : ∀ w ∈ u_ws RX7 TX7 6, w ∈ wsX7_isAdmissible := by decide +kernel
  unfold wp_X7_isAdmissible at h
  refine lv_aload_n hx hb dX7_isAdmissible_0 rfl (lv_at hl 0 rfl) ?_
  refine va_get (D := G.1) (ci := 5) (v := .long s_defeats) (C := RX7) (T := TX7) (N := 6) hx hb hts ki_X7 hown hK.1 hP 0 rfl rfl 4 (by decide) kf0 (fun _ h9 => h9) rfl dX7_isAdmissible_1 ?_
  refine lv_iload_n hx hb dX7_isAdmissible_4 rfl (lv_at hl 1 rfl) ?_
  refine hc_ki (wr := [ceX7 h0 a_chosen a_marked a_surpassed s_heard s_defeats s_defeaters]) (va_runS (As := [.long s_defeats, .int x1]) (rest := []) ⟨hx, hb, hml, hown, hts⟩ (c_X0_reach l G s.heap.size s_defeats x1 _ h) (va_cwS 2 hts gX7_isAdmissible_X0_reach rfl rfl rfl (by decide +kernel) ⟨Nat.le_of_ble_eq_true rfl, Nat.le_of_ble_eq_true rfl⟩) (hc_pS hK hP hD [] rfl rfl) rfl rfl hl.1 rfl (lv_room (Nat.le_of_ble_eq_true rfl)) dX7_isAdmissible_5 ⟨Nat.le_refl _, Nat.le_refl _⟩) hP hD hS hA [] [0] rfl rfl rfl (by decide) (fun r5 u H locs h hP hD hS => ?_)
  try dsimp only at h
  have hP : va_P G.1 vwCl [ceX7 h0 a_chosen a_marked a_surpassed s_heard s_defeats s_defeaters] H := hP
  have hD : va_D A [ceX7 h0 a_chosen a_marked a_surpassed s_heard s_defeats s_defeaters] := hD
  refine lv_istore_n (lv' := [(2, .int r5), (0, .ref h0), (1, .int x1)]) hx hb dX7_isAdmissible_8 rfl hl (by decide) rfl (fun ls hl => ?_)
  refine lv_iload_n hx hb dX7_isAdmissible_9 rfl (lv_at hl 0 rfl) ?_
  refine lv_iload_n hx hb dX7_isAdmissible_10 rfl (lv_at hl 2 rfl) ?_
  refine lv_iand hx hb dX7_isAdmissible_11 ?_
  refine lv_if_ne (tgt := 34) hx hb dX7_isAdmissible_12 (by decide) (fun c => ?_) (fun c => ?_)
  · replace h := h.1 c
    refine lv_iconst (v := nI 0) hx hb dX7_isAdmissible_34 kc_0 ?_
    exact W.zret (v := nI 0) hx hb hr rfl (fun t ht hW => ⟨⟨_, (), rfl, h, ⟨by rw [ht]; exact hP, hD⟩⟩, hS.F ht⟩) hS.2.2 dX7_isAdmissible_35
  · replace h := h.2 c
    refine lv_aload_n hx hb dX7_isAdmissible_15 rfl (lv_at hl 1 rfl) ?_
    refine va_get (D := G.1) (ci := 5) (v := .long s_defeaters) (C := RX7) (T := TX7) (N := 6) hx hb hts ki_X7 hown hK.1 hP 0 rfl rfl 5 (by decide) kf1 (fun _ h9 => h9) rfl dX7_isAdmissible_16 ?_
    refine lv_iload_n hx hb dX7_isAdmissible_19 rfl (lv_at hl 2 rfl) ?_
    refine hc_ki (wr := [ceX7 h0 a_chosen a_marked a_surpassed s_heard s_defeats s_defeaters]) (va_runS (As := [.long s_defeaters, .int x1]) (rest := []) ⟨hx, hb, hml, hown, hts⟩ (c_X0_reach l G H.size s_defeaters x1 _ h) (va_cwS 2 hts gX7_isAdmissible_X0_reach rfl rfl rfl (by decide +kernel) ⟨Nat.le_of_ble_eq_true rfl, Nat.le_of_ble_eq_true rfl⟩) (hc_pS hK hP hD [] rfl rfl) rfl rfl hl.1 rfl (lv_room (Nat.le_of_ble_eq_true rfl)) dX7_isAdmissible_20 ⟨Nat.le_refl _, Nat.le_refl _⟩) hP hD hS hA [] [0] rfl rfl rfl (by decide) (fun r20 u H locs h hP hD hS => ?_)
    try dsimp only at h
    have hP : va_P G.1 vwCl [ceX7 h0 a_chosen a_marked a_surpassed s_heard s_defeats s_defeaters] H := hP
    have hD : va_D A [ceX7 h0 a_chosen a_marked a_surpassed s_heard s_defeats s_defeaters] := hD
    refine lv_iload_n hx hb dX7_isAdmissible_23 rfl (lv_at hl 0 rfl) ?_
    refine lv_iconst (v := (-1 : Int32)) hx hb dX7_isAdmissible_24 kc_m1 ?_
    refine lv_ixor hx hb dX7_isAdmissible_25 ?_
    refine lv_iand hx hb dX7_isAdmissible_26 ?_
    refine lv_if_ne (tgt := 34) hx hb dX7_isAdmissible_27 (by decide) (fun c => ?_) (fun c => ?_)
    · replace h := h.1 c
      refine lv_iconst (v := nI 0) hx hb dX7_isAdmissible_34 kc_0 ?_
      exact W.zret (v := nI 0) hx hb hr rfl (fun t ht hW => ⟨⟨_, (), rfl, h, ⟨by rw [ht]; exact hP, hD⟩⟩, hS.F ht⟩) hS.2.2 dX7_isAdmissible_35
    · replace h := h.2 c
      refine lv_iconst (v := nI 1) hx hb dX7_isAdmissible_30 kc_1 ?_
      refine lv_goto (tgt := 35) hx hb dX7_isAdmissible_31 (by decide) ?_
      exact W.zret (v := nI 1) hx hb hr rfl (fun t ht hW => ⟨⟨_, (), rfl, h, ⟨by rw [ht]; exact hP, hD⟩⟩, hS.F ht⟩) hS.2.2 dX7_isAdmissible_35
set_option maxHeartbeats 4000000 in
set_option maxRecDepth 100000 in
theorem c_X7_defendedBy (l : Launch) (G : hcG) (h0 : Nat) (a_chosen : Nat) (a_marked : Nat) (a_surpassed : Nat) (sz : Nat) (s_heard : Int32) (s_defeats : Int64) (s_defeaters : Int64) (x1 : Int32) (post : Int32 → Prop) (h : wp_X7_defendedBy post s_heard s_defeats s_defeaters x1) : Met l yX7_defendedBy wsX7_defendedBy ({ frames := 2, cells := 0, slots := 0, locals := 46 }) (hcPc G [.ref h0, .int x1] [ceX7 h0 a_chosen a_marked a_surpassed s_heard s_defeats s_defeaters] sz) (va_Qi (fun (r : Int32) (u : Unit) => post r) (hcB G (va_A [ceX7 h0 a_chosen a_marked a_surpassed s_heard s_defeats s_defeaters] sz) (fun u : Unit => [ceX7 h0 a_chosen a_marked a_surpassed s_heard s_defeats s_defeaters])) (va_A [ceX7 h0 a_chosen a_marked a_surpassed s_heard s_defeats s_defeaters] sz)) 0 0 (va_A [ceX7 h0 a_chosen a_marked a_surpassed s_heard s_defeats s_defeaters] sz) := by
  refine Met.ofW (cc := cX7_defendedBy) (maxL := 5) (ret := (some .int)) (by decide) rfl ?_
  intro p e s m args below meth c s₁ B hml hv
  obtain ⟨rfl, hsz, hP, hK, hD0⟩ := hv
  have hx := B.exec
  have hb := B.bytes
  have hr := B.returns
  have hts := atoms_spec (ws := wsX7_defendedBy) B.pre
  have hown : s.vm.findClass RX7 = some m.cls := findClass_of_methodNamed B.named
  have hlocks := B.notSynchronized
  subst hsz
  have hD := hD0.self (sz := s.heap.size)
  generalize hAe : va_A [ceX7 h0 a_chosen a_marked a_surpassed s_heard s_defeats s_defeaters] s.heap.size = A at hD ⊢
  have hA : ∀ q : Nat, s.heap.size ≤ q → A q := fun q h => by rw [← hAe]; exact Or.inr h
  have hS : va_S A s.heap s.heap [] := va_S.rf
  have hP : va_P G.1 vwCl [ceX7 h0 a_chosen a_marked a_surpassed s_heard s_defeats s_defeaters] s.heap := hP
  have hl := lv_entry ([.ref h0, .int x1]) (n := 5) (Nat.le_of_ble_eq_true rfl)
  rw [lg_entry_eq]
  generalize (lg_sl ([.ref h0, .int x1]) ++ List.replicate (5 - (lg_sl ([.ref h0, .int x1])).length) Slot.unset).toArray = ls at hl ⊢
  have hl : lv_has ls 5 [(0, .ref h0), (1, .int x1)] := hl
  have kf0 := hts (.fieldLink RX7 25 "HallOfClaims$Sorts" "defeats" "J") (List.mem_of_getElem? (i := 1) (by decide +kernel))
  have kf1 := hts (.fieldLink RX7 21 "HallOfClaims$Sorts" "heard" "I") (List.mem_of_getElem? (i := 3) (by decide +kernel))
  have kf2 := hts (.fieldLink RX7 29 "HallOfClaims$Sorts" "defeaters" "J") (List.mem_of_getElem? (i := 2) (by decide +kernel))
  have ki_X7 : ∀ w ∈ u_ws RX7 TX7 6, w ∈ wsX7_defendedBy := by decide +kernel
  have w14 : ∀ (n : Nat) (v2 : Int32) (v3 : Int32) (v4 : Int32) , wp_X7_defendedBy_14 post s_heard s_defeats s_defeaters x1 n v2 v3 v4 → ∀ (H : Heap) (locs : List Loc) (ls : Array Slot), va_P G.1 vwCl [ceX7 h0 a_chosen a_marked a_surpassed s_heard s_defeats s_defeaters] H → va_D A [ceX7 h0 a_chosen a_marked a_surpassed s_heard s_defeats s_defeaters] → va_S A s.heap H locs → lv_has ls 5 [(0, .ref h0), (2, .int v2), (3, .int v3), (4, .int v4)] → W p l e (headSpec wsX7_defendedBy ({ frames := 2, cells := 0, slots := 0, locals := 46 })).room s m ([.ref h0, .int x1] : List Value).toArray below meth c H locs 0 0 (MQ below (va_Qi (fun (r : Int32) (u : Unit) => post r) (hcB G A (fun u : Unit => [ceX7 h0 a_chosen a_marked a_surpassed s_heard s_defeats s_defeaters])) A) ([.ref h0, .int x1] : List Value).toArray s 0 0 A) (F0 m 14 ls []) := by
    intro n
    induction n with
    | zero => intro v2 v3 v4 h; exact h.elim
    | succ n ih =>
      intro v2 v3 v4 h H locs ls hP hD hS hl
      unfold wp_X7_defendedBy_14 at h
      refine lv_iload hx hb dX7_defendedBy_14 (lv_at hl 3 rfl) ?_
      refine lv_bipush (v := nI 8) hx hb dX7_defendedBy_16 kb_8 ?_
      refine lv_icmp_ge (tgt := 50) hx hb dX7_defendedBy_18 (by decide) (fun c => ?_) (fun c => ?_)
      · replace h := h.1 c
        refine lv_iload_n hx hb dX7_defendedBy_50 rfl (lv_at hl 2 rfl) ?_
        refine lv_aload_n hx hb dX7_defendedBy_51 rfl (lv_at hl 0 rfl) ?_
        refine va_get (D := G.1) (ci := 5) (v := .int s_heard) (C := RX7) (T := TX7) (N := 6) hx hb hts ki_X7 hown hK.1 hP 0 rfl rfl 3 (by decide) kf1 (fun _ h9 => h9) rfl dX7_defendedBy_52 ?_
        refine lv_iand hx hb dX7_defendedBy_55 ?_
        exact W.iret (v := v3 &&& s_heard) hx hb hr (fun t ht hW => ⟨⟨_, (), rfl, h, ⟨by rw [ht]; exact hP, hD⟩⟩, hS.F ht⟩) hS.2.2 dX7_defendedBy_56
      · replace h := h.2 c
        refine lv_aload_n hx hb dX7_defendedBy_21 rfl (lv_at hl 0 rfl) ?_
        refine va_get (D := G.1) (ci := 5) (v := .long s_defeaters) (C := RX7) (T := TX7) (N := 6) hx hb hts ki_X7 hown hK.1 hP 0 rfl rfl 5 (by decide) kf2 (fun _ h9 => h9) rfl dX7_defendedBy_22 ?_
        refine lv_iload hx hb dX7_defendedBy_25 (lv_at hl 3 rfl) ?_
        refine hc_ki (wr := [ceX7 h0 a_chosen a_marked a_surpassed s_heard s_defeats s_defeaters]) (va_runS (As := [.long s_defeaters, .int v4]) (rest := []) ⟨hx, hb, hml, hown, hts⟩ (c_X0_get l G H.size s_defeaters v4 _ h) (va_cwS 2 hts gX7_defendedBy_X0_get rfl rfl rfl (by decide +kernel) ⟨Nat.le_of_ble_eq_true rfl, Nat.le_of_ble_eq_true rfl⟩) (hc_pS hK hP hD [] rfl rfl) rfl rfl hl.1 rfl (lv_room (Nat.le_of_ble_eq_true rfl)) dX7_defendedBy_27 ⟨Nat.le_refl _, Nat.le_refl _⟩) hP hD hS hA [] [0] rfl rfl rfl (by decide) (fun r27 u H locs h hP hD hS => ?_)
        try dsimp only at h
        have hP : va_P G.1 vwCl [ceX7 h0 a_chosen a_marked a_surpassed s_heard s_defeats s_defeaters] H := hP
        have hD : va_D A [ceX7 h0 a_chosen a_marked a_surpassed s_heard s_defeats s_defeaters] := hD
        refine lv_iload_n hx hb dX7_defendedBy_30 rfl (lv_at hl 1 rfl) ?_
        refine lv_iconst (v := (-1 : Int32)) hx hb dX7_defendedBy_31 kc_m1 ?_
        refine lv_ixor hx hb dX7_defendedBy_32 ?_
        refine lv_iand hx hb dX7_defendedBy_33 ?_
        refine lv_if_ne (tgt := 44) hx hb dX7_defendedBy_34 (by decide) (fun c => ?_) (fun c => ?_)
        · replace h := h.1 c
          refine lv_iinc (v := v4 + nI 1) (lv' := [(4, .int (v4 + nI 1)), (0, .ref h0), (2, .int v2), (3, .int v3)]) hx hb dX7_defendedBy_44 hl (k := 3) rfl (congrArg (fun q => v4 + q) kc_1) (by decide) rfl (fun ls hl => ?_)
          refine lv_goto (tgt := 14) hx hb dX7_defendedBy_47 (by decide) ?_
          exact ih v2 v3 (v4 + nI 1) h _ _ _ hP hD hS (lv_sub hl [1, 2, 3, 0] rfl)
        · replace h := h.2 c
          refine lv_iload_n hx hb dX7_defendedBy_37 rfl (lv_at hl 2 rfl) ?_
          refine lv_iconst (v := nI 1) hx hb dX7_defendedBy_38 kc_1 ?_
          refine lv_iload hx hb dX7_defendedBy_39 (lv_at hl 3 rfl) ?_
          refine lv_ishl hx hb dX7_defendedBy_41 ?_
          refine lv_ior hx hb dX7_defendedBy_42 ?_
          refine lv_istore_n (lv' := [(3, .int (v3 ||| ((nI 1) <<< (v4 &&& 31)))), (0, .ref h0), (2, .int v2), (4, .int v4)]) hx hb dX7_defendedBy_43 rfl hl (by decide) rfl (fun ls hl => ?_)
          refine lv_iinc (v := v4 + nI 1) (lv' := [(4, .int (v4 + nI 1)), (3, .int (v3 ||| ((nI 1) <<< (v4 &&& 31)))), (0, .ref h0), (2, .int v2)]) hx hb dX7_defendedBy_44 hl (k := 3) rfl (congrArg (fun q => v4 + q) kc_1) (by decide) rfl (fun ls hl => ?_)
          refine lv_goto (tgt := 14) hx hb dX7_defendedBy_47 (by decide) ?_
          exact ih v2 (v3 ||| ((nI 1) <<< (v4 &&& 31))) (v4 + nI 1) h _ _ _ hP hD hS (lv_sub hl [2, 3, 1, 0] rfl)
  unfold wp_X7_defendedBy at h
  refine lv_aload_n hx hb dX7_defendedBy_0 rfl (lv_at hl 0 rfl) ?_
  refine va_get (D := G.1) (ci := 5) (v := .long s_defeats) (C := RX7) (T := TX7) (N := 6) hx hb hts ki_X7 hown hK.1 hP 0 rfl rfl 4 (by decide) kf0 (fun _ h9 => h9) rfl dX7_defendedBy_1 ?_
  refine lv_iload_n hx hb dX7_defendedBy_4 rfl (lv_at hl 1 rfl) ?_
  refine hc_ki (wr := [ceX7 h0 a_chosen a_marked a_surpassed s_heard s_defeats s_defeaters]) (va_runS (As := [.long s_defeats, .int x1]) (rest := []) ⟨hx, hb, hml, hown, hts⟩ (c_X0_reach l G s.heap.size s_defeats x1 _ h) (va_cwS 2 hts gX7_defendedBy_X0_reach rfl rfl rfl (by decide +kernel) ⟨Nat.le_of_ble_eq_true rfl, Nat.le_of_ble_eq_true rfl⟩) (hc_pS hK hP hD [] rfl rfl) rfl rfl hl.1 rfl (lv_room (Nat.le_of_ble_eq_true rfl)) dX7_defendedBy_5 ⟨Nat.le_refl _, Nat.le_refl _⟩) hP hD hS hA [] [0] rfl rfl rfl (by decide) (fun r5 u H locs h hP hD hS => ?_)
  try dsimp only at h
  have hP : va_P G.1 vwCl [ceX7 h0 a_chosen a_marked a_surpassed s_heard s_defeats s_defeaters] H := hP
  have hD : va_D A [ceX7 h0 a_chosen a_marked a_surpassed s_heard s_defeats s_defeaters] := hD
  refine lv_istore_n (lv' := [(2, .int r5), (0, .ref h0), (1, .int x1)]) hx hb dX7_defendedBy_8 rfl hl (by decide) rfl (fun ls hl => ?_)
  refine lv_iconst (v := nI 0) hx hb dX7_defendedBy_9 kc_0 ?_
  refine lv_istore_n (lv' := [(3, .int (nI 0)), (2, .int r5), (0, .ref h0), (1, .int x1)]) hx hb dX7_defendedBy_10 rfl hl (by decide) rfl (fun ls hl => ?_)
  refine lv_iconst (v := nI 0) hx hb dX7_defendedBy_11 kc_0 ?_
  refine lv_istore (lv' := [(4, .int (nI 0)), (3, .int (nI 0)), (2, .int r5), (0, .ref h0), (1, .int x1)]) hx hb dX7_defendedBy_12 hl (by decide) rfl (fun ls hl => ?_)
  obtain ⟨n14, h⟩ := h
  exact w14  n14 r5 (nI 0) (nI 0) h _ _ _ hP hD hS (lv_sub hl [3, 2, 1, 0] rfl)
set_option maxHeartbeats 4000000 in
set_option maxRecDepth 100000 in
theorem c_X7_isComplete (l : Launch) (G : hcG) (h0 : Nat) (a_chosen : Nat) (a_marked : Nat) (a_surpassed : Nat) (sz : Nat) (s_heard : Int32) (s_defeats : Int64) (s_defeaters : Int64) (x1 : Int32) (post : Int32 → Prop) (h : wp_X7_isComplete post s_heard s_defeats s_defeaters x1) : Met l yX7_isComplete wsX7_isComplete ({ frames := 3, cells := 0, slots := 0, locals := 70 }) (hcPc G [.ref h0, .int x1] [ceX7 h0 a_chosen a_marked a_surpassed s_heard s_defeats s_defeaters] sz) (va_Qi (fun (r : Int32) (u : Unit) => post r) (hcB G (va_A [ceX7 h0 a_chosen a_marked a_surpassed s_heard s_defeats s_defeaters] sz) (fun u : Unit => [ceX7 h0 a_chosen a_marked a_surpassed s_heard s_defeats s_defeaters])) (va_A [ceX7 h0 a_chosen a_marked a_surpassed s_heard s_defeats s_defeaters] sz)) 0 0 (va_A [ceX7 h0 a_chosen a_marked a_surpassed s_heard s_defeats s_defeaters] sz) := by
  refine Met.ofW (cc := cX7_isComplete) (maxL := 2) (ret := (some .boolean)) (by decide) rfl ?_
  intro p e s m args below meth c s₁ B hml hv
  obtain ⟨rfl, hsz, hP, hK, hD0⟩ := hv
  have hx := B.exec
  have hb := B.bytes
  have hr := B.returns
  have hts := atoms_spec (ws := wsX7_isComplete) B.pre
  have hown : s.vm.findClass RX7 = some m.cls := findClass_of_methodNamed B.named
  have hlocks := B.notSynchronized
  subst hsz
  have hD := hD0.self (sz := s.heap.size)
  generalize hAe : va_A [ceX7 h0 a_chosen a_marked a_surpassed s_heard s_defeats s_defeaters] s.heap.size = A at hD ⊢
  have hA : ∀ q : Nat, s.heap.size ≤ q → A q := fun q h => by rw [← hAe]; exact Or.inr h
  have hS : va_S A s.heap s.heap [] := va_S.rf
  have hP : va_P G.1 vwCl [ceX7 h0 a_chosen a_marked a_surpassed s_heard s_defeats s_defeaters] s.heap := hP
  have hl := lv_entry ([.ref h0, .int x1]) (n := 2) (Nat.le_of_ble_eq_true rfl)
  rw [lg_entry_eq]
  generalize (lg_sl ([.ref h0, .int x1]) ++ List.replicate (2 - (lg_sl ([.ref h0, .int x1])).length) Slot.unset).toArray = ls at hl ⊢
  have hl : lv_has ls 2 [(0, .ref h0), (1, .int x1)] := hl
  unfold wp_X7_isComplete at h
  refine lv_aload_n hx hb dX7_isComplete_0 rfl (lv_at hl 0 rfl) ?_
  refine lv_iload_n hx hb dX7_isComplete_1 rfl (lv_at hl 1 rfl) ?_
  refine hc_ki (wr := []) (va_runV (As := [.int x1]) (rest := []) ⟨hx, hb, hml, hown, hts⟩ (c_X7_isAdmissible l G h0 a_chosen a_marked a_surpassed s.heap.size s_heard s_defeats s_defeaters x1 _ h) (cwV 1 hts gX7_isComplete_X7_isAdmissible rfl rfl rfl (by decide +kernel) ⟨Nat.le_of_ble_eq_true rfl, Nat.le_of_ble_eq_true rfl⟩) (hc_pV hK hP hD [0] rfl rfl (ci := 5) 0 rfl rfl) rfl rfl hl.1 rfl (lv_room (Nat.le_of_ble_eq_true rfl)) dX7_isComplete_2 ⟨Nat.le_refl _, Nat.le_refl _⟩) hP hD hS hA [0] [] rfl rfl rfl (by decide) (fun r2 u H locs h hP hD hS => ?_)
  try dsimp only at h
  have hP : va_P G.1 vwCl [ceX7 h0 a_chosen a_marked a_surpassed s_heard s_defeats s_defeaters] H := hP
  have hD : va_D A [ceX7 h0 a_chosen a_marked a_surpassed s_heard s_defeats s_defeaters] := hD
  refine lv_if_eq (tgt := 24) hx hb dX7_isComplete_5 (by decide) (fun c => ?_) (fun c => ?_)
  · replace h := h.1 c
    refine lv_iconst (v := nI 0) hx hb dX7_isComplete_24 kc_0 ?_
    exact W.zret (v := nI 0) hx hb hr rfl (fun t ht hW => ⟨⟨_, (), rfl, h, ⟨by rw [ht]; exact hP, hD⟩⟩, hS.F ht⟩) hS.2.2 dX7_isComplete_25
  · replace h := h.2 c
    refine lv_aload_n hx hb dX7_isComplete_8 rfl (lv_at hl 0 rfl) ?_
    refine lv_iload_n hx hb dX7_isComplete_9 rfl (lv_at hl 1 rfl) ?_
    refine hc_ki (wr := []) (va_runV (As := [.int x1]) (rest := []) ⟨hx, hb, hml, hown, hts⟩ (c_X7_defendedBy l G h0 a_chosen a_marked a_surpassed H.size s_heard s_defeats s_defeaters x1 _ h) (cwV 1 hts gX7_isComplete_X7_defendedBy rfl rfl rfl (by decide +kernel) ⟨Nat.le_of_ble_eq_true rfl, Nat.le_of_ble_eq_true rfl⟩) (hc_pV hK hP hD [0] rfl rfl (ci := 5) 0 rfl rfl) rfl rfl hl.1 rfl (lv_room (Nat.le_of_ble_eq_true rfl)) dX7_isComplete_10 ⟨Nat.le_refl _, Nat.le_refl _⟩) hP hD hS hA [0] [] rfl rfl rfl (by decide) (fun r10 u H locs h hP hD hS => ?_)
    try dsimp only at h
    have hP : va_P G.1 vwCl [ceX7 h0 a_chosen a_marked a_surpassed s_heard s_defeats s_defeaters] H := hP
    have hD : va_D A [ceX7 h0 a_chosen a_marked a_surpassed s_heard s_defeats s_defeaters] := hD
    refine lv_iload_n hx hb dX7_isComplete_13 rfl (lv_at hl 1 rfl) ?_
    refine lv_iconst (v := (-1 : Int32)) hx hb dX7_isComplete_14 kc_m1 ?_
    refine lv_ixor hx hb dX7_isComplete_15 ?_
    refine lv_iand hx hb dX7_isComplete_16 ?_
    refine lv_if_ne (tgt := 24) hx hb dX7_isComplete_17 (by decide) (fun c => ?_) (fun c => ?_)
    · replace h := h.1 c
      refine lv_iconst (v := nI 0) hx hb dX7_isComplete_24 kc_0 ?_
      exact W.zret (v := nI 0) hx hb hr rfl (fun t ht hW => ⟨⟨_, (), rfl, h, ⟨by rw [ht]; exact hP, hD⟩⟩, hS.F ht⟩) hS.2.2 dX7_isComplete_25
    · replace h := h.2 c
      refine lv_iconst (v := nI 1) hx hb dX7_isComplete_20 kc_1 ?_
      refine lv_goto (tgt := 25) hx hb dX7_isComplete_21 (by decide) ?_
      exact W.zret (v := nI 1) hx hb hr rfl (fun t ht hW => ⟨⟨_, (), rfl, h, ⟨by rw [ht]; exact hP, hD⟩⟩, hS.F ht⟩) hS.2.2 dX7_isComplete_25
set_option maxHeartbeats 4000000 in
set_option maxRecDepth 100000 in
theorem c_X7_isFree (l : Launch) (G : hcG) (h0 : Nat) (a_chosen : Nat) (a_marked : Nat) (a_surpassed : Nat) (sz : Nat) (s_heard : Int32) (s_defeats : Int64) (s_defeaters : Int64) (x1 : Int32) (post : Int32 → Prop) (h : wp_X7_isFree post s_defeats x1) : Met l yX7_isFree wsX7_isFree ({ frames := 2, cells := 0, slots := 0, locals := 46 }) (hcPc G [.ref h0, .int x1] [ceX7 h0 a_chosen a_marked a_surpassed s_heard s_defeats s_defeaters] sz) (va_Qi (fun (r : Int32) (u : Unit) => post r) (hcB G (va_A [ceX7 h0 a_chosen a_marked a_surpassed s_heard s_defeats s_defeaters] sz) (fun u : Unit => [ceX7 h0 a_chosen a_marked a_surpassed s_heard s_defeats s_defeaters])) (va_A [ceX7 h0 a_chosen a_marked a_surpassed s_heard s_defeats s_defeaters] sz)) 0 0 (va_A [ceX7 h0 a_chosen a_marked a_surpassed s_heard s_defeats s_defeaters] sz) := by
  refine Met.ofW (cc := cX7_isFree) (maxL := 2) (ret := (some .boolean)) (by decide) rfl ?_
  intro p e s m args below meth c s₁ B hml hv
  obtain ⟨rfl, hsz, hP, hK, hD0⟩ := hv
  have hx := B.exec
  have hb := B.bytes
  have hr := B.returns
  have hts := atoms_spec (ws := wsX7_isFree) B.pre
  have hown : s.vm.findClass RX7 = some m.cls := findClass_of_methodNamed B.named
  have hlocks := B.notSynchronized
  subst hsz
  have hD := hD0.self (sz := s.heap.size)
  generalize hAe : va_A [ceX7 h0 a_chosen a_marked a_surpassed s_heard s_defeats s_defeaters] s.heap.size = A at hD ⊢
  have hA : ∀ q : Nat, s.heap.size ≤ q → A q := fun q h => by rw [← hAe]; exact Or.inr h
  have hS : va_S A s.heap s.heap [] := va_S.rf
  have hP : va_P G.1 vwCl [ceX7 h0 a_chosen a_marked a_surpassed s_heard s_defeats s_defeaters] s.heap := hP
  have hl := lv_entry ([.ref h0, .int x1]) (n := 2) (Nat.le_of_ble_eq_true rfl)
  rw [lg_entry_eq]
  generalize (lg_sl ([.ref h0, .int x1]) ++ List.replicate (2 - (lg_sl ([.ref h0, .int x1])).length) Slot.unset).toArray = ls at hl ⊢
  have hl : lv_has ls 2 [(0, .ref h0), (1, .int x1)] := hl
  have kf0 := hts (.fieldLink RX7 25 "HallOfClaims$Sorts" "defeats" "J") (List.mem_of_getElem? (i := 1) (by decide +kernel))
  have ki_X7 : ∀ w ∈ u_ws RX7 TX7 6, w ∈ wsX7_isFree := by decide +kernel
  unfold wp_X7_isFree at h
  refine lv_aload_n hx hb dX7_isFree_0 rfl (lv_at hl 0 rfl) ?_
  refine va_get (D := G.1) (ci := 5) (v := .long s_defeats) (C := RX7) (T := TX7) (N := 6) hx hb hts ki_X7 hown hK.1 hP 0 rfl rfl 4 (by decide) kf0 (fun _ h9 => h9) rfl dX7_isFree_1 ?_
  refine lv_iload_n hx hb dX7_isFree_4 rfl (lv_at hl 1 rfl) ?_
  refine hc_ki (wr := [ceX7 h0 a_chosen a_marked a_surpassed s_heard s_defeats s_defeaters]) (va_runS (As := [.long s_defeats, .int x1]) (rest := []) ⟨hx, hb, hml, hown, hts⟩ (c_X0_reach l G s.heap.size s_defeats x1 _ h) (va_cwS 2 hts gX7_isFree_X0_reach rfl rfl rfl (by decide +kernel) ⟨Nat.le_of_ble_eq_true rfl, Nat.le_of_ble_eq_true rfl⟩) (hc_pS hK hP hD [] rfl rfl) rfl rfl hl.1 rfl (lv_room (Nat.le_of_ble_eq_true rfl)) dX7_isFree_5 ⟨Nat.le_refl _, Nat.le_refl _⟩) hP hD hS hA [] [0] rfl rfl rfl (by decide) (fun r5 u H locs h hP hD hS => ?_)
  try dsimp only at h
  have hP : va_P G.1 vwCl [ceX7 h0 a_chosen a_marked a_surpassed s_heard s_defeats s_defeaters] H := hP
  have hD : va_D A [ceX7 h0 a_chosen a_marked a_surpassed s_heard s_defeats s_defeaters] := hD
  refine lv_iload_n hx hb dX7_isFree_8 rfl (lv_at hl 1 rfl) ?_
  refine lv_iand hx hb dX7_isFree_9 ?_
  refine lv_if_ne (tgt := 17) hx hb dX7_isFree_10 (by decide) (fun c => ?_) (fun c => ?_)
  · replace h := h.1 c
    refine lv_iconst (v := nI 0) hx hb dX7_isFree_17 kc_0 ?_
    exact W.zret (v := nI 0) hx hb hr rfl (fun t ht hW => ⟨⟨_, (), rfl, h, ⟨by rw [ht]; exact hP, hD⟩⟩, hS.F ht⟩) hS.2.2 dX7_isFree_18
  · replace h := h.2 c
    refine lv_iconst (v := nI 1) hx hb dX7_isFree_13 kc_1 ?_
    refine lv_goto (tgt := 18) hx hb dX7_isFree_14 (by decide) ?_
    exact W.zret (v := nI 1) hx hb hr rfl (fun t ht hW => ⟨⟨_, (), rfl, h, ⟨by rw [ht]; exact hP, hD⟩⟩, hS.F ht⟩) hS.2.2 dX7_isFree_18
set_option maxHeartbeats 4000000 in
set_option maxRecDepth 100000 in
theorem c_X7_isStable (l : Launch) (G : hcG) (sz : Nat) (x0 : Int32) (x1 : Int32) (x2 : Int64) (post : Int32 → Prop) (h : wp_X7_isStable post x0 x1 x2) : Met l yX7_isStable wsX7_isStable ({ frames := 2, cells := 0, slots := 0, locals := 46 }) (hcPc G [.int x0, .int x1, .long x2] [] sz) (va_Qi (fun (r : Int32) (u : Unit) => post r) (hcB G (va_A [] sz) (fun u : Unit => [])) (va_A [] sz)) 0 0 (va_A [] sz) := by
  refine Met.ofW (cc := cX7_isStable) (maxL := 4) (ret := (some .boolean)) (by decide) rfl ?_
  intro p e s m args below meth c s₁ B hml hv
  obtain ⟨rfl, hsz, hP, hK, hD0⟩ := hv
  have hx := B.exec
  have hb := B.bytes
  have hr := B.returns
  have hts := atoms_spec (ws := wsX7_isStable) B.pre
  have hown : s.vm.findClass RX7 = some m.cls := findClass_of_methodNamed B.named
  have hlocks := B.notSynchronized
  subst hsz
  have hD := hD0.self (sz := s.heap.size)
  generalize hAe : va_A [] s.heap.size = A at hD ⊢
  have hA : ∀ q : Nat, s.heap.size ≤ q → A q := fun q h => by rw [← hAe]; exact Or.inr h
  have hS : va_S A s.heap s.heap [] := va_S.rf
  have hP : va_P G.1 vwCl [] s.heap := hP
  have hl := lv_entry ([.int x0, .int x1, .long x2]) (n := 4) (Nat.le_of_ble_eq_true rfl)
  rw [lg_entry_eq]
  generalize (lg_sl ([.int x0, .int x1, .long x2]) ++ List.replicate (4 - (lg_sl ([.int x0, .int x1, .long x2])).length) Slot.unset).toArray = ls at hl ⊢
  have hl : lv_has ls 4 [(0, .int x0), (1, .int x1), (2, .long x2)] := hl
  unfold wp_X7_isStable at h
  refine lv_lload_n hx hb dX7_isStable_0 rfl (lv_at hl 2 rfl) ?_
  refine lv_iload_n hx hb dX7_isStable_1 rfl (lv_at hl 0 rfl) ?_
  refine hc_ki (wr := []) (va_runS (As := [.long x2, .int x0]) (rest := []) ⟨hx, hb, hml, hown, hts⟩ (c_X0_reach l G s.heap.size x2 x0 _ h) (va_cwS 2 hts gX7_isStable_X0_reach rfl rfl rfl (by decide +kernel) ⟨Nat.le_of_ble_eq_true rfl, Nat.le_of_ble_eq_true rfl⟩) (hc_pS hK hP hD [] rfl rfl) rfl rfl hl.1 rfl (lv_room (Nat.le_of_ble_eq_true rfl)) dX7_isStable_2 ⟨Nat.le_refl _, Nat.le_refl _⟩) hP hD hS hA [] [] rfl rfl rfl (by decide) (fun r2 u H locs h hP hD hS => ?_)
  try dsimp only at h
  have hP : va_P G.1 vwCl [] H := hP
  have hD : va_D A [] := hD
  refine lv_iload_n hx hb dX7_isStable_5 rfl (lv_at hl 1 rfl) ?_
  refine lv_iload_n hx hb dX7_isStable_6 rfl (lv_at hl 0 rfl) ?_
  refine lv_iconst (v := (-1 : Int32)) hx hb dX7_isStable_7 kc_m1 ?_
  refine lv_ixor hx hb dX7_isStable_8 ?_
  refine lv_iand hx hb dX7_isStable_9 ?_
  refine lv_icmp_ne (tgt := 17) hx hb dX7_isStable_10 (by decide) (fun c => ?_) (fun c => ?_)
  · replace h := h.1 c
    refine lv_iconst (v := nI 0) hx hb dX7_isStable_17 kc_0 ?_
    exact W.zret (v := nI 0) hx hb hr rfl (fun t ht hW => ⟨⟨_, (), rfl, h, ⟨by rw [ht]; exact hP, hD⟩⟩, hS.F ht⟩) hS.2.2 dX7_isStable_18
  · replace h := h.2 c
    refine lv_iconst (v := nI 1) hx hb dX7_isStable_13 kc_1 ?_
    refine lv_goto (tgt := 18) hx hb dX7_isStable_14 (by decide) ?_
    exact W.zret (v := nI 1) hx hb hr rfl (fun t ht hW => ⟨⟨_, (), rfl, h, ⟨by rw [ht]; exact hP, hD⟩⟩, hS.F ht⟩) hS.2.2 dX7_isStable_18
set_option maxHeartbeats 4000000 in
set_option maxRecDepth 100000 in
theorem c_X7_isOf (l : Launch) (G : hcG) (h0 : Nat) (a_chosen : Nat) (a_marked : Nat) (a_surpassed : Nat) (sz : Nat) (s_heard : Int32) (s_defeats : Int64) (s_defeaters : Int64) (x1 : Int32) (x2 : Int32) (post : Int32 → Prop) (h : wp_X7_isOf post s_heard s_defeats s_defeaters x1 x2) : Met l yX7_isOf wsX7_isOf ({ frames := 4, cells := 0, slots := 0, locals := 91 }) (hcPc G [.ref h0, .int x1, .int x2] [ceX7 h0 a_chosen a_marked a_surpassed s_heard s_defeats s_defeaters] sz) (va_Qi (fun (r : Int32) (u : Unit) => post r) (hcB G (va_A [ceX7 h0 a_chosen a_marked a_surpassed s_heard s_defeats s_defeaters] sz) (fun u : Unit => [ceX7 h0 a_chosen a_marked a_surpassed s_heard s_defeats s_defeaters])) (va_A [ceX7 h0 a_chosen a_marked a_surpassed s_heard s_defeats s_defeaters] sz)) 0 0 (va_A [ceX7 h0 a_chosen a_marked a_surpassed s_heard s_defeats s_defeaters] sz) := by
  refine Met.ofW (cc := cX7_isOf) (maxL := 3) (ret := (some .boolean)) (by decide) rfl ?_
  intro p e s m args below meth c s₁ B hml hv
  obtain ⟨rfl, hsz, hP, hK, hD0⟩ := hv
  have hx := B.exec
  have hb := B.bytes
  have hr := B.returns
  have hts := atoms_spec (ws := wsX7_isOf) B.pre
  have hown : s.vm.findClass RX7 = some m.cls := findClass_of_methodNamed B.named
  have hlocks := B.notSynchronized
  subst hsz
  have hD := hD0.self (sz := s.heap.size)
  generalize hAe : va_A [ceX7 h0 a_chosen a_marked a_surpassed s_heard s_defeats s_defeaters] s.heap.size = A at hD ⊢
  have hA : ∀ q : Nat, s.heap.size ≤ q → A q := fun q h => by rw [← hAe]; exact Or.inr h
  have hS : va_S A s.heap s.heap [] := va_S.rf
  have hP : va_P G.1 vwCl [ceX7 h0 a_chosen a_marked a_surpassed s_heard s_defeats s_defeaters] s.heap := hP
  have hl := lv_entry ([.ref h0, .int x1, .int x2]) (n := 3) (Nat.le_of_ble_eq_true rfl)
  rw [lg_entry_eq]
  generalize (lg_sl ([.ref h0, .int x1, .int x2]) ++ List.replicate (3 - (lg_sl ([.ref h0, .int x1, .int x2])).length) Slot.unset).toArray = ls at hl ⊢
  have hl : lv_has ls 3 [(0, .ref h0), (1, .int x1), (2, .int x2)] := hl
  have kf0 := hts (.fieldLink RX7 21 "HallOfClaims$Sorts" "heard" "I") (List.mem_of_getElem? (i := 1) (by decide +kernel))
  have kf1 := hts (.fieldLink RX7 25 "HallOfClaims$Sorts" "defeats" "J") (List.mem_of_getElem? (i := 2) (by decide +kernel))
  have ki_X7 : ∀ w ∈ u_ws RX7 TX7 6, w ∈ wsX7_isOf := by decide +kernel
  unfold wp_X7_isOf at h
  refine lv_iload_n hx hb dX7_isOf_0 rfl (lv_at hl 1 rfl) ?_
  rcases hc_sw5 x1 with c | c | c | c | c | c | c
  · refine lv_tableOut (tgt := 83) hx hb dX7_isOf_1 c (by decide) ?_
    replace h := h.1 c
    refine lv_iconst (v := nI 0) hx hb dX7_isOf_83 kc_0 ?_
    exact W.zret (v := nI 0) hx hb hr rfl (fun t ht hW => ⟨⟨_, (), rfl, h, ⟨by rw [ht]; exact hP, hD⟩⟩, hS.F ht⟩) hS.2.2 dX7_isOf_84
  · refine lv_tableIn (tgt := 40) (off := 39) hx hb dX7_isOf_1 (by rw [c]; decide) (by rw [c]; decide) (by rw [c]; decide +kernel) (by decide) ?_
    replace h := h.2.1 c
    refine lv_aload_n hx hb dX7_isOf_40 rfl (lv_at hl 0 rfl) ?_
    refine lv_iload_n hx hb dX7_isOf_41 rfl (lv_at hl 2 rfl) ?_
    refine hc_ki (wr := []) (va_runV (As := [.int x2]) (rest := []) ⟨hx, hb, hml, hown, hts⟩ (c_X7_isFree l G h0 a_chosen a_marked a_surpassed s.heap.size s_heard s_defeats s_defeaters x2 _ h) (cwV 1 hts gX7_isOf_X7_isFree rfl rfl rfl (by decide +kernel) ⟨Nat.le_of_ble_eq_true rfl, Nat.le_of_ble_eq_true rfl⟩) (hc_pV hK hP hD [0] rfl rfl (ci := 5) 0 rfl rfl) rfl rfl hl.1 rfl (lv_room (Nat.le_of_ble_eq_true rfl)) dX7_isOf_42 ⟨Nat.le_refl _, Nat.le_refl _⟩) hP hD hS hA [0] [] rfl rfl rfl (by decide) (fun r42 u H locs h hP hD hS => ?_)
    try dsimp only at h
    have hP : va_P G.1 vwCl [ceX7 h0 a_chosen a_marked a_surpassed s_heard s_defeats s_defeaters] H := hP
    have hD : va_D A [ceX7 h0 a_chosen a_marked a_surpassed s_heard s_defeats s_defeaters] := hD
    have hz := h.1
    replace h := h.2
    exact W.zret (v := r42) hx hb hr (hc_nar hz) (fun t ht hW => ⟨⟨_, (), rfl, h, ⟨by rw [ht]; exact hP, hD⟩⟩, hS.F ht⟩) hS.2.2 dX7_isOf_45
  · refine lv_tableIn (tgt := 46) (off := 45) hx hb dX7_isOf_1 (by rw [c]; decide) (by rw [c]; decide) (by rw [c]; decide +kernel) (by decide) ?_
    replace h := h.2.2.1 c
    refine lv_aload_n hx hb dX7_isOf_46 rfl (lv_at hl 0 rfl) ?_
    refine lv_iload_n hx hb dX7_isOf_47 rfl (lv_at hl 2 rfl) ?_
    refine hc_ki (wr := []) (va_runV (As := [.int x2]) (rest := []) ⟨hx, hb, hml, hown, hts⟩ (c_X7_isAdmissible l G h0 a_chosen a_marked a_surpassed s.heap.size s_heard s_defeats s_defeaters x2 _ h) (cwV 1 hts gX7_isOf_X7_isAdmissible rfl rfl rfl (by decide +kernel) ⟨Nat.le_of_ble_eq_true rfl, Nat.le_of_ble_eq_true rfl⟩) (hc_pV hK hP hD [0] rfl rfl (ci := 5) 0 rfl rfl) rfl rfl hl.1 rfl (lv_room (Nat.le_of_ble_eq_true rfl)) dX7_isOf_48 ⟨Nat.le_refl _, Nat.le_refl _⟩) hP hD hS hA [0] [] rfl rfl rfl (by decide) (fun r48 u H locs h hP hD hS => ?_)
    try dsimp only at h
    have hP : va_P G.1 vwCl [ceX7 h0 a_chosen a_marked a_surpassed s_heard s_defeats s_defeaters] H := hP
    have hD : va_D A [ceX7 h0 a_chosen a_marked a_surpassed s_heard s_defeats s_defeaters] := hD
    have hz := h.1
    replace h := h.2
    exact W.zret (v := r48) hx hb hr (hc_nar hz) (fun t ht hW => ⟨⟨_, (), rfl, h, ⟨by rw [ht]; exact hP, hD⟩⟩, hS.F ht⟩) hS.2.2 dX7_isOf_51
  · refine lv_tableIn (tgt := 52) (off := 51) hx hb dX7_isOf_1 (by rw [c]; decide) (by rw [c]; decide) (by rw [c]; decide +kernel) (by decide) ?_
    replace h := h.2.2.2.1 c
    refine lv_aload_n hx hb dX7_isOf_52 rfl (lv_at hl 0 rfl) ?_
    refine lv_iload_n hx hb dX7_isOf_53 rfl (lv_at hl 2 rfl) ?_
    refine hc_ki (wr := []) (va_runV (As := [.int x2]) (rest := []) ⟨hx, hb, hml, hown, hts⟩ (c_X7_isComplete l G h0 a_chosen a_marked a_surpassed s.heap.size s_heard s_defeats s_defeaters x2 _ h) (cwV 1 hts gX7_isOf_X7_isComplete rfl rfl rfl (by decide +kernel) ⟨Nat.le_of_ble_eq_true rfl, Nat.le_of_ble_eq_true rfl⟩) (hc_pV hK hP hD [0] rfl rfl (ci := 5) 0 rfl rfl) rfl rfl hl.1 rfl (lv_room (Nat.le_of_ble_eq_true rfl)) dX7_isOf_54 ⟨Nat.le_refl _, Nat.le_refl _⟩) hP hD hS hA [0] [] rfl rfl rfl (by decide) (fun r54 u H locs h hP hD hS => ?_)
    try dsimp only at h
    have hP : va_P G.1 vwCl [ceX7 h0 a_chosen a_marked a_surpassed s_heard s_defeats s_defeaters] H := hP
    have hD : va_D A [ceX7 h0 a_chosen a_marked a_surpassed s_heard s_defeats s_defeaters] := hD
    have hz := h.1
    replace h := h.2
    exact W.zret (v := r54) hx hb hr (hc_nar hz) (fun t ht hW => ⟨⟨_, (), rfl, h, ⟨by rw [ht]; exact hP, hD⟩⟩, hS.F ht⟩) hS.2.2 dX7_isOf_57
  · refine lv_tableIn (tgt := 58) (off := 57) hx hb dX7_isOf_1 (by rw [c]; decide) (by rw [c]; decide) (by rw [c]; decide +kernel) (by decide) ?_
    replace h := h.2.2.2.2.1 c
    refine lv_aload_n hx hb dX7_isOf_58 rfl (lv_at hl 0 rfl) ?_
    refine lv_iload_n hx hb dX7_isOf_59 rfl (lv_at hl 2 rfl) ?_
    refine hc_ki (wr := []) (va_runV (As := [.int x2]) (rest := []) ⟨hx, hb, hml, hown, hts⟩ (c_X7_isAdmissible l G h0 a_chosen a_marked a_surpassed s.heap.size s_heard s_defeats s_defeaters x2 _ h) (cwV 1 hts gX7_isOf_X7_isAdmissible rfl rfl rfl (by decide +kernel) ⟨Nat.le_of_ble_eq_true rfl, Nat.le_of_ble_eq_true rfl⟩) (hc_pV hK hP hD [0] rfl rfl (ci := 5) 0 rfl rfl) rfl rfl hl.1 rfl (lv_room (Nat.le_of_ble_eq_true rfl)) dX7_isOf_60 ⟨Nat.le_refl _, Nat.le_refl _⟩) hP hD hS hA [0] [] rfl rfl rfl (by decide) (fun r60 u H locs h hP hD hS => ?_)
    try dsimp only at h
    have hP : va_P G.1 vwCl [ceX7 h0 a_chosen a_marked a_surpassed s_heard s_defeats s_defeaters] H := hP
    have hD : va_D A [ceX7 h0 a_chosen a_marked a_surpassed s_heard s_defeats s_defeaters] := hD
    have hz := h.1
    replace h := h.2
    exact W.zret (v := r60) hx hb hr (hc_nar hz) (fun t ht hW => ⟨⟨_, (), rfl, h, ⟨by rw [ht]; exact hP, hD⟩⟩, hS.F ht⟩) hS.2.2 dX7_isOf_63
  · refine lv_tableIn (tgt := 64) (off := 63) hx hb dX7_isOf_1 (by rw [c]; decide) (by rw [c]; decide) (by rw [c]; decide +kernel) (by decide) ?_
    replace h := h.2.2.2.2.2.1 c
    refine lv_iload_n hx hb dX7_isOf_64 rfl (lv_at hl 2 rfl) ?_
    refine lv_aload_n hx hb dX7_isOf_65 rfl (lv_at hl 0 rfl) ?_
    refine va_get (D := G.1) (ci := 5) (v := .int s_heard) (C := RX7) (T := TX7) (N := 6) hx hb hts ki_X7 hown hK.1 hP 0 rfl rfl 3 (by decide) kf0 (fun _ h9 => h9) rfl dX7_isOf_66 ?_
    refine lv_aload_n hx hb dX7_isOf_69 rfl (lv_at hl 0 rfl) ?_
    refine va_get (D := G.1) (ci := 5) (v := .long s_defeats) (C := RX7) (T := TX7) (N := 6) hx hb hts ki_X7 hown hK.1 hP 0 rfl rfl 4 (by decide) kf1 (fun _ h9 => h9) rfl dX7_isOf_70 ?_
    refine hc_ki (wr := [ceX7 h0 a_chosen a_marked a_surpassed s_heard s_defeats s_defeaters]) (va_runS (As := [.int x2, .int s_heard, .long s_defeats]) (rest := []) ⟨hx, hb, hml, hown, hts⟩ (c_X7_isStable l G s.heap.size x2 s_heard s_defeats _ h) (va_cwS 3 hts gX7_isOf_X7_isStable rfl rfl rfl (by decide +kernel) ⟨Nat.le_of_ble_eq_true rfl, Nat.le_of_ble_eq_true rfl⟩) (hc_pS hK hP hD [] rfl rfl) rfl rfl hl.1 rfl (lv_room (Nat.le_of_ble_eq_true rfl)) dX7_isOf_73 ⟨Nat.le_refl _, Nat.le_refl _⟩) hP hD hS hA [] [0] rfl rfl rfl (by decide) (fun r73 u H locs h hP hD hS => ?_)
    try dsimp only at h
    have hP : va_P G.1 vwCl [ceX7 h0 a_chosen a_marked a_surpassed s_heard s_defeats s_defeaters] H := hP
    have hD : va_D A [ceX7 h0 a_chosen a_marked a_surpassed s_heard s_defeats s_defeaters] := hD
    have hz := h.1
    replace h := h.2
    exact W.zret (v := r73) hx hb hr (hc_nar hz) (fun t ht hW => ⟨⟨_, (), rfl, h, ⟨by rw [ht]; exact hP, hD⟩⟩, hS.F ht⟩) hS.2.2 dX7_isOf_76
  · refine lv_tableIn (tgt := 77) (off := 76) hx hb dX7_isOf_1 (by rw [c]; decide) (by rw [c]; decide) (by rw [c]; decide +kernel) (by decide) ?_
    replace h := h.2.2.2.2.2.2 c
    refine lv_aload_n hx hb dX7_isOf_77 rfl (lv_at hl 0 rfl) ?_
    refine lv_iload_n hx hb dX7_isOf_78 rfl (lv_at hl 2 rfl) ?_
    refine hc_ki (wr := []) (va_runV (As := [.int x2]) (rest := []) ⟨hx, hb, hml, hown, hts⟩ (c_X7_isComplete l G h0 a_chosen a_marked a_surpassed s.heap.size s_heard s_defeats s_defeaters x2 _ h) (cwV 1 hts gX7_isOf_X7_isComplete rfl rfl rfl (by decide +kernel) ⟨Nat.le_of_ble_eq_true rfl, Nat.le_of_ble_eq_true rfl⟩) (hc_pV hK hP hD [0] rfl rfl (ci := 5) 0 rfl rfl) rfl rfl hl.1 rfl (lv_room (Nat.le_of_ble_eq_true rfl)) dX7_isOf_79 ⟨Nat.le_refl _, Nat.le_refl _⟩) hP hD hS hA [0] [] rfl rfl rfl (by decide) (fun r79 u H locs h hP hD hS => ?_)
    try dsimp only at h
    have hP : va_P G.1 vwCl [ceX7 h0 a_chosen a_marked a_surpassed s_heard s_defeats s_defeaters] H := hP
    have hD : va_D A [ceX7 h0 a_chosen a_marked a_surpassed s_heard s_defeats s_defeaters] := hD
    have hz := h.1
    replace h := h.2
    exact W.zret (v := r79) hx hb hr (hc_nar hz) (fun t ht hW => ⟨⟨_, (), rfl, h, ⟨by rw [ht]; exact hP, hD⟩⟩, hS.F ht⟩) hS.2.2 dX7_isOf_82
set_option maxHeartbeats 4000000 in
set_option maxRecDepth 100000 in
theorem c_X7_select (l : Launch) (G : hcG) (h0 : Nat) (a_chosen : Nat) (a_marked : Nat) (a_surpassed : Nat) (hp3 : Nat) (sz : Nat) (s_heard : Int32) (s_defeats : Int64) (s_defeaters : Int64) (s_p3_hits : Int64) (s_p3_leads : Int64) (s_p3_defeats : Int64) (s_p3_defeaters : Int64) (g_chosen : Nat → Int32) (g_marked : Nat → Int32) (g_surpassed : Nat → Int32) (x1 : Int32) (x2 : Int32) (post : (Nat → Int32) → (Nat → Int32) → (Nat → Int32) → Int32 → Int64 → Int64 → Prop) (h : wp_X7_select post g_chosen g_marked g_surpassed s_heard s_defeats s_defeaters s_p3_defeats s_p3_defeaters x1 x2) : Met l yX7_select wsX7_select ({ frames := 5, cells := 0, slots := 0, locals := 113 }) (hcPc G [.ref h0, .int x1, .int x2, .ref hp3] [ceX7 h0 a_chosen a_marked a_surpassed s_heard s_defeats s_defeaters, ceX1 hp3 s_p3_hits s_p3_leads s_p3_defeats s_p3_defeaters, caZ G a_chosen 256 g_chosen, caZ G a_marked 256 g_marked, caZ G a_surpassed 256 g_surpassed] sz) (va_Qv (fun u : (Nat → Int32) × (Nat → Int32) × (Nat → Int32) × Int32 × Int64 × Int64 => post u.1 u.2.1 u.2.2.1 u.2.2.2.1 u.2.2.2.2.1 u.2.2.2.2.2) (hcB G (va_A [ceX7 h0 a_chosen a_marked a_surpassed s_heard s_defeats s_defeaters, ceX1 hp3 s_p3_hits s_p3_leads s_p3_defeats s_p3_defeaters, caZ G a_chosen 256 g_chosen, caZ G a_marked 256 g_marked, caZ G a_surpassed 256 g_surpassed] sz) (fun u : (Nat → Int32) × (Nat → Int32) × (Nat → Int32) × Int32 × Int64 × Int64 => [ceX7 h0 a_chosen a_marked a_surpassed u.2.2.2.1 u.2.2.2.2.1 u.2.2.2.2.2, ceX1 hp3 s_p3_hits s_p3_leads s_p3_defeats s_p3_defeaters, caZ G a_chosen 256 u.1, caZ G a_marked 256 u.2.1, caZ G a_surpassed 256 u.2.2.1])) (va_A [ceX7 h0 a_chosen a_marked a_surpassed s_heard s_defeats s_defeaters, ceX1 hp3 s_p3_hits s_p3_leads s_p3_defeats s_p3_defeaters, caZ G a_chosen 256 g_chosen, caZ G a_marked 256 g_marked, caZ G a_surpassed 256 g_surpassed] sz)) 0 0 (va_A [ceX7 h0 a_chosen a_marked a_surpassed s_heard s_defeats s_defeaters, ceX1 hp3 s_p3_hits s_p3_leads s_p3_defeats s_p3_defeaters, caZ G a_chosen 256 g_chosen, caZ G a_marked 256 g_marked, caZ G a_surpassed 256 g_surpassed] sz) := by
  refine Met.ofW (cc := cX7_select) (maxL := 5) (ret := none) (by decide) rfl ?_
  intro p e s m args below meth c s₁ B hml hv
  obtain ⟨rfl, hsz, hP, hK, hD0⟩ := hv
  have hx := B.exec
  have hb := B.bytes
  have hr := B.returns
  have hts := atoms_spec (ws := wsX7_select) B.pre
  have hown : s.vm.findClass RX7 = some m.cls := findClass_of_methodNamed B.named
  have hlocks := B.notSynchronized
  subst hsz
  have hD := hD0.self (sz := s.heap.size)
  generalize hAe : va_A [ceX7 h0 a_chosen a_marked a_surpassed s_heard s_defeats s_defeaters, ceX1 hp3 s_p3_hits s_p3_leads s_p3_defeats s_p3_defeaters, caZ G a_chosen 256 g_chosen, caZ G a_marked 256 g_marked, caZ G a_surpassed 256 g_surpassed] s.heap.size = A at hD ⊢
  have hA : ∀ q : Nat, s.heap.size ≤ q → A q := fun q h => by rw [← hAe]; exact Or.inr h
  have hS : va_S A s.heap s.heap [] := va_S.rf
  have hP : va_P G.1 vwCl [ceX7 h0 a_chosen a_marked a_surpassed s_heard s_defeats s_defeaters, ceX1 hp3 s_p3_hits s_p3_leads s_p3_defeats s_p3_defeaters, caZ G a_chosen 256 g_chosen, caZ G a_marked 256 g_marked, caZ G a_surpassed 256 g_surpassed] s.heap := hP
  have hl := lv_entry ([.ref h0, .int x1, .int x2, .ref hp3]) (n := 5) (Nat.le_of_ble_eq_true rfl)
  rw [lg_entry_eq]
  generalize (lg_sl ([.ref h0, .int x1, .int x2, .ref hp3]) ++ List.replicate (5 - (lg_sl ([.ref h0, .int x1, .int x2, .ref hp3])).length) Slot.unset).toArray = ls at hl ⊢
  have hl : lv_has ls 5 [(0, .ref h0), (1, .int x1), (2, .int x2), (3, .ref hp3)] := hl
  have kf0 := hts (.fieldLink RX7 21 "HallOfClaims$Sorts" "heard" "I") (List.mem_of_getElem? (i := 1) (by decide +kernel))
  have kf1 := hts (.fieldLink RX7 32 "HallOfClaims$Defeats" "defeats" "J") (List.mem_of_getElem? (i := 2) (by decide +kernel))
  have kf2 := hts (.fieldLink RX7 25 "HallOfClaims$Sorts" "defeats" "J") (List.mem_of_getElem? (i := 3) (by decide +kernel))
  have kf3 := hts (.fieldLink RX7 35 "HallOfClaims$Defeats" "defeaters" "J") (List.mem_of_getElem? (i := 4) (by decide +kernel))
  have kf4 := hts (.fieldLink RX7 29 "HallOfClaims$Sorts" "defeaters" "J") (List.mem_of_getElem? (i := 5) (by decide +kernel))
  have kf5 := hts (.fieldLink RX7 9 "HallOfClaims$Sorts" "chosen" "[Z") (List.mem_of_getElem? (i := 6) (by decide +kernel))
  have ki_X7 : ∀ w ∈ u_ws RX7 TX7 6, w ∈ wsX7_select := by decide +kernel
  have ki_X1 : ∀ w ∈ u_ws RX1 TX1 4, w ∈ wsX7_select := by decide +kernel
  have w84 : ∀ (g_chosen : Nat → Int32) (g_marked : Nat → Int32) (g_surpassed : Nat → Int32) (s_heard : Int32) (s_defeats : Int64) (s_defeaters : Int64) , wp_X7_select_84 post s_p3_defeats s_p3_defeaters x1 x2 g_chosen g_marked g_surpassed s_heard s_defeats s_defeaters → ∀ (H : Heap) (locs : List Loc) (ls : Array Slot), va_P G.1 vwCl [ceX7 h0 a_chosen a_marked a_surpassed s_heard s_defeats s_defeaters, ceX1 hp3 s_p3_hits s_p3_leads s_p3_defeats s_p3_defeaters, caZ G a_chosen 256 g_chosen, caZ G a_marked 256 g_marked, caZ G a_surpassed 256 g_surpassed] H → va_D A [ceX7 h0 a_chosen a_marked a_surpassed s_heard s_defeats s_defeaters, ceX1 hp3 s_p3_hits s_p3_leads s_p3_defeats s_p3_defeaters, caZ G a_chosen 256 g_chosen, caZ G a_marked 256 g_marked, caZ G a_surpassed 256 g_surpassed] → va_S A s.heap H locs → lv_has ls 5 [(0, .ref h0), (1, .int x1)] → W p l e (headSpec wsX7_select ({ frames := 5, cells := 0, slots := 0, locals := 113 })).room s m ([.ref h0, .int x1, .int x2, .ref hp3] : List Value).toArray below meth c H locs 0 0 (MQ below (va_Qv (fun u : (Nat → Int32) × (Nat → Int32) × (Nat → Int32) × Int32 × Int64 × Int64 => post u.1 u.2.1 u.2.2.1 u.2.2.2.1 u.2.2.2.2.1 u.2.2.2.2.2) (hcB G A (fun u : (Nat → Int32) × (Nat → Int32) × (Nat → Int32) × Int32 × Int64 × Int64 => [ceX7 h0 a_chosen a_marked a_surpassed u.2.2.2.1 u.2.2.2.2.1 u.2.2.2.2.2, ceX1 hp3 s_p3_hits s_p3_leads s_p3_defeats s_p3_defeaters, caZ G a_chosen 256 u.1, caZ G a_marked 256 u.2.1, caZ G a_surpassed 256 u.2.2.1])) A) ([.ref h0, .int x1, .int x2, .ref hp3] : List Value).toArray s 0 0 A) (F0 m 84 ls []) := by
    intro g_chosen g_marked g_surpassed s_heard s_defeats s_defeaters h H locs ls hP hD hS hl
    unfold wp_X7_select_84 at h
    refine lv_aload_n hx hb dX7_select_84 rfl (lv_at hl 0 rfl) ?_
    refine lv_iload_n hx hb dX7_select_85 rfl (lv_at hl 1 rfl) ?_
    refine lv_iconst (v := nI 5) hx hb dX7_select_86 kc_5 ?_
    refine lv_icmp_ne (tgt := 94) hx hb dX7_select_87 (by decide) (fun c => ?_) (fun c => ?_)
    · replace h := h.1 c
      refine lv_iconst (v := nI 0) hx hb dX7_select_94 kc_0 ?_
      refine hc_kv (wr := [ceX1 hp3 s_p3_hits s_p3_leads s_p3_defeats s_p3_defeaters]) (va_runV (As := [.int (nI 0)]) (rest := []) ⟨hx, hb, hml, hown, hts⟩ (c_X7_dropSurpassed l G h0 a_chosen a_marked a_surpassed H.size s_heard s_defeats s_defeaters g_chosen g_marked g_surpassed (nI 0) _ h) (cwV 1 hts gX7_select_X7_dropSurpassed rfl rfl rfl (by decide +kernel) ⟨Nat.le_of_ble_eq_true rfl, Nat.le_of_ble_eq_true rfl⟩) (hc_pV hK hP hD [0, 2, 3, 4] rfl rfl (ci := 5) 0 rfl rfl) rfl rfl hl.1 rfl (lv_room (Nat.le_of_ble_eq_true rfl)) dX7_select_95 ⟨Nat.le_refl _, Nat.le_refl _⟩) hP hD hS hA [0, 2, 3, 4] [1] rfl rfl rfl (by decide) (fun u H locs h hP hD hS => ?_)
      obtain ⟨g_chosen_95, g_marked_95, g_surpassed_95⟩ := u
      try dsimp only at h
      have hP : va_P G.1 vwCl [ceX1 hp3 s_p3_hits s_p3_leads s_p3_defeats s_p3_defeaters, ceX7 h0 a_chosen a_marked a_surpassed s_heard s_defeats s_defeaters, caZ G a_chosen 256 g_chosen_95, caZ G a_marked 256 g_marked_95, caZ G a_surpassed 256 g_surpassed_95] H := hP
      have hD : va_D A [ceX1 hp3 s_p3_hits s_p3_leads s_p3_defeats s_p3_defeaters, ceX7 h0 a_chosen a_marked a_surpassed s_heard s_defeats s_defeaters, caZ G a_chosen 256 g_chosen_95, caZ G a_marked 256 g_marked_95, caZ G a_surpassed 256 g_surpassed_95] := hD
      exact W.vret hx hb hr (fun t ht hW => ⟨⟨⟨g_chosen_95, g_marked_95, g_surpassed_95, s_heard, s_defeats, s_defeaters⟩, rfl, h, ⟨by rw [ht]; exact (hP.sub [1, 0, 2, 3, 4] rfl), (hD.sub [1, 0, 2, 3, 4] (by decide) rfl)⟩⟩, hS.F ht⟩) hS.2.2 dX7_select_98
    · replace h := h.2 c
      refine lv_iconst (v := nI 1) hx hb dX7_select_90 kc_1 ?_
      refine lv_goto (tgt := 95) hx hb dX7_select_91 (by decide) ?_
      refine hc_kv (wr := [ceX1 hp3 s_p3_hits s_p3_leads s_p3_defeats s_p3_defeaters]) (va_runV (As := [.int (nI 1)]) (rest := []) ⟨hx, hb, hml, hown, hts⟩ (c_X7_dropSurpassed l G h0 a_chosen a_marked a_surpassed H.size s_heard s_defeats s_defeaters g_chosen g_marked g_surpassed (nI 1) _ h) (cwV 1 hts gX7_select_X7_dropSurpassed rfl rfl rfl (by decide +kernel) ⟨Nat.le_of_ble_eq_true rfl, Nat.le_of_ble_eq_true rfl⟩) (hc_pV hK hP hD [0, 2, 3, 4] rfl rfl (ci := 5) 0 rfl rfl) rfl rfl hl.1 rfl (lv_room (Nat.le_of_ble_eq_true rfl)) dX7_select_95 ⟨Nat.le_refl _, Nat.le_refl _⟩) hP hD hS hA [0, 2, 3, 4] [1] rfl rfl rfl (by decide) (fun u H locs h hP hD hS => ?_)
      obtain ⟨g_chosen_95, g_marked_95, g_surpassed_95⟩ := u
      try dsimp only at h
      have hP : va_P G.1 vwCl [ceX1 hp3 s_p3_hits s_p3_leads s_p3_defeats s_p3_defeaters, ceX7 h0 a_chosen a_marked a_surpassed s_heard s_defeats s_defeaters, caZ G a_chosen 256 g_chosen_95, caZ G a_marked 256 g_marked_95, caZ G a_surpassed 256 g_surpassed_95] H := hP
      have hD : va_D A [ceX1 hp3 s_p3_hits s_p3_leads s_p3_defeats s_p3_defeaters, ceX7 h0 a_chosen a_marked a_surpassed s_heard s_defeats s_defeaters, caZ G a_chosen 256 g_chosen_95, caZ G a_marked 256 g_marked_95, caZ G a_surpassed 256 g_surpassed_95] := hD
      exact W.vret hx hb hr (fun t ht hW => ⟨⟨⟨g_chosen_95, g_marked_95, g_surpassed_95, s_heard, s_defeats, s_defeaters⟩, rfl, h, ⟨by rw [ht]; exact (hP.sub [1, 0, 2, 3, 4] rfl), (hD.sub [1, 0, 2, 3, 4] (by decide) rfl)⟩⟩, hS.F ht⟩) hS.2.2 dX7_select_98
  have w24 : ∀ (n : Nat) (v4 : Int32) (g_chosen : Nat → Int32) (g_marked : Nat → Int32) (g_surpassed : Nat → Int32) (s_heard : Int32) (s_defeats : Int64) (s_defeaters : Int64) , wp_X7_select_24 post s_p3_defeats s_p3_defeaters x1 x2 n v4 g_chosen g_marked g_surpassed s_heard s_defeats s_defeaters → ∀ (H : Heap) (locs : List Loc) (ls : Array Slot), va_P G.1 vwCl [ceX7 h0 a_chosen a_marked a_surpassed s_heard s_defeats s_defeaters, ceX1 hp3 s_p3_hits s_p3_leads s_p3_defeats s_p3_defeaters, caZ G a_chosen 256 g_chosen, caZ G a_marked 256 g_marked, caZ G a_surpassed 256 g_surpassed] H → va_D A [ceX7 h0 a_chosen a_marked a_surpassed s_heard s_defeats s_defeaters, ceX1 hp3 s_p3_hits s_p3_leads s_p3_defeats s_p3_defeaters, caZ G a_chosen 256 g_chosen, caZ G a_marked 256 g_marked, caZ G a_surpassed 256 g_surpassed] → va_S A s.heap H locs → lv_has ls 5 [(0, .ref h0), (1, .int x1), (4, .int v4)] → W p l e (headSpec wsX7_select ({ frames := 5, cells := 0, slots := 0, locals := 113 })).room s m ([.ref h0, .int x1, .int x2, .ref hp3] : List Value).toArray below meth c H locs 0 0 (MQ below (va_Qv (fun u : (Nat → Int32) × (Nat → Int32) × (Nat → Int32) × Int32 × Int64 × Int64 => post u.1 u.2.1 u.2.2.1 u.2.2.2.1 u.2.2.2.2.1 u.2.2.2.2.2) (hcB G A (fun u : (Nat → Int32) × (Nat → Int32) × (Nat → Int32) × Int32 × Int64 × Int64 => [ceX7 h0 a_chosen a_marked a_surpassed u.2.2.2.1 u.2.2.2.2.1 u.2.2.2.2.2, ceX1 hp3 s_p3_hits s_p3_leads s_p3_defeats s_p3_defeaters, caZ G a_chosen 256 u.1, caZ G a_marked 256 u.2.1, caZ G a_surpassed 256 u.2.2.1])) A) ([.ref h0, .int x1, .int x2, .ref hp3] : List Value).toArray s 0 0 A) (F0 m 24 ls []) := by
    intro n
    induction n with
    | zero => intro v4 g_chosen g_marked g_surpassed s_heard s_defeats s_defeaters h; exact h.elim
    | succ n ih =>
      intro v4 g_chosen g_marked g_surpassed s_heard s_defeats s_defeaters h H locs ls hP hD hS hl
      unfold wp_X7_select_24 at h
      refine lv_iload hx hb dX7_select_24 (lv_at hl 2 rfl) ?_
      refine lv_aload_n hx hb dX7_select_26 rfl (lv_at hl 0 rfl) ?_
      refine va_get (D := G.1) (ci := 5) (v := .ref a_chosen) (C := RX7) (T := TX7) (N := 6) hx hb hts ki_X7 hown hK.1 hP 0 rfl rfl 0 (by decide) kf5 (fun _ h9 => h9) rfl dX7_select_27 ?_
      refine va_alen hx hb hK.1 hP 2 2 rfl rfl (v := nI 256) rfl dX7_select_30 ?_
      refine lv_icmp_ge (tgt := 74) hx hb dX7_select_31 (by decide) (fun c => ?_) (fun c => ?_)
      · replace h := h.1 c
        refine lv_iload_n hx hb dX7_select_74 rfl (lv_at hl 1 rfl) ?_
        refine lv_iconst (v := nI 3) hx hb dX7_select_75 kc_3 ?_
        refine lv_icmp_eq (tgt := 84) hx hb dX7_select_76 (by decide) (fun c => ?_) (fun c => ?_)
        · replace h := h.1 c
          exact w84  g_chosen g_marked g_surpassed s_heard s_defeats s_defeaters h _ _ _ hP hD hS (lv_sub hl [0, 1] rfl)
        · replace h := h.2 c
          refine lv_iload_n hx hb dX7_select_79 rfl (lv_at hl 1 rfl) ?_
          refine lv_iconst (v := nI 5) hx hb dX7_select_80 kc_5 ?_
          refine lv_icmp_ne (tgt := 98) hx hb dX7_select_81 (by decide) (fun c => ?_) (fun c => ?_)
          · replace h := h.1 c
            exact W.vret hx hb hr (fun t ht hW => ⟨⟨⟨g_chosen, g_marked, g_surpassed, s_heard, s_defeats, s_defeaters⟩, rfl, h, ⟨by rw [ht]; exact hP, hD⟩⟩, hS.F ht⟩) hS.2.2 dX7_select_98
          · replace h := h.2 c
            exact w84  g_chosen g_marked g_surpassed s_heard s_defeats s_defeaters h _ _ _ hP hD hS (lv_sub hl [0, 1] rfl)
      · replace h := h.2 c
        refine lv_aload_n hx hb dX7_select_34 rfl (lv_at hl 0 rfl) ?_
        refine va_get (D := G.1) (ci := 5) (v := .ref a_chosen) (C := RX7) (T := TX7) (N := 6) hx hb hts ki_X7 hown hK.1 hP 0 rfl rfl 0 (by decide) kf5 (fun _ h9 => h9) rfl dX7_select_35 ?_
        refine lv_iload hx hb dX7_select_38 (lv_at hl 2 rfl) ?_
        refine lv_iload hx hb dX7_select_40 (lv_at hl 2 rfl) ?_
        refine lv_aload_n hx hb dX7_select_42 rfl (lv_at hl 0 rfl) ?_
        refine va_get (D := G.1) (ci := 5) (v := .int s_heard) (C := RX7) (T := TX7) (N := 6) hx hb hts ki_X7 hown hK.1 hP 0 rfl rfl 3 (by decide) kf0 (fun _ h9 => h9) rfl dX7_select_43 ?_
        refine lv_iconst (v := (-1 : Int32)) hx hb dX7_select_46 kc_m1 ?_
        refine lv_ixor hx hb dX7_select_47 ?_
        refine lv_iand hx hb dX7_select_48 ?_
        refine lv_if_ne (tgt := 66) hx hb dX7_select_49 (by decide) (fun c => ?_) (fun c => ?_)
        · replace h := h.1 c
          refine lv_iconst (v := nI 0) hx hb dX7_select_66 kc_0 ?_
          have hin := h.1
          replace h := h.2
          refine va_zast hx hb hK.1 hP hD hS 2 2 rfl rfl hin dX7_select_67 (fun H locs hP hD hS => ?_)
          have hP : va_P G.1 vwCl [ceX7 h0 a_chosen a_marked a_surpassed s_heard s_defeats s_defeaters, ceX1 hp3 s_p3_hits s_p3_leads s_p3_defeats s_p3_defeaters, caZ G a_chosen 256 (upd g_chosen v4.toNatClampNeg (vp_nar .boolean (nI 0))), caZ G a_marked 256 g_marked, caZ G a_surpassed 256 g_surpassed] H := hP
          have hD : va_D A [ceX7 h0 a_chosen a_marked a_surpassed s_heard s_defeats s_defeaters, ceX1 hp3 s_p3_hits s_p3_leads s_p3_defeats s_p3_defeaters, caZ G a_chosen 256 (upd g_chosen v4.toNatClampNeg (vp_nar .boolean (nI 0))), caZ G a_marked 256 g_marked, caZ G a_surpassed 256 g_surpassed] := hD
          refine lv_iinc (v := v4 + nI 1) (lv' := [(4, .int (v4 + nI 1)), (0, .ref h0), (1, .int x1)]) hx hb dX7_select_68 hl (k := 2) rfl (congrArg (fun q => v4 + q) kc_1) (by decide) rfl (fun ls hl => ?_)
          refine lv_goto (tgt := 24) hx hb dX7_select_71 (by decide) ?_
          exact ih (v4 + nI 1) (upd g_chosen v4.toNatClampNeg (vp_nar .boolean (nI 0))) g_marked g_surpassed s_heard s_defeats s_defeaters h _ _ _ hP hD hS (lv_sub hl [1, 2, 0] rfl)
        · replace h := h.2 c
          refine lv_aload_n hx hb dX7_select_52 rfl (lv_at hl 0 rfl) ?_
          refine lv_iload_n hx hb dX7_select_53 rfl (lv_at hl 1 rfl) ?_
          refine lv_iload hx hb dX7_select_54 (lv_at hl 2 rfl) ?_
          refine hc_ki (wr := [ceX1 hp3 s_p3_hits s_p3_leads s_p3_defeats s_p3_defeaters, caZ G a_chosen 256 g_chosen, caZ G a_marked 256 g_marked, caZ G a_surpassed 256 g_surpassed]) (va_runV (As := [.int x1, .int v4]) (rest := [.int v4, .ref a_chosen]) ⟨hx, hb, hml, hown, hts⟩ (c_X7_isOf l G h0 a_chosen a_marked a_surpassed H.size s_heard s_defeats s_defeaters x1 v4 _ h) (cwV 2 hts gX7_select_X7_isOf rfl rfl rfl (by decide +kernel) ⟨Nat.le_of_ble_eq_true rfl, Nat.le_of_ble_eq_true rfl⟩) (hc_pV hK hP hD [0] rfl rfl (ci := 5) 0 rfl rfl) rfl rfl hl.1 rfl (lv_room (Nat.le_of_ble_eq_true rfl)) dX7_select_56 ⟨Nat.le_refl _, Nat.le_refl _⟩) hP hD hS hA [0] [1, 2, 3, 4] rfl rfl rfl (by decide) (fun r56 u H locs h hP hD hS => ?_)
          try dsimp only at h
          have hP : va_P G.1 vwCl [ceX1 hp3 s_p3_hits s_p3_leads s_p3_defeats s_p3_defeaters, caZ G a_chosen 256 g_chosen, caZ G a_marked 256 g_marked, caZ G a_surpassed 256 g_surpassed, ceX7 h0 a_chosen a_marked a_surpassed s_heard s_defeats s_defeaters] H := hP
          have hD : va_D A [ceX1 hp3 s_p3_hits s_p3_leads s_p3_defeats s_p3_defeaters, caZ G a_chosen 256 g_chosen, caZ G a_marked 256 g_marked, caZ G a_surpassed 256 g_surpassed, ceX7 h0 a_chosen a_marked a_surpassed s_heard s_defeats s_defeaters] := hD
          refine lv_if_eq (tgt := 66) hx hb dX7_select_59 (by decide) (fun c => ?_) (fun c => ?_)
          · replace h := h.1 c
            refine lv_iconst (v := nI 0) hx hb dX7_select_66 kc_0 ?_
            have hin := h.1
            replace h := h.2
            refine va_zast hx hb hK.1 hP hD hS 1 2 rfl rfl hin dX7_select_67 (fun H locs hP hD hS => ?_)
            have hP : va_P G.1 vwCl [ceX1 hp3 s_p3_hits s_p3_leads s_p3_defeats s_p3_defeaters, caZ G a_chosen 256 (upd g_chosen v4.toNatClampNeg (vp_nar .boolean (nI 0))), caZ G a_marked 256 g_marked, caZ G a_surpassed 256 g_surpassed, ceX7 h0 a_chosen a_marked a_surpassed s_heard s_defeats s_defeaters] H := hP
            have hD : va_D A [ceX1 hp3 s_p3_hits s_p3_leads s_p3_defeats s_p3_defeaters, caZ G a_chosen 256 (upd g_chosen v4.toNatClampNeg (vp_nar .boolean (nI 0))), caZ G a_marked 256 g_marked, caZ G a_surpassed 256 g_surpassed, ceX7 h0 a_chosen a_marked a_surpassed s_heard s_defeats s_defeaters] := hD
            refine lv_iinc (v := v4 + nI 1) (lv' := [(4, .int (v4 + nI 1)), (0, .ref h0), (1, .int x1)]) hx hb dX7_select_68 hl (k := 2) rfl (congrArg (fun q => v4 + q) kc_1) (by decide) rfl (fun ls hl => ?_)
            refine lv_goto (tgt := 24) hx hb dX7_select_71 (by decide) ?_
            exact ih (v4 + nI 1) (upd g_chosen v4.toNatClampNeg (vp_nar .boolean (nI 0))) g_marked g_surpassed s_heard s_defeats s_defeaters h _ _ _ (hP.sub [4, 0, 1, 2, 3] rfl) (hD.sub [4, 0, 1, 2, 3] (by decide) rfl) hS (lv_sub hl [1, 2, 0] rfl)
          · replace h := h.2 c
            refine lv_iconst (v := nI 1) hx hb dX7_select_62 kc_1 ?_
            refine lv_goto (tgt := 67) hx hb dX7_select_63 (by decide) ?_
            have hin := h.1
            replace h := h.2
            refine va_zast hx hb hK.1 hP hD hS 1 2 rfl rfl hin dX7_select_67 (fun H locs hP hD hS => ?_)
            have hP : va_P G.1 vwCl [ceX1 hp3 s_p3_hits s_p3_leads s_p3_defeats s_p3_defeaters, caZ G a_chosen 256 (upd g_chosen v4.toNatClampNeg (vp_nar .boolean (nI 1))), caZ G a_marked 256 g_marked, caZ G a_surpassed 256 g_surpassed, ceX7 h0 a_chosen a_marked a_surpassed s_heard s_defeats s_defeaters] H := hP
            have hD : va_D A [ceX1 hp3 s_p3_hits s_p3_leads s_p3_defeats s_p3_defeaters, caZ G a_chosen 256 (upd g_chosen v4.toNatClampNeg (vp_nar .boolean (nI 1))), caZ G a_marked 256 g_marked, caZ G a_surpassed 256 g_surpassed, ceX7 h0 a_chosen a_marked a_surpassed s_heard s_defeats s_defeaters] := hD
            refine lv_iinc (v := v4 + nI 1) (lv' := [(4, .int (v4 + nI 1)), (0, .ref h0), (1, .int x1)]) hx hb dX7_select_68 hl (k := 2) rfl (congrArg (fun q => v4 + q) kc_1) (by decide) rfl (fun ls hl => ?_)
            refine lv_goto (tgt := 24) hx hb dX7_select_71 (by decide) ?_
            exact ih (v4 + nI 1) (upd g_chosen v4.toNatClampNeg (vp_nar .boolean (nI 1))) g_marked g_surpassed s_heard s_defeats s_defeaters h _ _ _ (hP.sub [4, 0, 1, 2, 3] rfl) (hD.sub [4, 0, 1, 2, 3] (by decide) rfl) hS (lv_sub hl [1, 2, 0] rfl)
  unfold wp_X7_select at h
  refine lv_aload_n hx hb dX7_select_0 rfl (lv_at hl 0 rfl) ?_
  refine lv_iload_n hx hb dX7_select_1 rfl (lv_at hl 2 rfl) ?_
  refine va_put (D := G.1) (ci := 5) (v := .int x2) (ty := .int) (C := RX7) (T := TX7) (N := 6) hx hb hts ki_X7 tyX7 tyX7_ok nmX7 hown hK.1 hP hD hS 0 rfl rfl 3 (by decide) kf0 (fun _ h9 => h9) rfl (by decide +kernel) rfl rfl (Nat.le_of_ble_eq_true rfl) dX7_select_2 (fun H locs hP hD hS => ?_)
  have hP : va_P G.1 vwCl [ceX7 h0 a_chosen a_marked a_surpassed x2 s_defeats s_defeaters, ceX1 hp3 s_p3_hits s_p3_leads s_p3_defeats s_p3_defeaters, caZ G a_chosen 256 g_chosen, caZ G a_marked 256 g_marked, caZ G a_surpassed 256 g_surpassed] H := hP
  have hD : va_D A [ceX7 h0 a_chosen a_marked a_surpassed x2 s_defeats s_defeaters, ceX1 hp3 s_p3_hits s_p3_leads s_p3_defeats s_p3_defeaters, caZ G a_chosen 256 g_chosen, caZ G a_marked 256 g_marked, caZ G a_surpassed 256 g_surpassed] := hD
  refine lv_aload_n hx hb dX7_select_5 rfl (lv_at hl 0 rfl) ?_
  refine lv_aload_n hx hb dX7_select_6 rfl (lv_at hl 3 rfl) ?_
  refine va_get (D := G.1) (ci := 0) (v := .long s_p3_defeats) (C := RX1) (T := TX1) (N := 4) hx hb hts ki_X1 hown hK.1 hP 1 rfl rfl 2 (by decide) kf1 (fun _ h9 => h9) rfl dX7_select_7 ?_
  refine va_put (D := G.1) (ci := 5) (v := .long s_p3_defeats) (ty := .long) (C := RX7) (T := TX7) (N := 6) hx hb hts ki_X7 tyX7 tyX7_ok nmX7 hown hK.1 hP hD hS 0 rfl rfl 4 (by decide) kf2 (fun _ h9 => h9) rfl (by decide +kernel) rfl rfl (Nat.le_of_ble_eq_true rfl) dX7_select_10 (fun H locs hP hD hS => ?_)
  have hP : va_P G.1 vwCl [ceX7 h0 a_chosen a_marked a_surpassed x2 s_p3_defeats s_defeaters, ceX1 hp3 s_p3_hits s_p3_leads s_p3_defeats s_p3_defeaters, caZ G a_chosen 256 g_chosen, caZ G a_marked 256 g_marked, caZ G a_surpassed 256 g_surpassed] H := hP
  have hD : va_D A [ceX7 h0 a_chosen a_marked a_surpassed x2 s_p3_defeats s_defeaters, ceX1 hp3 s_p3_hits s_p3_leads s_p3_defeats s_p3_defeaters, caZ G a_chosen 256 g_chosen, caZ G a_marked 256 g_marked, caZ G a_surpassed 256 g_surpassed] := hD
  refine lv_aload_n hx hb dX7_select_13 rfl (lv_at hl 0 rfl) ?_
  refine lv_aload_n hx hb dX7_select_14 rfl (lv_at hl 3 rfl) ?_
  refine va_get (D := G.1) (ci := 0) (v := .long s_p3_defeaters) (C := RX1) (T := TX1) (N := 4) hx hb hts ki_X1 hown hK.1 hP 1 rfl rfl 3 (by decide) kf3 (fun _ h9 => h9) rfl dX7_select_15 ?_
  refine va_put (D := G.1) (ci := 5) (v := .long s_p3_defeaters) (ty := .long) (C := RX7) (T := TX7) (N := 6) hx hb hts ki_X7 tyX7 tyX7_ok nmX7 hown hK.1 hP hD hS 0 rfl rfl 5 (by decide) kf4 (fun _ h9 => h9) rfl (by decide +kernel) rfl rfl (Nat.le_of_ble_eq_true rfl) dX7_select_18 (fun H locs hP hD hS => ?_)
  have hP : va_P G.1 vwCl [ceX7 h0 a_chosen a_marked a_surpassed x2 s_p3_defeats s_p3_defeaters, ceX1 hp3 s_p3_hits s_p3_leads s_p3_defeats s_p3_defeaters, caZ G a_chosen 256 g_chosen, caZ G a_marked 256 g_marked, caZ G a_surpassed 256 g_surpassed] H := hP
  have hD : va_D A [ceX7 h0 a_chosen a_marked a_surpassed x2 s_p3_defeats s_p3_defeaters, ceX1 hp3 s_p3_hits s_p3_leads s_p3_defeats s_p3_defeaters, caZ G a_chosen 256 g_chosen, caZ G a_marked 256 g_marked, caZ G a_surpassed 256 g_surpassed] := hD
  refine lv_iconst (v := nI 0) hx hb dX7_select_21 kc_0 ?_
  refine lv_istore (lv' := [(4, .int (nI 0)), (0, .ref h0), (1, .int x1), (2, .int x2), (3, .ref hp3)]) hx hb dX7_select_22 hl (by decide) rfl (fun ls hl => ?_)
  obtain ⟨n24, h⟩ := h
  exact w24  n24 (nI 0) g_chosen g_marked g_surpassed x2 s_p3_defeats s_p3_defeaters h _ _ _ hP hD hS (lv_sub hl [1, 2, 0] rfl)
set_option maxHeartbeats 4000000 in
set_option maxRecDepth 100000 in
theorem c_X7_stableSets (l : Launch) (G : hcG) (sz : Nat) (x0 : Int32) (x1 : Int64) (post : Int32 → Prop) (h : wp_X7_stableSets post x0 x1) : Met l yX7_stableSets wsX7_stableSets ({ frames := 3, cells := 0, slots := 0, locals := 69 }) (hcPc G [.int x0, .long x1] [] sz) (va_Qi (fun (r : Int32) (u : Unit) => post r) (hcB G (va_A [] sz) (fun u : Unit => [])) (va_A [] sz)) 0 0 (va_A [] sz) := by
  refine Met.ofW (cc := cX7_stableSets) (maxL := 5) (ret := (some .int)) (by decide) rfl ?_
  intro p e s m args below meth c s₁ B hml hv
  obtain ⟨rfl, hsz, hP, hK, hD0⟩ := hv
  have hx := B.exec
  have hb := B.bytes
  have hr := B.returns
  have hts := atoms_spec (ws := wsX7_stableSets) B.pre
  have hown : s.vm.findClass RX7 = some m.cls := findClass_of_methodNamed B.named
  have hlocks := B.notSynchronized
  subst hsz
  have hD := hD0.self (sz := s.heap.size)
  generalize hAe : va_A [] s.heap.size = A at hD ⊢
  have hA : ∀ q : Nat, s.heap.size ≤ q → A q := fun q h => by rw [← hAe]; exact Or.inr h
  have hS : va_S A s.heap s.heap [] := va_S.rf
  have hP : va_P G.1 vwCl [] s.heap := hP
  have hl := lv_entry ([.int x0, .long x1]) (n := 5) (Nat.le_of_ble_eq_true rfl)
  rw [lg_entry_eq]
  generalize (lg_sl ([.int x0, .long x1]) ++ List.replicate (5 - (lg_sl ([.int x0, .long x1])).length) Slot.unset).toArray = ls at hl ⊢
  have hl : lv_has ls 5 [(0, .int x0), (1, .long x1)] := hl
  have w5 : ∀ (n : Nat) (v3 : Int32) (v4 : Int32) , wp_X7_stableSets_5 post x0 x1 n v3 v4 → ∀ (H : Heap) (locs : List Loc) (ls : Array Slot), va_P G.1 vwCl [] H → va_D A [] → va_S A s.heap H locs → lv_has ls 5 [(0, .int x0), (1, .long x1), (3, .int v3), (4, .int v4)] → W p l e (headSpec wsX7_stableSets ({ frames := 3, cells := 0, slots := 0, locals := 69 })).room s m ([.int x0, .long x1] : List Value).toArray below meth c H locs 0 0 (MQ below (va_Qi (fun (r : Int32) (u : Unit) => post r) (hcB G A (fun u : Unit => [])) A) ([.int x0, .long x1] : List Value).toArray s 0 0 A) (F0 m 5 ls []) := by
    intro n
    induction n with
    | zero => intro v3 v4 h; exact h.elim
    | succ n ih =>
      intro v3 v4 h H locs ls hP hD hS hl
      unfold wp_X7_stableSets_5 at h
      refine lv_iload hx hb dX7_stableSets_5 (lv_at hl 3 rfl) ?_
      refine lv_sipush (v := nI 256) hx hb dX7_stableSets_7 ks_256 ?_
      refine lv_icmp_ge (tgt := 41) hx hb dX7_stableSets_10 (by decide) (fun c => ?_) (fun c => ?_)
      · replace h := h.1 c
        refine lv_iload_n hx hb dX7_stableSets_41 rfl (lv_at hl 2 rfl) ?_
        exact W.iret (v := v3) hx hb hr (fun t ht hW => ⟨⟨_, (), rfl, h, ⟨by rw [ht]; exact hP, hD⟩⟩, hS.F ht⟩) hS.2.2 dX7_stableSets_42
      · replace h := h.2 c
        refine lv_iload hx hb dX7_stableSets_13 (lv_at hl 3 rfl) ?_
        refine lv_iload_n hx hb dX7_stableSets_15 rfl (lv_at hl 0 rfl) ?_
        refine lv_iconst (v := (-1 : Int32)) hx hb dX7_stableSets_16 kc_m1 ?_
        refine lv_ixor hx hb dX7_stableSets_17 ?_
        refine lv_iand hx hb dX7_stableSets_18 ?_
        refine lv_if_ne (tgt := 35) hx hb dX7_stableSets_19 (by decide) (fun c => ?_) (fun c => ?_)
        · replace h := h.1 c
          refine lv_iinc (v := v4 + nI 1) (lv' := [(4, .int (v4 + nI 1)), (0, .int x0), (1, .long x1), (3, .int v3)]) hx hb dX7_stableSets_35 hl (k := 3) rfl (congrArg (fun q => v4 + q) kc_1) (by decide) rfl (fun ls hl => ?_)
          refine lv_goto (tgt := 5) hx hb dX7_stableSets_38 (by decide) ?_
          exact ih v3 (v4 + nI 1) h _ _ _ hP hD hS (lv_sub hl [1, 2, 3, 0] rfl)
        · replace h := h.2 c
          refine lv_iload hx hb dX7_stableSets_22 (lv_at hl 3 rfl) ?_
          refine lv_iload_n hx hb dX7_stableSets_24 rfl (lv_at hl 0 rfl) ?_
          refine lv_lload_n hx hb dX7_stableSets_25 rfl (lv_at hl 1 rfl) ?_
          refine hc_ki (wr := []) (va_runS (As := [.int v4, .int x0, .long x1]) (rest := []) ⟨hx, hb, hml, hown, hts⟩ (c_X7_isStable l G H.size v4 x0 x1 _ h) (va_cwS 3 hts gX7_stableSets_X7_isStable rfl rfl rfl (by decide +kernel) ⟨Nat.le_of_ble_eq_true rfl, Nat.le_of_ble_eq_true rfl⟩) (hc_pS hK hP hD [] rfl rfl) rfl rfl hl.1 rfl (lv_room (Nat.le_of_ble_eq_true rfl)) dX7_stableSets_26 ⟨Nat.le_refl _, Nat.le_refl _⟩) hP hD hS hA [] [] rfl rfl rfl (by decide) (fun r26 u H locs h hP hD hS => ?_)
          try dsimp only at h
          have hP : va_P G.1 vwCl [] H := hP
          have hD : va_D A [] := hD
          refine lv_if_eq (tgt := 35) hx hb dX7_stableSets_29 (by decide) (fun c => ?_) (fun c => ?_)
          · replace h := h.1 c
            refine lv_iinc (v := v4 + nI 1) (lv' := [(4, .int (v4 + nI 1)), (0, .int x0), (1, .long x1), (3, .int v3)]) hx hb dX7_stableSets_35 hl (k := 3) rfl (congrArg (fun q => v4 + q) kc_1) (by decide) rfl (fun ls hl => ?_)
            refine lv_goto (tgt := 5) hx hb dX7_stableSets_38 (by decide) ?_
            exact ih v3 (v4 + nI 1) h _ _ _ hP hD hS (lv_sub hl [1, 2, 3, 0] rfl)
          · replace h := h.2 c
            refine lv_iinc (v := v3 + nI 1) (lv' := [(3, .int (v3 + nI 1)), (0, .int x0), (1, .long x1), (4, .int v4)]) hx hb dX7_stableSets_32 hl (k := 2) rfl (congrArg (fun q => v3 + q) kc_1) (by decide) rfl (fun ls hl => ?_)
            refine lv_iinc (v := v4 + nI 1) (lv' := [(4, .int (v4 + nI 1)), (3, .int (v3 + nI 1)), (0, .int x0), (1, .long x1)]) hx hb dX7_stableSets_35 hl (k := 3) rfl (congrArg (fun q => v4 + q) kc_1) (by decide) rfl (fun ls hl => ?_)
            refine lv_goto (tgt := 5) hx hb dX7_stableSets_38 (by decide) ?_
            exact ih (v3 + nI 1) (v4 + nI 1) h _ _ _ hP hD hS (lv_sub hl [2, 3, 1, 0] rfl)
  unfold wp_X7_stableSets at h
  refine lv_iconst (v := nI 0) hx hb dX7_stableSets_0 kc_0 ?_
  refine lv_istore_n (lv' := [(3, .int (nI 0)), (0, .int x0), (1, .long x1)]) hx hb dX7_stableSets_1 rfl hl (by decide) rfl (fun ls hl => ?_)
  refine lv_iconst (v := nI 0) hx hb dX7_stableSets_2 kc_0 ?_
  refine lv_istore (lv' := [(4, .int (nI 0)), (3, .int (nI 0)), (0, .int x0), (1, .long x1)]) hx hb dX7_stableSets_3 hl (by decide) rfl (fun ls hl => ?_)
  obtain ⟨n5, h⟩ := h
  exact w5  n5 (nI 0) (nI 0) h _ _ _ hP hD hS (lv_sub hl [2, 3, 1, 0] rfl)
set_option maxHeartbeats 4000000 in
set_option maxRecDepth 100000 in
theorem c_X7_size (l : Launch) (G : hcG) (h0 : Nat) (a_chosen : Nat) (a_marked : Nat) (a_surpassed : Nat) (sz : Nat) (s_heard : Int32) (s_defeats : Int64) (s_defeaters : Int64) (g_chosen : Nat → Int32) (post : Int32 → Prop) (h : wp_X7_size post g_chosen) : Met l yX7_size wsX7_size ({ frames := 0, cells := 0, slots := 0, locals := 0 }) (hcPc G [.ref h0] [ceX7 h0 a_chosen a_marked a_surpassed s_heard s_defeats s_defeaters, caZ G a_chosen 256 g_chosen] sz) (va_Qi (fun (r : Int32) (u : Unit) => post r) (hcB G (va_A [ceX7 h0 a_chosen a_marked a_surpassed s_heard s_defeats s_defeaters, caZ G a_chosen 256 g_chosen] sz) (fun u : Unit => [ceX7 h0 a_chosen a_marked a_surpassed s_heard s_defeats s_defeaters, caZ G a_chosen 256 g_chosen])) (va_A [ceX7 h0 a_chosen a_marked a_surpassed s_heard s_defeats s_defeaters, caZ G a_chosen 256 g_chosen] sz)) 0 0 (va_A [ceX7 h0 a_chosen a_marked a_surpassed s_heard s_defeats s_defeaters, caZ G a_chosen 256 g_chosen] sz) := by
  refine Met.ofW (cc := cX7_size) (maxL := 3) (ret := (some .int)) (by decide) rfl ?_
  intro p e s m args below meth c s₁ B hml hv
  obtain ⟨rfl, hsz, hP, hK, hD0⟩ := hv
  have hx := B.exec
  have hb := B.bytes
  have hr := B.returns
  have hts := atoms_spec (ws := wsX7_size) B.pre
  have hown : s.vm.findClass RX7 = some m.cls := findClass_of_methodNamed B.named
  have hlocks := B.notSynchronized
  subst hsz
  have hD := hD0.self (sz := s.heap.size)
  generalize hAe : va_A [ceX7 h0 a_chosen a_marked a_surpassed s_heard s_defeats s_defeaters, caZ G a_chosen 256 g_chosen] s.heap.size = A at hD ⊢
  have hA : ∀ q : Nat, s.heap.size ≤ q → A q := fun q h => by rw [← hAe]; exact Or.inr h
  have hS : va_S A s.heap s.heap [] := va_S.rf
  have hP : va_P G.1 vwCl [ceX7 h0 a_chosen a_marked a_surpassed s_heard s_defeats s_defeaters, caZ G a_chosen 256 g_chosen] s.heap := hP
  have hl := lv_entry ([.ref h0]) (n := 3) (Nat.le_of_ble_eq_true rfl)
  rw [lg_entry_eq]
  generalize (lg_sl ([.ref h0]) ++ List.replicate (3 - (lg_sl ([.ref h0])).length) Slot.unset).toArray = ls at hl ⊢
  have hl : lv_has ls 3 [(0, .ref h0)] := hl
  have kf0 := hts (.fieldLink RX7 9 "HallOfClaims$Sorts" "chosen" "[Z") (List.mem_of_getElem? (i := 1) (by decide +kernel))
  have ki_X7 : ∀ w ∈ u_ws RX7 TX7 6, w ∈ wsX7_size := by decide +kernel
  have w4 : ∀ (n : Nat) (v1 : Int32) (v2 : Int32) , wp_X7_size_4 post g_chosen n v1 v2 → ∀ (H : Heap) (locs : List Loc) (ls : Array Slot), va_P G.1 vwCl [ceX7 h0 a_chosen a_marked a_surpassed s_heard s_defeats s_defeaters, caZ G a_chosen 256 g_chosen] H → va_D A [ceX7 h0 a_chosen a_marked a_surpassed s_heard s_defeats s_defeaters, caZ G a_chosen 256 g_chosen] → va_S A s.heap H locs → lv_has ls 3 [(0, .ref h0), (1, .int v1), (2, .int v2)] → W p l e (headSpec wsX7_size ({ frames := 0, cells := 0, slots := 0, locals := 0 })).room s m ([.ref h0] : List Value).toArray below meth c H locs 0 0 (MQ below (va_Qi (fun (r : Int32) (u : Unit) => post r) (hcB G A (fun u : Unit => [ceX7 h0 a_chosen a_marked a_surpassed s_heard s_defeats s_defeaters, caZ G a_chosen 256 g_chosen])) A) ([.ref h0] : List Value).toArray s 0 0 A) (F0 m 4 ls []) := by
    intro n
    induction n with
    | zero => intro v1 v2 h; exact h.elim
    | succ n ih =>
      intro v1 v2 h H locs ls hP hD hS hl
      unfold wp_X7_size_4 at h
      refine lv_iload_n hx hb dX7_size_4 rfl (lv_at hl 2 rfl) ?_
      refine lv_aload_n hx hb dX7_size_5 rfl (lv_at hl 0 rfl) ?_
      refine va_get (D := G.1) (ci := 5) (v := .ref a_chosen) (C := RX7) (T := TX7) (N := 6) hx hb hts ki_X7 hown hK.1 hP 0 rfl rfl 0 (by decide) kf0 (fun _ h9 => h9) rfl dX7_size_6 ?_
      refine va_alen hx hb hK.1 hP 1 2 rfl rfl (v := nI 256) rfl dX7_size_9 ?_
      refine lv_icmp_ge (tgt := 31) hx hb dX7_size_10 (by decide) (fun c => ?_) (fun c => ?_)
      · replace h := h.1 c
        refine lv_iload_n hx hb dX7_size_31 rfl (lv_at hl 1 rfl) ?_
        exact W.iret (v := v1) hx hb hr (fun t ht hW => ⟨⟨_, (), rfl, h, ⟨by rw [ht]; exact hP, hD⟩⟩, hS.F ht⟩) hS.2.2 dX7_size_32
      · replace h := h.2 c
        refine lv_aload_n hx hb dX7_size_13 rfl (lv_at hl 0 rfl) ?_
        refine va_get (D := G.1) (ci := 5) (v := .ref a_chosen) (C := RX7) (T := TX7) (N := 6) hx hb hts ki_X7 hown hK.1 hP 0 rfl rfl 0 (by decide) kf0 (fun _ h9 => h9) rfl dX7_size_14 ?_
        refine lv_iload_n hx hb dX7_size_17 rfl (lv_at hl 2 rfl) ?_
        have hin := h.1
        replace h := h.2
        refine va_zald hx hb hK.1 hP 1 2 rfl rfl hin dX7_size_18 ?_
        refine lv_if_eq (tgt := 25) hx hb dX7_size_19 (by decide) (fun c => ?_) (fun c => ?_)
        · replace h := h.1 c
          refine lv_iinc (v := v2 + nI 1) (lv' := [(2, .int (v2 + nI 1)), (0, .ref h0), (1, .int v1)]) hx hb dX7_size_25 hl (k := 2) rfl (congrArg (fun q => v2 + q) kc_1) (by decide) rfl (fun ls hl => ?_)
          refine lv_goto (tgt := 4) hx hb dX7_size_28 (by decide) ?_
          exact ih v1 (v2 + nI 1) h _ _ _ hP hD hS (lv_sub hl [1, 2, 0] rfl)
        · replace h := h.2 c
          refine lv_iinc (v := v1 + nI 1) (lv' := [(1, .int (v1 + nI 1)), (0, .ref h0), (2, .int v2)]) hx hb dX7_size_22 hl (k := 1) rfl (congrArg (fun q => v1 + q) kc_1) (by decide) rfl (fun ls hl => ?_)
          refine lv_iinc (v := v2 + nI 1) (lv' := [(2, .int (v2 + nI 1)), (1, .int (v1 + nI 1)), (0, .ref h0)]) hx hb dX7_size_25 hl (k := 2) rfl (congrArg (fun q => v2 + q) kc_1) (by decide) rfl (fun ls hl => ?_)
          refine lv_goto (tgt := 4) hx hb dX7_size_28 (by decide) ?_
          exact ih (v1 + nI 1) (v2 + nI 1) h _ _ _ hP hD hS (lv_sub hl [2, 1, 0] rfl)
  unfold wp_X7_size at h
  refine lv_iconst (v := nI 0) hx hb dX7_size_0 kc_0 ?_
  refine lv_istore_n (lv' := [(1, .int (nI 0)), (0, .ref h0)]) hx hb dX7_size_1 rfl hl (by decide) rfl (fun ls hl => ?_)
  refine lv_iconst (v := nI 0) hx hb dX7_size_2 kc_0 ?_
  refine lv_istore_n (lv' := [(2, .int (nI 0)), (1, .int (nI 0)), (0, .ref h0)]) hx hb dX7_size_3 rfl hl (by decide) rfl (fun ls hl => ?_)
  obtain ⟨n4, h⟩ := h
  exact w4  n4 (nI 0) (nI 0) h _ _ _ hP hD hS (lv_sub hl [2, 1, 0] rfl)
set_option maxHeartbeats 4000000 in
set_option maxRecDepth 100000 in
theorem c_X7_sizeWith (l : Launch) (G : hcG) (h0 : Nat) (a_chosen : Nat) (a_marked : Nat) (a_surpassed : Nat) (sz : Nat) (s_heard : Int32) (s_defeats : Int64) (s_defeaters : Int64) (g_chosen : Nat → Int32) (x1 : Int32) (post : Int32 → Prop) (h : wp_X7_sizeWith post g_chosen x1) : Met l yX7_sizeWith wsX7_sizeWith ({ frames := 1, cells := 0, slots := 0, locals := 21 }) (hcPc G [.ref h0, .int x1] [ceX7 h0 a_chosen a_marked a_surpassed s_heard s_defeats s_defeaters, caZ G a_chosen 256 g_chosen] sz) (va_Qi (fun (r : Int32) (u : Unit) => post r) (hcB G (va_A [ceX7 h0 a_chosen a_marked a_surpassed s_heard s_defeats s_defeaters, caZ G a_chosen 256 g_chosen] sz) (fun u : Unit => [ceX7 h0 a_chosen a_marked a_surpassed s_heard s_defeats s_defeaters, caZ G a_chosen 256 g_chosen])) (va_A [ceX7 h0 a_chosen a_marked a_surpassed s_heard s_defeats s_defeaters, caZ G a_chosen 256 g_chosen] sz)) 0 0 (va_A [ceX7 h0 a_chosen a_marked a_surpassed s_heard s_defeats s_defeaters, caZ G a_chosen 256 g_chosen] sz) := by
  refine Met.ofW (cc := cX7_sizeWith) (maxL := 4) (ret := (some .int)) (by decide) rfl ?_
  intro p e s m args below meth c s₁ B hml hv
  obtain ⟨rfl, hsz, hP, hK, hD0⟩ := hv
  have hx := B.exec
  have hb := B.bytes
  have hr := B.returns
  have hts := atoms_spec (ws := wsX7_sizeWith) B.pre
  have hown : s.vm.findClass RX7 = some m.cls := findClass_of_methodNamed B.named
  have hlocks := B.notSynchronized
  subst hsz
  have hD := hD0.self (sz := s.heap.size)
  generalize hAe : va_A [ceX7 h0 a_chosen a_marked a_surpassed s_heard s_defeats s_defeaters, caZ G a_chosen 256 g_chosen] s.heap.size = A at hD ⊢
  have hA : ∀ q : Nat, s.heap.size ≤ q → A q := fun q h => by rw [← hAe]; exact Or.inr h
  have hS : va_S A s.heap s.heap [] := va_S.rf
  have hP : va_P G.1 vwCl [ceX7 h0 a_chosen a_marked a_surpassed s_heard s_defeats s_defeaters, caZ G a_chosen 256 g_chosen] s.heap := hP
  have hl := lv_entry ([.ref h0, .int x1]) (n := 4) (Nat.le_of_ble_eq_true rfl)
  rw [lg_entry_eq]
  generalize (lg_sl ([.ref h0, .int x1]) ++ List.replicate (4 - (lg_sl ([.ref h0, .int x1])).length) Slot.unset).toArray = ls at hl ⊢
  have hl : lv_has ls 4 [(0, .ref h0), (1, .int x1)] := hl
  have kf0 := hts (.fieldLink RX7 9 "HallOfClaims$Sorts" "chosen" "[Z") (List.mem_of_getElem? (i := 1) (by decide +kernel))
  have ki_X7 : ∀ w ∈ u_ws RX7 TX7 6, w ∈ wsX7_sizeWith := by decide +kernel
  have w4 : ∀ (n : Nat) (v2 : Int32) (v3 : Int32) , wp_X7_sizeWith_4 post g_chosen x1 n v2 v3 → ∀ (H : Heap) (locs : List Loc) (ls : Array Slot), va_P G.1 vwCl [ceX7 h0 a_chosen a_marked a_surpassed s_heard s_defeats s_defeaters, caZ G a_chosen 256 g_chosen] H → va_D A [ceX7 h0 a_chosen a_marked a_surpassed s_heard s_defeats s_defeaters, caZ G a_chosen 256 g_chosen] → va_S A s.heap H locs → lv_has ls 4 [(0, .ref h0), (1, .int x1), (2, .int v2), (3, .int v3)] → W p l e (headSpec wsX7_sizeWith ({ frames := 1, cells := 0, slots := 0, locals := 21 })).room s m ([.ref h0, .int x1] : List Value).toArray below meth c H locs 0 0 (MQ below (va_Qi (fun (r : Int32) (u : Unit) => post r) (hcB G A (fun u : Unit => [ceX7 h0 a_chosen a_marked a_surpassed s_heard s_defeats s_defeaters, caZ G a_chosen 256 g_chosen])) A) ([.ref h0, .int x1] : List Value).toArray s 0 0 A) (F0 m 4 ls []) := by
    intro n
    induction n with
    | zero => intro v2 v3 h; exact h.elim
    | succ n ih =>
      intro v2 v3 h H locs ls hP hD hS hl
      unfold wp_X7_sizeWith_4 at h
      refine lv_iload_n hx hb dX7_sizeWith_4 rfl (lv_at hl 3 rfl) ?_
      refine lv_aload_n hx hb dX7_sizeWith_5 rfl (lv_at hl 0 rfl) ?_
      refine va_get (D := G.1) (ci := 5) (v := .ref a_chosen) (C := RX7) (T := TX7) (N := 6) hx hb hts ki_X7 hown hK.1 hP 0 rfl rfl 0 (by decide) kf0 (fun _ h9 => h9) rfl dX7_sizeWith_6 ?_
      refine va_alen hx hb hK.1 hP 1 2 rfl rfl (v := nI 256) rfl dX7_sizeWith_9 ?_
      refine lv_icmp_ge (tgt := 39) hx hb dX7_sizeWith_10 (by decide) (fun c => ?_) (fun c => ?_)
      · replace h := h.1 c
        refine lv_iload_n hx hb dX7_sizeWith_39 rfl (lv_at hl 2 rfl) ?_
        exact W.iret (v := v2) hx hb hr (fun t ht hW => ⟨⟨_, (), rfl, h, ⟨by rw [ht]; exact hP, hD⟩⟩, hS.F ht⟩) hS.2.2 dX7_sizeWith_40
      · replace h := h.2 c
        refine lv_aload_n hx hb dX7_sizeWith_13 rfl (lv_at hl 0 rfl) ?_
        refine va_get (D := G.1) (ci := 5) (v := .ref a_chosen) (C := RX7) (T := TX7) (N := 6) hx hb hts ki_X7 hown hK.1 hP 0 rfl rfl 0 (by decide) kf0 (fun _ h9 => h9) rfl dX7_sizeWith_14 ?_
        refine lv_iload_n hx hb dX7_sizeWith_17 rfl (lv_at hl 3 rfl) ?_
        have hin := h.1
        replace h := h.2
        refine va_zald hx hb hK.1 hP 1 2 rfl rfl hin dX7_sizeWith_18 ?_
        refine lv_if_eq (tgt := 33) hx hb dX7_sizeWith_19 (by decide) (fun c => ?_) (fun c => ?_)
        · replace h := h.1 c
          refine lv_iinc (v := v3 + nI 1) (lv' := [(3, .int (v3 + nI 1)), (0, .ref h0), (1, .int x1), (2, .int v2)]) hx hb dX7_sizeWith_33 hl (k := 3) rfl (congrArg (fun q => v3 + q) kc_1) (by decide) rfl (fun ls hl => ?_)
          refine lv_goto (tgt := 4) hx hb dX7_sizeWith_36 (by decide) ?_
          exact ih v2 (v3 + nI 1) h _ _ _ hP hD hS (lv_sub hl [1, 2, 3, 0] rfl)
        · replace h := h.2 c
          refine lv_iload_n hx hb dX7_sizeWith_22 rfl (lv_at hl 3 rfl) ?_
          refine lv_iload_n hx hb dX7_sizeWith_23 rfl (lv_at hl 1 rfl) ?_
          refine hc_ki (wr := [ceX7 h0 a_chosen a_marked a_surpassed s_heard s_defeats s_defeaters, caZ G a_chosen 256 g_chosen]) (va_runS (As := [.int v3, .int x1]) (rest := []) ⟨hx, hb, hml, hown, hts⟩ (c_X0_contains l G H.size v3 x1 _ h) (va_cwS 2 hts gX7_sizeWith_X0_contains rfl rfl rfl (by decide +kernel) ⟨Nat.le_of_ble_eq_true rfl, Nat.le_of_ble_eq_true rfl⟩) (hc_pS hK hP hD [] rfl rfl) rfl rfl hl.1 rfl (lv_room (Nat.le_of_ble_eq_true rfl)) dX7_sizeWith_24 ⟨Nat.le_refl _, Nat.le_refl _⟩) hP hD hS hA [] [0, 1] rfl rfl rfl (by decide) (fun r24 u H locs h hP hD hS => ?_)
          try dsimp only at h
          have hP : va_P G.1 vwCl [ceX7 h0 a_chosen a_marked a_surpassed s_heard s_defeats s_defeaters, caZ G a_chosen 256 g_chosen] H := hP
          have hD : va_D A [ceX7 h0 a_chosen a_marked a_surpassed s_heard s_defeats s_defeaters, caZ G a_chosen 256 g_chosen] := hD
          refine lv_if_eq (tgt := 33) hx hb dX7_sizeWith_27 (by decide) (fun c => ?_) (fun c => ?_)
          · replace h := h.1 c
            refine lv_iinc (v := v3 + nI 1) (lv' := [(3, .int (v3 + nI 1)), (0, .ref h0), (1, .int x1), (2, .int v2)]) hx hb dX7_sizeWith_33 hl (k := 3) rfl (congrArg (fun q => v3 + q) kc_1) (by decide) rfl (fun ls hl => ?_)
            refine lv_goto (tgt := 4) hx hb dX7_sizeWith_36 (by decide) ?_
            exact ih v2 (v3 + nI 1) h _ _ _ hP hD hS (lv_sub hl [1, 2, 3, 0] rfl)
          · replace h := h.2 c
            refine lv_iinc (v := v2 + nI 1) (lv' := [(2, .int (v2 + nI 1)), (0, .ref h0), (1, .int x1), (3, .int v3)]) hx hb dX7_sizeWith_30 hl (k := 2) rfl (congrArg (fun q => v2 + q) kc_1) (by decide) rfl (fun ls hl => ?_)
            refine lv_iinc (v := v3 + nI 1) (lv' := [(3, .int (v3 + nI 1)), (2, .int (v2 + nI 1)), (0, .ref h0), (1, .int x1)]) hx hb dX7_sizeWith_33 hl (k := 3) rfl (congrArg (fun q => v3 + q) kc_1) (by decide) rfl (fun ls hl => ?_)
            refine lv_goto (tgt := 4) hx hb dX7_sizeWith_36 (by decide) ?_
            exact ih (v2 + nI 1) (v3 + nI 1) h _ _ _ hP hD hS (lv_sub hl [2, 3, 1, 0] rfl)
  unfold wp_X7_sizeWith at h
  refine lv_iconst (v := nI 0) hx hb dX7_sizeWith_0 kc_0 ?_
  refine lv_istore_n (lv' := [(2, .int (nI 0)), (0, .ref h0), (1, .int x1)]) hx hb dX7_sizeWith_1 rfl hl (by decide) rfl (fun ls hl => ?_)
  refine lv_iconst (v := nI 0) hx hb dX7_sizeWith_2 kc_0 ?_
  refine lv_istore_n (lv' := [(3, .int (nI 0)), (2, .int (nI 0)), (0, .ref h0), (1, .int x1)]) hx hb dX7_sizeWith_3 rfl hl (by decide) rfl (fun ls hl => ?_)
  obtain ⟨n4, h⟩ := h
  exact w4  n4 (nI 0) (nI 0) h _ _ _ hP hD hS (lv_sub hl [2, 3, 1, 0] rfl)
set_option maxHeartbeats 4000000 in
set_option maxRecDepth 100000 in
theorem c_J6_bitCount_0f7a4 (l : Launch) (G : hcG) (sz : Nat) (x0 : Int32) (post : Int32 → Prop) (h : wp_J6_bitCount_0f7a4 post x0) : Met l yJ6_bitCount_0f7a4 wsJ6_bitCount_0f7a4 ({ frames := 0, cells := 0, slots := 0, locals := 0 }) (hcPc G [.int x0] [] sz) (va_Qi (fun (r : Int32) (u : Unit) => post r) (hcB G (va_A [] sz) (fun u : Unit => [])) (va_A [] sz)) 0 0 (va_A [] sz) := by
  refine Met.ofW (cc := cJ6_bitCount_0f7a4) (maxL := 1) (ret := (some .int)) (by decide) rfl ?_
  intro p e s m args below meth c s₁ B hml hv
  obtain ⟨rfl, hsz, hP, hK, hD0⟩ := hv
  have hx := B.exec
  have hb := B.bytes
  have hr := B.returns
  have hts := atoms_spec (ws := wsJ6_bitCount_0f7a4) B.pre
  have hown : s.vm.findClass RJ6 = some m.cls := findClass_of_methodNamed B.named
  have hlocks := B.notSynchronized
  subst hsz
  have hD := hD0.self (sz := s.heap.size)
  generalize hAe : va_A [] s.heap.size = A at hD ⊢
  have hA : ∀ q : Nat, s.heap.size ≤ q → A q := fun q h => by rw [← hAe]; exact Or.inr h
  have hS : va_S A s.heap s.heap [] := va_S.rf
  have hP : va_P G.1 vwCl [] s.heap := hP
  have hl := lv_entry ([.int x0]) (n := 1) (Nat.le_of_ble_eq_true rfl)
  rw [lg_entry_eq]
  generalize (lg_sl ([.int x0]) ++ List.replicate (1 - (lg_sl ([.int x0])).length) Slot.unset).toArray = ls at hl ⊢
  have hl : lv_has ls 1 [(0, .int x0)] := hl
  have kf0 := hts (.constant RJ6 265 (1431655765)) (List.mem_of_getElem? (i := 1) (by decide +kernel))
  have kf1 := hts (.constant RJ6 266 (858993459)) (List.mem_of_getElem? (i := 2) (by decide +kernel))
  have kf2 := hts (.constant RJ6 267 (252645135)) (List.mem_of_getElem? (i := 3) (by decide +kernel))
  unfold wp_J6_bitCount_0f7a4 at h
  refine lv_iload_n hx hb dJ6_bitCount_0f7a4_0 rfl (lv_at hl 0 rfl) ?_
  refine lv_iload_n hx hb dJ6_bitCount_0f7a4_1 rfl (lv_at hl 0 rfl) ?_
  refine lv_iconst (v := nI 1) hx hb dJ6_bitCount_0f7a4_2 kc_1 ?_
  refine lv_iushr (v := hcUshr x0 (nI 1)) hx hb dJ6_bitCount_0f7a4_3 rfl ?_
  refine lv_ldcw (own := RJ6) (v := 1431655765) hx hb hown kf0 dJ6_bitCount_0f7a4_4 ?_
  refine lv_iand hx hb dJ6_bitCount_0f7a4_7 ?_
  refine lv_isub hx hb dJ6_bitCount_0f7a4_8 ?_
  refine lv_istore_n (lv' := [(0, .int (x0 - ((hcUshr x0 (nI 1)) &&& ((1431655765 : Int32)))))]) hx hb dJ6_bitCount_0f7a4_9 rfl hl (by decide) rfl (fun ls hl => ?_)
  refine lv_iload_n hx hb dJ6_bitCount_0f7a4_10 rfl (lv_at hl 0 rfl) ?_
  refine lv_ldcw (own := RJ6) (v := 858993459) hx hb hown kf1 dJ6_bitCount_0f7a4_11 ?_
  refine lv_iand hx hb dJ6_bitCount_0f7a4_14 ?_
  refine lv_iload_n hx hb dJ6_bitCount_0f7a4_15 rfl (lv_at hl 0 rfl) ?_
  refine lv_iconst (v := nI 2) hx hb dJ6_bitCount_0f7a4_16 kc_2 ?_
  refine lv_iushr (v := hcUshr (x0 - ((hcUshr x0 (nI 1)) &&& ((1431655765 : Int32)))) (nI 2)) hx hb dJ6_bitCount_0f7a4_17 rfl ?_
  refine lv_ldcw (own := RJ6) (v := 858993459) hx hb hown kf1 dJ6_bitCount_0f7a4_18 ?_
  refine lv_iand hx hb dJ6_bitCount_0f7a4_21 ?_
  refine lv_iadd hx hb dJ6_bitCount_0f7a4_22 ?_
  refine lv_topi (fun y23 ey23 => ?_)
  replace h := h _ ey23
  refine lv_istore_n (lv' := [(0, .int y23)]) hx hb dJ6_bitCount_0f7a4_23 rfl hl (by decide) rfl (fun ls hl => ?_)
  refine lv_iload_n hx hb dJ6_bitCount_0f7a4_24 rfl (lv_at hl 0 rfl) ?_
  refine lv_iload_n hx hb dJ6_bitCount_0f7a4_25 rfl (lv_at hl 0 rfl) ?_
  refine lv_iconst (v := nI 4) hx hb dJ6_bitCount_0f7a4_26 kc_4 ?_
  refine lv_iushr (v := hcUshr y23 (nI 4)) hx hb dJ6_bitCount_0f7a4_27 rfl ?_
  refine lv_iadd hx hb dJ6_bitCount_0f7a4_28 ?_
  refine lv_ldcw (own := RJ6) (v := 252645135) hx hb hown kf2 dJ6_bitCount_0f7a4_29 ?_
  refine lv_iand hx hb dJ6_bitCount_0f7a4_32 ?_
  refine lv_istore_n (lv' := [(0, .int ((y23 + (hcUshr y23 (nI 4))) &&& ((252645135 : Int32))))]) hx hb dJ6_bitCount_0f7a4_33 rfl hl (by decide) rfl (fun ls hl => ?_)
  refine lv_iload_n hx hb dJ6_bitCount_0f7a4_34 rfl (lv_at hl 0 rfl) ?_
  refine lv_iload_n hx hb dJ6_bitCount_0f7a4_35 rfl (lv_at hl 0 rfl) ?_
  refine lv_bipush (v := nI 8) hx hb dJ6_bitCount_0f7a4_36 kb_8 ?_
  refine lv_iushr (v := hcUshr ((y23 + (hcUshr y23 (nI 4))) &&& ((252645135 : Int32))) (nI 8)) hx hb dJ6_bitCount_0f7a4_38 rfl ?_
  refine lv_iadd hx hb dJ6_bitCount_0f7a4_39 ?_
  refine lv_topi (fun y40 ey40 => ?_)
  replace h := h _ ey40
  refine lv_istore_n (lv' := [(0, .int y40)]) hx hb dJ6_bitCount_0f7a4_40 rfl hl (by decide) rfl (fun ls hl => ?_)
  refine lv_iload_n hx hb dJ6_bitCount_0f7a4_41 rfl (lv_at hl 0 rfl) ?_
  refine lv_iload_n hx hb dJ6_bitCount_0f7a4_42 rfl (lv_at hl 0 rfl) ?_
  refine lv_bipush (v := nI 16) hx hb dJ6_bitCount_0f7a4_43 kb_16 ?_
  refine lv_iushr (v := hcUshr y40 (nI 16)) hx hb dJ6_bitCount_0f7a4_45 rfl ?_
  refine lv_iadd hx hb dJ6_bitCount_0f7a4_46 ?_
  refine lv_istore_n (lv' := [(0, .int (y40 + (hcUshr y40 (nI 16))))]) hx hb dJ6_bitCount_0f7a4_47 rfl hl (by decide) rfl (fun ls hl => ?_)
  refine lv_iload_n hx hb dJ6_bitCount_0f7a4_48 rfl (lv_at hl 0 rfl) ?_
  refine lv_bipush (v := nI 63) hx hb dJ6_bitCount_0f7a4_49 kb_63 ?_
  refine lv_iand hx hb dJ6_bitCount_0f7a4_51 ?_
  exact W.iret (v := (y40 + (hcUshr y40 (nI 16))) &&& (nI 63)) hx hb hr (fun t ht hW => ⟨⟨_, (), rfl, h, ⟨by rw [ht]; exact hP, hD⟩⟩, hS.F ht⟩) hS.2.2 dJ6_bitCount_0f7a4_52
set_option maxHeartbeats 4000000 in
set_option maxRecDepth 100000 in
theorem c_X7_at (l : Launch) (G : hcG) (h0 : Nat) (a_chosen : Nat) (a_marked : Nat) (a_surpassed : Nat) (sz : Nat) (s_heard : Int32) (s_defeats : Int64) (s_defeaters : Int64) (g_chosen : Nat → Int32) (x1 : Int32) (post : Int32 → Prop) (h : wp_X7_at post g_chosen x1) : Met l yX7_at wsX7_at ({ frames := 1, cells := 0, slots := 0, locals := 20 }) (hcPc G [.ref h0, .int x1] [ceX7 h0 a_chosen a_marked a_surpassed s_heard s_defeats s_defeaters, caZ G a_chosen 256 g_chosen] sz) (va_Qi (fun (r : Int32) (u : Unit) => post r) (hcB G (va_A [ceX7 h0 a_chosen a_marked a_surpassed s_heard s_defeats s_defeaters, caZ G a_chosen 256 g_chosen] sz) (fun u : Unit => [ceX7 h0 a_chosen a_marked a_surpassed s_heard s_defeats s_defeaters, caZ G a_chosen 256 g_chosen])) (va_A [ceX7 h0 a_chosen a_marked a_surpassed s_heard s_defeats s_defeaters, caZ G a_chosen 256 g_chosen] sz)) 0 0 (va_A [ceX7 h0 a_chosen a_marked a_surpassed s_heard s_defeats s_defeaters, caZ G a_chosen 256 g_chosen] sz) := by
  refine Met.ofW (cc := cX7_at) (maxL := 5) (ret := (some .int)) (by decide) rfl ?_
  intro p e s m args below meth c s₁ B hml hv
  obtain ⟨rfl, hsz, hP, hK, hD0⟩ := hv
  have hx := B.exec
  have hb := B.bytes
  have hr := B.returns
  have hts := atoms_spec (ws := wsX7_at) B.pre
  have hown : s.vm.findClass RX7 = some m.cls := findClass_of_methodNamed B.named
  have hlocks := B.notSynchronized
  subst hsz
  have hD := hD0.self (sz := s.heap.size)
  generalize hAe : va_A [ceX7 h0 a_chosen a_marked a_surpassed s_heard s_defeats s_defeaters, caZ G a_chosen 256 g_chosen] s.heap.size = A at hD ⊢
  have hA : ∀ q : Nat, s.heap.size ≤ q → A q := fun q h => by rw [← hAe]; exact Or.inr h
  have hS : va_S A s.heap s.heap [] := va_S.rf
  have hP : va_P G.1 vwCl [ceX7 h0 a_chosen a_marked a_surpassed s_heard s_defeats s_defeaters, caZ G a_chosen 256 g_chosen] s.heap := hP
  have hl := lv_entry ([.ref h0, .int x1]) (n := 5) (Nat.le_of_ble_eq_true rfl)
  rw [lg_entry_eq]
  generalize (lg_sl ([.ref h0, .int x1]) ++ List.replicate (5 - (lg_sl ([.ref h0, .int x1])).length) Slot.unset).toArray = ls at hl ⊢
  have hl : lv_has ls 5 [(0, .ref h0), (1, .int x1)] := hl
  have kf0 := hts (.fieldLink RX7 9 "HallOfClaims$Sorts" "chosen" "[Z") (List.mem_of_getElem? (i := 1) (by decide +kernel))
  have ki_X7 : ∀ w ∈ u_ws RX7 TX7 6, w ∈ wsX7_at := by decide +kernel
  have w12 : ∀ (K5 : Int32 → Int32 → Prop), (∀ (v2 : Int32) (v3 : Int32) , K5 v2 v3 → ∀ (H : Heap) (locs : List Loc) (ls : Array Slot), va_P G.1 vwCl [ceX7 h0 a_chosen a_marked a_surpassed s_heard s_defeats s_defeaters, caZ G a_chosen 256 g_chosen] H → va_D A [ceX7 h0 a_chosen a_marked a_surpassed s_heard s_defeats s_defeaters, caZ G a_chosen 256 g_chosen] → va_S A s.heap H locs → lv_has ls 5 [(0, .ref h0), (1, .int x1), (2, .int v2), (3, .int v3)] → W p l e (headSpec wsX7_at ({ frames := 1, cells := 0, slots := 0, locals := 20 })).room s m ([.ref h0, .int x1] : List Value).toArray below meth c H locs 0 0 (MQ below (va_Qi (fun (r : Int32) (u : Unit) => post r) (hcB G A (fun u : Unit => [ceX7 h0 a_chosen a_marked a_surpassed s_heard s_defeats s_defeaters, caZ G a_chosen 256 g_chosen])) A) ([.ref h0, .int x1] : List Value).toArray s 0 0 A) (F0 m 5 ls [])) → ∀ (n : Nat) (v2 : Int32) (v3 : Int32) (v4 : Int32) , wp_X7_at_12 post g_chosen x1 K5 n v2 v3 v4 → ∀ (H : Heap) (locs : List Loc) (ls : Array Slot), va_P G.1 vwCl [ceX7 h0 a_chosen a_marked a_surpassed s_heard s_defeats s_defeaters, caZ G a_chosen 256 g_chosen] H → va_D A [ceX7 h0 a_chosen a_marked a_surpassed s_heard s_defeats s_defeaters, caZ G a_chosen 256 g_chosen] → va_S A s.heap H locs → lv_has ls 5 [(0, .ref h0), (1, .int x1), (2, .int v2), (3, .int v3), (4, .int v4)] → W p l e (headSpec wsX7_at ({ frames := 1, cells := 0, slots := 0, locals := 20 })).room s m ([.ref h0, .int x1] : List Value).toArray below meth c H locs 0 0 (MQ below (va_Qi (fun (r : Int32) (u : Unit) => post r) (hcB G A (fun u : Unit => [ceX7 h0 a_chosen a_marked a_surpassed s_heard s_defeats s_defeaters, caZ G a_chosen 256 g_chosen])) A) ([.ref h0, .int x1] : List Value).toArray s 0 0 A) (F0 m 12 ls []) := by
    intro K5 hK5 n
    induction n with
    | zero => intro v2 v3 v4 h; exact h.elim
    | succ n ih =>
      intro v2 v3 v4 h H locs ls hP hD hS hl
      unfold wp_X7_at_12 at h
      refine lv_iload hx hb dX7_at_12 (lv_at hl 4 rfl) ?_
      refine lv_aload_n hx hb dX7_at_14 rfl (lv_at hl 0 rfl) ?_
      refine va_get (D := G.1) (ci := 5) (v := .ref a_chosen) (C := RX7) (T := TX7) (N := 6) hx hb hts ki_X7 hown hK.1 hP 0 rfl rfl 0 (by decide) kf0 (fun _ h9 => h9) rfl dX7_at_15 ?_
      refine va_alen hx hb hK.1 hP 1 2 rfl rfl (v := nI 256) rfl dX7_at_18 ?_
      refine lv_icmp_ge (tgt := 58) hx hb dX7_at_19 (by decide) (fun c => ?_) (fun c => ?_)
      · replace h := h.1 c
        refine lv_iinc (v := v3 + (-1 : Int32)) (lv' := [(3, .int (v3 + (-1 : Int32))), (0, .ref h0), (1, .int x1), (2, .int v2), (4, .int v4)]) hx hb dX7_at_58 hl (k := 3) rfl (congrArg (fun q => v3 + q) kc_m1) (by decide) rfl (fun ls hl => ?_)
        refine lv_goto (tgt := 5) hx hb dX7_at_61 (by decide) ?_
        exact hK5 v2 (v3 + (-1 : Int32)) h _ _ _ hP hD hS (lv_sub hl [1, 2, 3, 0] rfl)
      · replace h := h.2 c
        refine lv_aload_n hx hb dX7_at_22 rfl (lv_at hl 0 rfl) ?_
        refine va_get (D := G.1) (ci := 5) (v := .ref a_chosen) (C := RX7) (T := TX7) (N := 6) hx hb hts ki_X7 hown hK.1 hP 0 rfl rfl 0 (by decide) kf0 (fun _ h9 => h9) rfl dX7_at_23 ?_
        refine lv_iload hx hb dX7_at_26 (lv_at hl 4 rfl) ?_
        have hin := h.1
        replace h := h.2
        refine va_zald hx hb hK.1 hP 1 2 rfl rfl hin dX7_at_28 ?_
        refine lv_if_eq (tgt := 52) hx hb dX7_at_29 (by decide) (fun c => ?_) (fun c => ?_)
        · replace h := h.1 c
          refine lv_iinc (v := v4 + nI 1) (lv' := [(4, .int (v4 + nI 1)), (0, .ref h0), (1, .int x1), (2, .int v2), (3, .int v3)]) hx hb dX7_at_52 hl (k := 4) rfl (congrArg (fun q => v4 + q) kc_1) (by decide) rfl (fun ls hl => ?_)
          refine lv_goto (tgt := 12) hx hb dX7_at_55 (by decide) ?_
          exact ih v2 v3 (v4 + nI 1) h _ _ _ hP hD hS (lv_sub hl [1, 2, 3, 4, 0] rfl)
        · replace h := h.2 c
          refine lv_iload hx hb dX7_at_32 (lv_at hl 4 rfl) ?_
          refine hc_ki (wr := [ceX7 h0 a_chosen a_marked a_surpassed s_heard s_defeats s_defeaters, caZ G a_chosen 256 g_chosen]) (va_runS (As := [.int v4]) (rest := []) ⟨hx, hb, hml, hown, hts⟩ (c_J6_bitCount_0f7a4 l G H.size v4 _ h) (va_cwS 1 hts gX7_at_J6_bitCount_0f7a4 rfl rfl rfl (by decide +kernel) ⟨Nat.le_of_ble_eq_true rfl, Nat.le_of_ble_eq_true rfl⟩) (hc_pS hK hP hD [] rfl rfl) rfl rfl hl.1 rfl (lv_room (Nat.le_of_ble_eq_true rfl)) dX7_at_34 ⟨Nat.le_refl _, Nat.le_refl _⟩) hP hD hS hA [] [0, 1] rfl rfl rfl (by decide) (fun r34 u H locs h hP hD hS => ?_)
          try dsimp only at h
          have hP : va_P G.1 vwCl [ceX7 h0 a_chosen a_marked a_surpassed s_heard s_defeats s_defeaters, caZ G a_chosen 256 g_chosen] H := hP
          have hD : va_D A [ceX7 h0 a_chosen a_marked a_surpassed s_heard s_defeats s_defeaters, caZ G a_chosen 256 g_chosen] := hD
          refine lv_iload_n hx hb dX7_at_37 rfl (lv_at hl 3 rfl) ?_
          refine lv_icmp_ne (tgt := 52) hx hb dX7_at_38 (by decide) (fun c => ?_) (fun c => ?_)
          · replace h := h.1 c
            refine lv_iinc (v := v4 + nI 1) (lv' := [(4, .int (v4 + nI 1)), (0, .ref h0), (1, .int x1), (2, .int v2), (3, .int v3)]) hx hb dX7_at_52 hl (k := 4) rfl (congrArg (fun q => v4 + q) kc_1) (by decide) rfl (fun ls hl => ?_)
            refine lv_goto (tgt := 12) hx hb dX7_at_55 (by decide) ?_
            exact ih v2 v3 (v4 + nI 1) h _ _ _ hP hD hS (lv_sub hl [1, 2, 3, 4, 0] rfl)
          · replace h := h.2 c
            refine lv_iload_n hx hb dX7_at_41 rfl (lv_at hl 2 rfl) ?_
            refine lv_iload_n hx hb dX7_at_42 rfl (lv_at hl 1 rfl) ?_
            refine lv_icmp_ne (tgt := 49) hx hb dX7_at_43 (by decide) (fun c => ?_) (fun c => ?_)
            · replace h := h.1 c
              refine lv_iinc (v := v2 + nI 1) (lv' := [(2, .int (v2 + nI 1)), (0, .ref h0), (1, .int x1), (3, .int v3), (4, .int v4)]) hx hb dX7_at_49 hl (k := 2) rfl (congrArg (fun q => v2 + q) kc_1) (by decide) rfl (fun ls hl => ?_)
              refine lv_iinc (v := v4 + nI 1) (lv' := [(4, .int (v4 + nI 1)), (2, .int (v2 + nI 1)), (0, .ref h0), (1, .int x1), (3, .int v3)]) hx hb dX7_at_52 hl (k := 4) rfl (congrArg (fun q => v4 + q) kc_1) (by decide) rfl (fun ls hl => ?_)
              refine lv_goto (tgt := 12) hx hb dX7_at_55 (by decide) ?_
              exact ih (v2 + nI 1) v3 (v4 + nI 1) h _ _ _ hP hD hS (lv_sub hl [2, 3, 1, 4, 0] rfl)
            · replace h := h.2 c
              refine lv_iload hx hb dX7_at_46 (lv_at hl 4 rfl) ?_
              exact W.iret (v := v4) hx hb hr (fun t ht hW => ⟨⟨_, (), rfl, h, ⟨by rw [ht]; exact hP, hD⟩⟩, hS.F ht⟩) hS.2.2 dX7_at_48
  have w5 : ∀ (n : Nat) (v2 : Int32) (v3 : Int32) , wp_X7_at_5 post g_chosen x1 n v2 v3 → ∀ (H : Heap) (locs : List Loc) (ls : Array Slot), va_P G.1 vwCl [ceX7 h0 a_chosen a_marked a_surpassed s_heard s_defeats s_defeaters, caZ G a_chosen 256 g_chosen] H → va_D A [ceX7 h0 a_chosen a_marked a_surpassed s_heard s_defeats s_defeaters, caZ G a_chosen 256 g_chosen] → va_S A s.heap H locs → lv_has ls 5 [(0, .ref h0), (1, .int x1), (2, .int v2), (3, .int v3)] → W p l e (headSpec wsX7_at ({ frames := 1, cells := 0, slots := 0, locals := 20 })).room s m ([.ref h0, .int x1] : List Value).toArray below meth c H locs 0 0 (MQ below (va_Qi (fun (r : Int32) (u : Unit) => post r) (hcB G A (fun u : Unit => [ceX7 h0 a_chosen a_marked a_surpassed s_heard s_defeats s_defeaters, caZ G a_chosen 256 g_chosen])) A) ([.ref h0, .int x1] : List Value).toArray s 0 0 A) (F0 m 5 ls []) := by
    intro n
    induction n with
    | zero => intro v2 v3 h; exact h.elim
    | succ n ih =>
      intro v2 v3 h H locs ls hP hD hS hl
      unfold wp_X7_at_5 at h
      refine lv_iload_n hx hb dX7_at_5 rfl (lv_at hl 3 rfl) ?_
      refine lv_if_lt (tgt := 64) hx hb dX7_at_6 (by decide) (fun c => ?_) (fun c => ?_)
      · replace h := h.1 c
        refine lv_bipush (v := (-9 : Int32)) hx hb dX7_at_64 kb_m9 ?_
        exact W.iret (v := (-9 : Int32)) hx hb hr (fun t ht hW => ⟨⟨_, (), rfl, h, ⟨by rw [ht]; exact hP, hD⟩⟩, hS.F ht⟩) hS.2.2 dX7_at_66
      · replace h := h.2 c
        refine lv_iconst (v := nI 0) hx hb dX7_at_9 kc_0 ?_
        refine lv_istore (lv' := [(4, .int (nI 0)), (0, .ref h0), (1, .int x1), (2, .int v2), (3, .int v3)]) hx hb dX7_at_10 hl (by decide) rfl (fun ls hl => ?_)
        obtain ⟨n12, h⟩ := h
        exact w12 ((wp_X7_at_5 post g_chosen x1 n)) ih n12 v2 v3 (nI 0) h _ _ _ hP hD hS (lv_sub hl [1, 2, 3, 4, 0] rfl)
  unfold wp_X7_at at h
  refine lv_iconst (v := nI 0) hx hb dX7_at_0 kc_0 ?_
  refine lv_istore_n (lv' := [(2, .int (nI 0)), (0, .ref h0), (1, .int x1)]) hx hb dX7_at_1 rfl hl (by decide) rfl (fun ls hl => ?_)
  refine lv_bipush (v := nI 8) hx hb dX7_at_2 kb_8 ?_
  refine lv_istore_n (lv' := [(3, .int (nI 8)), (2, .int (nI 0)), (0, .ref h0), (1, .int x1)]) hx hb dX7_at_4 rfl hl (by decide) rfl (fun ls hl => ?_)
  obtain ⟨n5, h⟩ := h
  exact w5  n5 (nI 0) (nI 8) h _ _ _ hP hD hS (lv_sub hl [2, 3, 1, 0] rfl)
set_option maxHeartbeats 4000000 in
set_option maxRecDepth 100000 in
theorem c_X7_common (l : Launch) (G : hcG) (h0 : Nat) (a_chosen : Nat) (a_marked : Nat) (a_surpassed : Nat) (sz : Nat) (s_heard : Int32) (s_defeats : Int64) (s_defeaters : Int64) (g_chosen : Nat → Int32) (post : Int32 → Prop) (h : wp_X7_common post g_chosen s_heard) : Met l yX7_common wsX7_common ({ frames := 0, cells := 0, slots := 0, locals := 0 }) (hcPc G [.ref h0] [ceX7 h0 a_chosen a_marked a_surpassed s_heard s_defeats s_defeaters, caZ G a_chosen 256 g_chosen] sz) (va_Qi (fun (r : Int32) (u : Unit) => post r) (hcB G (va_A [ceX7 h0 a_chosen a_marked a_surpassed s_heard s_defeats s_defeaters, caZ G a_chosen 256 g_chosen] sz) (fun u : Unit => [ceX7 h0 a_chosen a_marked a_surpassed s_heard s_defeats s_defeaters, caZ G a_chosen 256 g_chosen])) (va_A [ceX7 h0 a_chosen a_marked a_surpassed s_heard s_defeats s_defeaters, caZ G a_chosen 256 g_chosen] sz)) 0 0 (va_A [ceX7 h0 a_chosen a_marked a_surpassed s_heard s_defeats s_defeaters, caZ G a_chosen 256 g_chosen] sz) := by
  refine Met.ofW (cc := cX7_common) (maxL := 3) (ret := (some .int)) (by decide) rfl ?_
  intro p e s m args below meth c s₁ B hml hv
  obtain ⟨rfl, hsz, hP, hK, hD0⟩ := hv
  have hx := B.exec
  have hb := B.bytes
  have hr := B.returns
  have hts := atoms_spec (ws := wsX7_common) B.pre
  have hown : s.vm.findClass RX7 = some m.cls := findClass_of_methodNamed B.named
  have hlocks := B.notSynchronized
  subst hsz
  have hD := hD0.self (sz := s.heap.size)
  generalize hAe : va_A [ceX7 h0 a_chosen a_marked a_surpassed s_heard s_defeats s_defeaters, caZ G a_chosen 256 g_chosen] s.heap.size = A at hD ⊢
  have hA : ∀ q : Nat, s.heap.size ≤ q → A q := fun q h => by rw [← hAe]; exact Or.inr h
  have hS : va_S A s.heap s.heap [] := va_S.rf
  have hP : va_P G.1 vwCl [ceX7 h0 a_chosen a_marked a_surpassed s_heard s_defeats s_defeaters, caZ G a_chosen 256 g_chosen] s.heap := hP
  have hl := lv_entry ([.ref h0]) (n := 3) (Nat.le_of_ble_eq_true rfl)
  rw [lg_entry_eq]
  generalize (lg_sl ([.ref h0]) ++ List.replicate (3 - (lg_sl ([.ref h0])).length) Slot.unset).toArray = ls at hl ⊢
  have hl : lv_has ls 3 [(0, .ref h0)] := hl
  have kf0 := hts (.fieldLink RX7 21 "HallOfClaims$Sorts" "heard" "I") (List.mem_of_getElem? (i := 1) (by decide +kernel))
  have kf1 := hts (.fieldLink RX7 9 "HallOfClaims$Sorts" "chosen" "[Z") (List.mem_of_getElem? (i := 2) (by decide +kernel))
  have ki_X7 : ∀ w ∈ u_ws RX7 TX7 6, w ∈ wsX7_common := by decide +kernel
  have w7 : ∀ (n : Nat) (v1 : Int32) (v2 : Int32) , wp_X7_common_7 post g_chosen s_heard n v1 v2 → ∀ (H : Heap) (locs : List Loc) (ls : Array Slot), va_P G.1 vwCl [ceX7 h0 a_chosen a_marked a_surpassed s_heard s_defeats s_defeaters, caZ G a_chosen 256 g_chosen] H → va_D A [ceX7 h0 a_chosen a_marked a_surpassed s_heard s_defeats s_defeaters, caZ G a_chosen 256 g_chosen] → va_S A s.heap H locs → lv_has ls 3 [(0, .ref h0), (1, .int v1), (2, .int v2)] → W p l e (headSpec wsX7_common ({ frames := 0, cells := 0, slots := 0, locals := 0 })).room s m ([.ref h0] : List Value).toArray below meth c H locs 0 0 (MQ below (va_Qi (fun (r : Int32) (u : Unit) => post r) (hcB G A (fun u : Unit => [ceX7 h0 a_chosen a_marked a_surpassed s_heard s_defeats s_defeaters, caZ G a_chosen 256 g_chosen])) A) ([.ref h0] : List Value).toArray s 0 0 A) (F0 m 7 ls []) := by
    intro n
    induction n with
    | zero => intro v1 v2 h; exact h.elim
    | succ n ih =>
      intro v1 v2 h H locs ls hP hD hS hl
      unfold wp_X7_common_7 at h
      refine lv_iload_n hx hb dX7_common_7 rfl (lv_at hl 2 rfl) ?_
      refine lv_aload_n hx hb dX7_common_8 rfl (lv_at hl 0 rfl) ?_
      refine va_get (D := G.1) (ci := 5) (v := .ref a_chosen) (C := RX7) (T := TX7) (N := 6) hx hb hts ki_X7 hown hK.1 hP 0 rfl rfl 0 (by decide) kf1 (fun _ h9 => h9) rfl dX7_common_9 ?_
      refine va_alen hx hb hK.1 hP 1 2 rfl rfl (v := nI 256) rfl dX7_common_12 ?_
      refine lv_icmp_ge (tgt := 35) hx hb dX7_common_13 (by decide) (fun c => ?_) (fun c => ?_)
      · replace h := h.1 c
        refine lv_iload_n hx hb dX7_common_35 rfl (lv_at hl 1 rfl) ?_
        exact W.iret (v := v1) hx hb hr (fun t ht hW => ⟨⟨_, (), rfl, h, ⟨by rw [ht]; exact hP, hD⟩⟩, hS.F ht⟩) hS.2.2 dX7_common_36
      · replace h := h.2 c
        refine lv_aload_n hx hb dX7_common_16 rfl (lv_at hl 0 rfl) ?_
        refine va_get (D := G.1) (ci := 5) (v := .ref a_chosen) (C := RX7) (T := TX7) (N := 6) hx hb hts ki_X7 hown hK.1 hP 0 rfl rfl 0 (by decide) kf1 (fun _ h9 => h9) rfl dX7_common_17 ?_
        refine lv_iload_n hx hb dX7_common_20 rfl (lv_at hl 2 rfl) ?_
        have hin := h.1
        replace h := h.2
        refine va_zald hx hb hK.1 hP 1 2 rfl rfl hin dX7_common_21 ?_
        refine lv_if_eq (tgt := 29) hx hb dX7_common_22 (by decide) (fun c => ?_) (fun c => ?_)
        · replace h := h.1 c
          refine lv_iinc (v := v2 + nI 1) (lv' := [(2, .int (v2 + nI 1)), (0, .ref h0), (1, .int v1)]) hx hb dX7_common_29 hl (k := 2) rfl (congrArg (fun q => v2 + q) kc_1) (by decide) rfl (fun ls hl => ?_)
          refine lv_goto (tgt := 7) hx hb dX7_common_32 (by decide) ?_
          exact ih v1 (v2 + nI 1) h _ _ _ hP hD hS (lv_sub hl [1, 2, 0] rfl)
        · replace h := h.2 c
          refine lv_iload_n hx hb dX7_common_25 rfl (lv_at hl 1 rfl) ?_
          refine lv_iload_n hx hb dX7_common_26 rfl (lv_at hl 2 rfl) ?_
          refine lv_iand hx hb dX7_common_27 ?_
          refine lv_istore_n (lv' := [(1, .int (v1 &&& v2)), (0, .ref h0), (2, .int v2)]) hx hb dX7_common_28 rfl hl (by decide) rfl (fun ls hl => ?_)
          refine lv_iinc (v := v2 + nI 1) (lv' := [(2, .int (v2 + nI 1)), (1, .int (v1 &&& v2)), (0, .ref h0)]) hx hb dX7_common_29 hl (k := 2) rfl (congrArg (fun q => v2 + q) kc_1) (by decide) rfl (fun ls hl => ?_)
          refine lv_goto (tgt := 7) hx hb dX7_common_32 (by decide) ?_
          exact ih (v1 &&& v2) (v2 + nI 1) h _ _ _ hP hD hS (lv_sub hl [2, 1, 0] rfl)
  unfold wp_X7_common at h
  refine lv_aload_n hx hb dX7_common_0 rfl (lv_at hl 0 rfl) ?_
  refine va_get (D := G.1) (ci := 5) (v := .int s_heard) (C := RX7) (T := TX7) (N := 6) hx hb hts ki_X7 hown hK.1 hP 0 rfl rfl 3 (by decide) kf0 (fun _ h9 => h9) rfl dX7_common_1 ?_
  refine lv_istore_n (lv' := [(1, .int s_heard), (0, .ref h0)]) hx hb dX7_common_4 rfl hl (by decide) rfl (fun ls hl => ?_)
  refine lv_iconst (v := nI 0) hx hb dX7_common_5 kc_0 ?_
  refine lv_istore_n (lv' := [(2, .int (nI 0)), (1, .int s_heard), (0, .ref h0)]) hx hb dX7_common_6 rfl hl (by decide) rfl (fun ls hl => ?_)
  obtain ⟨n7, h⟩ := h
  exact w7  n7 s_heard (nI 0) h _ _ _ hP hD hS (lv_sub hl [2, 1, 0] rfl)
set_option maxHeartbeats 4000000 in
set_option maxRecDepth 100000 in
theorem c_X7_greatestWithin (l : Launch) (G : hcG) (h0 : Nat) (a_chosen : Nat) (a_marked : Nat) (a_surpassed : Nat) (sz : Nat) (s_heard : Int32) (s_defeats : Int64) (s_defeaters : Int64) (g_chosen : Nat → Int32) (x1 : Int32) (post : Int32 → Prop) (h : wp_X7_greatestWithin post g_chosen x1) : Met l yX7_greatestWithin wsX7_greatestWithin ({ frames := 1, cells := 0, slots := 0, locals := 20 }) (hcPc G [.ref h0, .int x1] [ceX7 h0 a_chosen a_marked a_surpassed s_heard s_defeats s_defeaters, caZ G a_chosen 256 g_chosen] sz) (va_Qi (fun (r : Int32) (u : Unit) => post r) (hcB G (va_A [ceX7 h0 a_chosen a_marked a_surpassed s_heard s_defeats s_defeaters, caZ G a_chosen 256 g_chosen] sz) (fun u : Unit => [ceX7 h0 a_chosen a_marked a_surpassed s_heard s_defeats s_defeaters, caZ G a_chosen 256 g_chosen])) (va_A [ceX7 h0 a_chosen a_marked a_surpassed s_heard s_defeats s_defeaters, caZ G a_chosen 256 g_chosen] sz)) 0 0 (va_A [ceX7 h0 a_chosen a_marked a_surpassed s_heard s_defeats s_defeaters, caZ G a_chosen 256 g_chosen] sz) := by
  refine Met.ofW (cc := cX7_greatestWithin) (maxL := 5) (ret := (some .int)) (by decide) rfl ?_
  intro p e s m args below meth c s₁ B hml hv
  obtain ⟨rfl, hsz, hP, hK, hD0⟩ := hv
  have hx := B.exec
  have hb := B.bytes
  have hr := B.returns
  have hts := atoms_spec (ws := wsX7_greatestWithin) B.pre
  have hown : s.vm.findClass RX7 = some m.cls := findClass_of_methodNamed B.named
  have hlocks := B.notSynchronized
  subst hsz
  have hD := hD0.self (sz := s.heap.size)
  generalize hAe : va_A [ceX7 h0 a_chosen a_marked a_surpassed s_heard s_defeats s_defeaters, caZ G a_chosen 256 g_chosen] s.heap.size = A at hD ⊢
  have hA : ∀ q : Nat, s.heap.size ≤ q → A q := fun q h => by rw [← hAe]; exact Or.inr h
  have hS : va_S A s.heap s.heap [] := va_S.rf
  have hP : va_P G.1 vwCl [ceX7 h0 a_chosen a_marked a_surpassed s_heard s_defeats s_defeaters, caZ G a_chosen 256 g_chosen] s.heap := hP
  have hl := lv_entry ([.ref h0, .int x1]) (n := 5) (Nat.le_of_ble_eq_true rfl)
  rw [lg_entry_eq]
  generalize (lg_sl ([.ref h0, .int x1]) ++ List.replicate (5 - (lg_sl ([.ref h0, .int x1])).length) Slot.unset).toArray = ls at hl ⊢
  have hl : lv_has ls 5 [(0, .ref h0), (1, .int x1)] := hl
  have kf0 := hts (.fieldLink RX7 9 "HallOfClaims$Sorts" "chosen" "[Z") (List.mem_of_getElem? (i := 1) (by decide +kernel))
  have ki_X7 : ∀ w ∈ u_ws RX7 TX7 6, w ∈ wsX7_greatestWithin := by decide +kernel
  have w29 : ∀ (K4 : Int32 → Int32 → Prop), (∀ (v2 : Int32) (v3 : Int32) , K4 v2 v3 → ∀ (H : Heap) (locs : List Loc) (ls : Array Slot), va_P G.1 vwCl [ceX7 h0 a_chosen a_marked a_surpassed s_heard s_defeats s_defeaters, caZ G a_chosen 256 g_chosen] H → va_D A [ceX7 h0 a_chosen a_marked a_surpassed s_heard s_defeats s_defeaters, caZ G a_chosen 256 g_chosen] → va_S A s.heap H locs → lv_has ls 5 [(0, .ref h0), (1, .int x1), (2, .int v2), (3, .int v3)] → W p l e (headSpec wsX7_greatestWithin ({ frames := 1, cells := 0, slots := 0, locals := 20 })).room s m ([.ref h0, .int x1] : List Value).toArray below meth c H locs 0 0 (MQ below (va_Qi (fun (r : Int32) (u : Unit) => post r) (hcB G A (fun u : Unit => [ceX7 h0 a_chosen a_marked a_surpassed s_heard s_defeats s_defeaters, caZ G a_chosen 256 g_chosen])) A) ([.ref h0, .int x1] : List Value).toArray s 0 0 A) (F0 m 4 ls [])) → ∀ (v2 : Int32) (v3 : Int32) (t0 : Int32) , wp_X7_greatestWithin_29 post g_chosen x1 K4 v2 v3 t0 → ∀ (H : Heap) (locs : List Loc) (ls : Array Slot), va_P G.1 vwCl [ceX7 h0 a_chosen a_marked a_surpassed s_heard s_defeats s_defeaters, caZ G a_chosen 256 g_chosen] H → va_D A [ceX7 h0 a_chosen a_marked a_surpassed s_heard s_defeats s_defeaters, caZ G a_chosen 256 g_chosen] → va_S A s.heap H locs → lv_has ls 5 [(0, .ref h0), (1, .int x1), (2, .int v2), (3, .int v3)] → W p l e (headSpec wsX7_greatestWithin ({ frames := 1, cells := 0, slots := 0, locals := 20 })).room s m ([.ref h0, .int x1] : List Value).toArray below meth c H locs 0 0 (MQ below (va_Qi (fun (r : Int32) (u : Unit) => post r) (hcB G A (fun u : Unit => [ceX7 h0 a_chosen a_marked a_surpassed s_heard s_defeats s_defeaters, caZ G a_chosen 256 g_chosen])) A) ([.ref h0, .int x1] : List Value).toArray s 0 0 A) (F0 m 29 ls [.int t0]) := by
    intro K4 hK4 v2 v3 t0 h H locs ls hP hD hS hl
    unfold wp_X7_greatestWithin_29 at h
    refine lv_istore (lv' := [(4, .int t0), (0, .ref h0), (1, .int x1), (2, .int v2), (3, .int v3)]) hx hb dX7_greatestWithin_29 hl (by decide) rfl (fun ls hl => ?_)
    refine lv_aload_n hx hb dX7_greatestWithin_31 rfl (lv_at hl 1 rfl) ?_
    refine va_get (D := G.1) (ci := 5) (v := .ref a_chosen) (C := RX7) (T := TX7) (N := 6) hx hb hts ki_X7 hown hK.1 hP 0 rfl rfl 0 (by decide) kf0 (fun _ h9 => h9) rfl dX7_greatestWithin_32 ?_
    refine lv_iload_n hx hb dX7_greatestWithin_35 rfl (lv_at hl 4 rfl) ?_
    have hin := h.1
    replace h := h.2
    refine va_zald hx hb hK.1 hP 1 2 rfl rfl hin dX7_greatestWithin_36 ?_
    refine lv_if_eq (tgt := 55) hx hb dX7_greatestWithin_37 (by decide) (fun c => ?_) (fun c => ?_)
    · replace h := h.1 c
      refine lv_iinc (v := v3 + nI 1) (lv' := [(3, .int (v3 + nI 1)), (4, .int t0), (0, .ref h0), (1, .int x1), (2, .int v2)]) hx hb dX7_greatestWithin_55 hl (k := 4) rfl (congrArg (fun q => v3 + q) kc_1) (by decide) rfl (fun ls hl => ?_)
      refine lv_goto (tgt := 4) hx hb dX7_greatestWithin_58 (by decide) ?_
      exact hK4 v2 (v3 + nI 1) h _ _ _ hP hD hS (lv_sub hl [2, 3, 4, 0] rfl)
    · replace h := h.2 c
      refine lv_iload_n hx hb dX7_greatestWithin_40 rfl (lv_at hl 4 rfl) ?_
      refine lv_iload_n hx hb dX7_greatestWithin_41 rfl (lv_at hl 2 rfl) ?_
      refine lv_iconst (v := (-1 : Int32)) hx hb dX7_greatestWithin_42 kc_m1 ?_
      refine lv_ixor hx hb dX7_greatestWithin_43 ?_
      refine lv_iand hx hb dX7_greatestWithin_44 ?_
      refine lv_if_ne (tgt := 55) hx hb dX7_greatestWithin_45 (by decide) (fun c => ?_) (fun c => ?_)
      · replace h := h.1 c
        refine lv_iinc (v := v3 + nI 1) (lv' := [(3, .int (v3 + nI 1)), (4, .int t0), (0, .ref h0), (1, .int x1), (2, .int v2)]) hx hb dX7_greatestWithin_55 hl (k := 4) rfl (congrArg (fun q => v3 + q) kc_1) (by decide) rfl (fun ls hl => ?_)
        refine lv_goto (tgt := 4) hx hb dX7_greatestWithin_58 (by decide) ?_
        exact hK4 v2 (v3 + nI 1) h _ _ _ hP hD hS (lv_sub hl [2, 3, 4, 0] rfl)
      · replace h := h.2 c
        refine lv_iload hx hb dX7_greatestWithin_48 (lv_at hl 0 rfl) ?_
        refine lv_if_eq (tgt := 55) hx hb dX7_greatestWithin_50 (by decide) (fun c => ?_) (fun c => ?_)
        · replace h := h.1 c
          refine lv_iinc (v := v3 + nI 1) (lv' := [(3, .int (v3 + nI 1)), (4, .int t0), (0, .ref h0), (1, .int x1), (2, .int v2)]) hx hb dX7_greatestWithin_55 hl (k := 4) rfl (congrArg (fun q => v3 + q) kc_1) (by decide) rfl (fun ls hl => ?_)
          refine lv_goto (tgt := 4) hx hb dX7_greatestWithin_58 (by decide) ?_
          exact hK4 v2 (v3 + nI 1) h _ _ _ hP hD hS (lv_sub hl [2, 3, 4, 0] rfl)
        · replace h := h.2 c
          refine lv_iload_n hx hb dX7_greatestWithin_53 rfl (lv_at hl 4 rfl) ?_
          refine lv_istore_n (lv' := [(2, .int v3), (4, .int t0), (0, .ref h0), (1, .int x1), (3, .int v3)]) hx hb dX7_greatestWithin_54 rfl hl (by decide) rfl (fun ls hl => ?_)
          refine lv_iinc (v := v3 + nI 1) (lv' := [(3, .int (v3 + nI 1)), (2, .int v3), (4, .int t0), (0, .ref h0), (1, .int x1)]) hx hb dX7_greatestWithin_55 hl (k := 4) rfl (congrArg (fun q => v3 + q) kc_1) (by decide) rfl (fun ls hl => ?_)
          refine lv_goto (tgt := 4) hx hb dX7_greatestWithin_58 (by decide) ?_
          exact hK4 v3 (v3 + nI 1) h _ _ _ hP hD hS (lv_sub hl [3, 4, 1, 0] rfl)
  have w4 : ∀ (n : Nat) (v2 : Int32) (v3 : Int32) , wp_X7_greatestWithin_4 post g_chosen x1 n v2 v3 → ∀ (H : Heap) (locs : List Loc) (ls : Array Slot), va_P G.1 vwCl [ceX7 h0 a_chosen a_marked a_surpassed s_heard s_defeats s_defeaters, caZ G a_chosen 256 g_chosen] H → va_D A [ceX7 h0 a_chosen a_marked a_surpassed s_heard s_defeats s_defeaters, caZ G a_chosen 256 g_chosen] → va_S A s.heap H locs → lv_has ls 5 [(0, .ref h0), (1, .int x1), (2, .int v2), (3, .int v3)] → W p l e (headSpec wsX7_greatestWithin ({ frames := 1, cells := 0, slots := 0, locals := 20 })).room s m ([.ref h0, .int x1] : List Value).toArray below meth c H locs 0 0 (MQ below (va_Qi (fun (r : Int32) (u : Unit) => post r) (hcB G A (fun u : Unit => [ceX7 h0 a_chosen a_marked a_surpassed s_heard s_defeats s_defeaters, caZ G a_chosen 256 g_chosen])) A) ([.ref h0, .int x1] : List Value).toArray s 0 0 A) (F0 m 4 ls []) := by
    intro n
    induction n with
    | zero => intro v2 v3 h; exact h.elim
    | succ n ih =>
      intro v2 v3 h H locs ls hP hD hS hl
      unfold wp_X7_greatestWithin_4 at h
      refine lv_iload_n hx hb dX7_greatestWithin_4 rfl (lv_at hl 3 rfl) ?_
      refine lv_aload_n hx hb dX7_greatestWithin_5 rfl (lv_at hl 0 rfl) ?_
      refine va_get (D := G.1) (ci := 5) (v := .ref a_chosen) (C := RX7) (T := TX7) (N := 6) hx hb hts ki_X7 hown hK.1 hP 0 rfl rfl 0 (by decide) kf0 (fun _ h9 => h9) rfl dX7_greatestWithin_6 ?_
      refine va_alen hx hb hK.1 hP 1 2 rfl rfl (v := nI 256) rfl dX7_greatestWithin_9 ?_
      refine lv_icmp_ge (tgt := 61) hx hb dX7_greatestWithin_10 (by decide) (fun c => ?_) (fun c => ?_)
      · replace h := h.1 c
        refine lv_iload_n hx hb dX7_greatestWithin_61 rfl (lv_at hl 2 rfl) ?_
        exact W.iret (v := v2) hx hb hr (fun t ht hW => ⟨⟨_, (), rfl, h, ⟨by rw [ht]; exact hP, hD⟩⟩, hS.F ht⟩) hS.2.2 dX7_greatestWithin_62
      · replace h := h.2 c
        refine lv_iload_n hx hb dX7_greatestWithin_13 rfl (lv_at hl 3 rfl) ?_
        refine hc_ki (wr := [ceX7 h0 a_chosen a_marked a_surpassed s_heard s_defeats s_defeaters, caZ G a_chosen 256 g_chosen]) (va_runS (As := [.int v3]) (rest := []) ⟨hx, hb, hml, hown, hts⟩ (c_J6_bitCount_0f7a4 l G H.size v3 _ h) (va_cwS 1 hts gX7_greatestWithin_J6_bitCount_0f7a4 rfl rfl rfl (by decide +kernel) ⟨Nat.le_of_ble_eq_true rfl, Nat.le_of_ble_eq_true rfl⟩) (hc_pS hK hP hD [] rfl rfl) rfl rfl hl.1 rfl (lv_room (Nat.le_of_ble_eq_true rfl)) dX7_greatestWithin_14 ⟨Nat.le_refl _, Nat.le_refl _⟩) hP hD hS hA [] [0, 1] rfl rfl rfl (by decide) (fun r14 u H locs h hP hD hS => ?_)
        try dsimp only at h
        have hP : va_P G.1 vwCl [ceX7 h0 a_chosen a_marked a_surpassed s_heard s_defeats s_defeaters, caZ G a_chosen 256 g_chosen] H := hP
        have hD : va_D A [ceX7 h0 a_chosen a_marked a_surpassed s_heard s_defeats s_defeaters, caZ G a_chosen 256 g_chosen] := hD
        refine lv_iload_n hx hb dX7_greatestWithin_17 rfl (lv_at hl 2 rfl) ?_
        refine hc_ki (wr := [ceX7 h0 a_chosen a_marked a_surpassed s_heard s_defeats s_defeaters, caZ G a_chosen 256 g_chosen]) (va_runS (As := [.int v2]) (rest := [.int r14]) ⟨hx, hb, hml, hown, hts⟩ (c_J6_bitCount_0f7a4 l G H.size v2 _ h) (va_cwS 1 hts gX7_greatestWithin_J6_bitCount_0f7a4 rfl rfl rfl (by decide +kernel) ⟨Nat.le_of_ble_eq_true rfl, Nat.le_of_ble_eq_true rfl⟩) (hc_pS hK hP hD [] rfl rfl) rfl rfl hl.1 rfl (lv_room (Nat.le_of_ble_eq_true rfl)) dX7_greatestWithin_18 ⟨Nat.le_refl _, Nat.le_refl _⟩) hP hD hS hA [] [0, 1] rfl rfl rfl (by decide) (fun r18 u H locs h hP hD hS => ?_)
        try dsimp only at h
        have hP : va_P G.1 vwCl [ceX7 h0 a_chosen a_marked a_surpassed s_heard s_defeats s_defeaters, caZ G a_chosen 256 g_chosen] H := hP
        have hD : va_D A [ceX7 h0 a_chosen a_marked a_surpassed s_heard s_defeats s_defeaters, caZ G a_chosen 256 g_chosen] := hD
        refine lv_icmp_le (tgt := 28) hx hb dX7_greatestWithin_21 (by decide) (fun c => ?_) (fun c => ?_)
        · replace h := h.1 c
          refine lv_iconst (v := nI 0) hx hb dX7_greatestWithin_28 kc_0 ?_
          exact w29 ((wp_X7_greatestWithin_4 post g_chosen x1 n)) ih v2 v3 (nI 0) h _ _ _ hP hD hS (lv_sub hl [0, 1, 2, 3] rfl)
        · replace h := h.2 c
          refine lv_iconst (v := nI 1) hx hb dX7_greatestWithin_24 kc_1 ?_
          refine lv_goto (tgt := 29) hx hb dX7_greatestWithin_25 (by decide) ?_
          exact w29 ((wp_X7_greatestWithin_4 post g_chosen x1 n)) ih v2 v3 (nI 1) h _ _ _ hP hD hS (lv_sub hl [0, 1, 2, 3] rfl)
  unfold wp_X7_greatestWithin at h
  refine lv_iconst (v := nI 0) hx hb dX7_greatestWithin_0 kc_0 ?_
  refine lv_istore_n (lv' := [(2, .int (nI 0)), (0, .ref h0), (1, .int x1)]) hx hb dX7_greatestWithin_1 rfl hl (by decide) rfl (fun ls hl => ?_)
  refine lv_iconst (v := nI 0) hx hb dX7_greatestWithin_2 kc_0 ?_
  refine lv_istore_n (lv' := [(3, .int (nI 0)), (2, .int (nI 0)), (0, .ref h0), (1, .int x1)]) hx hb dX7_greatestWithin_3 rfl hl (by decide) rfl (fun ls hl => ?_)
  obtain ⟨n4, h⟩ := h
  exact w4  n4 (nI 0) (nI 0) h _ _ _ hP hD hS (lv_sub hl [2, 3, 1, 0] rfl)
set_option maxHeartbeats 4000000 in
set_option maxRecDepth 100000 in
theorem c_X9_next (l : Launch) (G : hcG) (h0 : Nat) (hp1 : Nat) (sz : Nat) (s_in : Int32) (s_out : Int32) (s_length : Int32) (s_order : Int64) (s_p1_size : Int32) (s_p1_heard : Int32) (s_p1_mode : Int32) (s_p1_cast : Int64) (s_p1_figures : Int64) (s_p1_voices : Int64) (s_p1_attacks : Int64) (s_p1_supports : Int64) (x2 : Int64) (post : Int32 → Prop) (h : wp_X9_next post s_in s_out s_p1_size s_p1_heard s_p1_figures x2) : Met l yX9_next wsX9_next ({ frames := 2, cells := 0, slots := 0, locals := 43 }) (hcPc G [.ref h0, .ref hp1, .long x2] [ceX9 h0 s_in s_out s_length s_order, ceX3 hp1 s_p1_size s_p1_heard s_p1_mode s_p1_cast s_p1_figures s_p1_voices s_p1_attacks s_p1_supports] sz) (va_Qi (fun (r : Int32) (u : Unit) => post r) (hcB G (va_A [ceX9 h0 s_in s_out s_length s_order, ceX3 hp1 s_p1_size s_p1_heard s_p1_mode s_p1_cast s_p1_figures s_p1_voices s_p1_attacks s_p1_supports] sz) (fun u : Unit => [ceX9 h0 s_in s_out s_length s_order, ceX3 hp1 s_p1_size s_p1_heard s_p1_mode s_p1_cast s_p1_figures s_p1_voices s_p1_attacks s_p1_supports])) (va_A [ceX9 h0 s_in s_out s_length s_order, ceX3 hp1 s_p1_size s_p1_heard s_p1_mode s_p1_cast s_p1_figures s_p1_voices s_p1_attacks s_p1_supports] sz)) 0 0 (va_A [ceX9 h0 s_in s_out s_length s_order, ceX3 hp1 s_p1_size s_p1_heard s_p1_mode s_p1_cast s_p1_figures s_p1_voices s_p1_attacks s_p1_supports] sz) := by
  refine Met.ofW (cc := cX9_next) (maxL := 8) (ret := (some .int)) (by decide) rfl ?_
  intro p e s m args below meth c s₁ B hml hv
  obtain ⟨rfl, hsz, hP, hK, hD0⟩ := hv
  have hx := B.exec
  have hb := B.bytes
  have hr := B.returns
  have hts := atoms_spec (ws := wsX9_next) B.pre
  have hown : s.vm.findClass RX9 = some m.cls := findClass_of_methodNamed B.named
  have hlocks := B.notSynchronized
  subst hsz
  have hD := hD0.self (sz := s.heap.size)
  generalize hAe : va_A [ceX9 h0 s_in s_out s_length s_order, ceX3 hp1 s_p1_size s_p1_heard s_p1_mode s_p1_cast s_p1_figures s_p1_voices s_p1_attacks s_p1_supports] s.heap.size = A at hD ⊢
  have hA : ∀ q : Nat, s.heap.size ≤ q → A q := fun q h => by rw [← hAe]; exact Or.inr h
  have hS : va_S A s.heap s.heap [] := va_S.rf
  have hP : va_P G.1 vwCl [ceX9 h0 s_in s_out s_length s_order, ceX3 hp1 s_p1_size s_p1_heard s_p1_mode s_p1_cast s_p1_figures s_p1_voices s_p1_attacks s_p1_supports] s.heap := hP
  have hl := lv_entry ([.ref h0, .ref hp1, .long x2]) (n := 8) (Nat.le_of_ble_eq_true rfl)
  rw [lg_entry_eq]
  generalize (lg_sl ([.ref h0, .ref hp1, .long x2]) ++ List.replicate (8 - (lg_sl ([.ref h0, .ref hp1, .long x2])).length) Slot.unset).toArray = ls at hl ⊢
  have hl : lv_has ls 8 [(0, .ref h0), (1, .ref hp1), (2, .long x2)] := hl
  have kf0 := hts (.fieldLink RX9 52 "HallOfClaims$Hall" "heard" "I") (List.mem_of_getElem? (i := 1) (by decide +kernel))
  have kf1 := hts (.fieldLink RX9 9 "HallOfClaims$Turns" "in" "I") (List.mem_of_getElem? (i := 2) (by decide +kernel))
  have kf2 := hts (.fieldLink RX9 15 "HallOfClaims$Turns" "out" "I") (List.mem_of_getElem? (i := 3) (by decide +kernel))
  have kf3 := hts (.fieldLink RX9 25 "HallOfClaims$Hall" "size" "I") (List.mem_of_getElem? (i := 4) (by decide +kernel))
  have ki_X3 : ∀ w ∈ u_ws RX3 TX3 8, w ∈ wsX9_next := by decide +kernel
  have ki_X9 : ∀ w ∈ u_ws RX9 TX9 4, w ∈ wsX9_next := by decide +kernel
  have w56 : ∀ (K26 : Int32 → Int32 → Int32 → Prop), (∀ (v4 : Int32) (v5 : Int32) (v6 : Int32) , K26 v4 v5 v6 → ∀ (H : Heap) (locs : List Loc) (ls : Array Slot), va_P G.1 vwCl [ceX9 h0 s_in s_out s_length s_order, ceX3 hp1 s_p1_size s_p1_heard s_p1_mode s_p1_cast s_p1_figures s_p1_voices s_p1_attacks s_p1_supports] H → va_D A [ceX9 h0 s_in s_out s_length s_order, ceX3 hp1 s_p1_size s_p1_heard s_p1_mode s_p1_cast s_p1_figures s_p1_voices s_p1_attacks s_p1_supports] → va_S A s.heap H locs → lv_has ls 8 [(0, .ref h0), (1, .ref hp1), (2, .long x2), (4, .int v4), (5, .int v5), (6, .int v6)] → W p l e (headSpec wsX9_next ({ frames := 2, cells := 0, slots := 0, locals := 43 })).room s m ([.ref h0, .ref hp1, .long x2] : List Value).toArray below meth c H locs 0 0 (MQ below (va_Qi (fun (r : Int32) (u : Unit) => post r) (hcB G A (fun u : Unit => [ceX9 h0 s_in s_out s_length s_order, ceX3 hp1 s_p1_size s_p1_heard s_p1_mode s_p1_cast s_p1_figures s_p1_voices s_p1_attacks s_p1_supports])) A) ([.ref h0, .ref hp1, .long x2] : List Value).toArray s 0 0 A) (F0 m 26 ls [])) → ∀ (v4 : Int32) (v5 : Int32) (v6 : Int32) (t0 : Int32) , wp_X9_next_56 post s_in s_out s_p1_size s_p1_heard s_p1_figures x2 K26 v4 v5 v6 t0 → ∀ (H : Heap) (locs : List Loc) (ls : Array Slot), va_P G.1 vwCl [ceX9 h0 s_in s_out s_length s_order, ceX3 hp1 s_p1_size s_p1_heard s_p1_mode s_p1_cast s_p1_figures s_p1_voices s_p1_attacks s_p1_supports] H → va_D A [ceX9 h0 s_in s_out s_length s_order, ceX3 hp1 s_p1_size s_p1_heard s_p1_mode s_p1_cast s_p1_figures s_p1_voices s_p1_attacks s_p1_supports] → va_S A s.heap H locs → lv_has ls 8 [(0, .ref h0), (1, .ref hp1), (2, .long x2), (4, .int v4), (5, .int v5), (6, .int v6)] → W p l e (headSpec wsX9_next ({ frames := 2, cells := 0, slots := 0, locals := 43 })).room s m ([.ref h0, .ref hp1, .long x2] : List Value).toArray below meth c H locs 0 0 (MQ below (va_Qi (fun (r : Int32) (u : Unit) => post r) (hcB G A (fun u : Unit => [ceX9 h0 s_in s_out s_length s_order, ceX3 hp1 s_p1_size s_p1_heard s_p1_mode s_p1_cast s_p1_figures s_p1_voices s_p1_attacks s_p1_supports])) A) ([.ref h0, .ref hp1, .long x2] : List Value).toArray s 0 0 A) (F0 m 56 ls [.int t0]) := by
    intro K26 hK26 v4 v5 v6 t0 h H locs ls hP hD hS hl
    unfold wp_X9_next_56 at h
    refine lv_istore (lv' := [(7, .int t0), (0, .ref h0), (1, .ref hp1), (2, .long x2), (4, .int v4), (5, .int v5), (6, .int v6)]) hx hb dX9_next_56 hl (by decide) rfl (fun ls hl => ?_)
    refine lv_iload hx hb dX9_next_58 (lv_at hl 5 rfl) ?_
    refine lv_iload hx hb dX9_next_60 (lv_at hl 6 rfl) ?_
    refine hc_ki (wr := [ceX9 h0 s_in s_out s_length s_order, ceX3 hp1 s_p1_size s_p1_heard s_p1_mode s_p1_cast s_p1_figures s_p1_voices s_p1_attacks s_p1_supports]) (va_runS (As := [.int v5, .int v6]) (rest := []) ⟨hx, hb, hml, hown, hts⟩ (c_X0_contains l G H.size v5 v6 _ h) (va_cwS 2 hts gX9_next_X0_contains rfl rfl rfl (by decide +kernel) ⟨Nat.le_of_ble_eq_true rfl, Nat.le_of_ble_eq_true rfl⟩) (hc_pS hK hP hD [] rfl rfl) rfl rfl hl.1 rfl (lv_room (Nat.le_of_ble_eq_true rfl)) dX9_next_62 ⟨Nat.le_refl _, Nat.le_refl _⟩) hP hD hS hA [] [0, 1] rfl rfl rfl (by decide) (fun r62 u H locs h hP hD hS => ?_)
    try dsimp only at h
    have hP : va_P G.1 vwCl [ceX9 h0 s_in s_out s_length s_order, ceX3 hp1 s_p1_size s_p1_heard s_p1_mode s_p1_cast s_p1_figures s_p1_voices s_p1_attacks s_p1_supports] H := hP
    have hD : va_D A [ceX9 h0 s_in s_out s_length s_order, ceX3 hp1 s_p1_size s_p1_heard s_p1_mode s_p1_cast s_p1_figures s_p1_voices s_p1_attacks s_p1_supports] := hD
    refine lv_if_eq (tgt := 97) hx hb dX9_next_65 (by decide) (fun c => ?_) (fun c => ?_)
    · replace h := h.1 c
      refine lv_iinc (v := v6 + nI 1) (lv' := [(6, .int (v6 + nI 1)), (7, .int t0), (0, .ref h0), (1, .ref hp1), (2, .long x2), (4, .int v4), (5, .int v5)]) hx hb dX9_next_97 hl (k := 6) rfl (congrArg (fun q => v6 + q) kc_1) (by decide) rfl (fun ls hl => ?_)
      refine lv_goto (tgt := 26) hx hb dX9_next_100 (by decide) ?_
      exact hK26 v4 v5 (v6 + nI 1) h _ _ _ hP hD hS (lv_sub hl [2, 3, 4, 5, 6, 0] rfl)
    · replace h := h.2 c
      refine lv_iload hx hb dX9_next_68 (lv_at hl 0 rfl) ?_
      refine lv_if_eq (tgt := 97) hx hb dX9_next_70 (by decide) (fun c => ?_) (fun c => ?_)
      · replace h := h.1 c
        refine lv_iinc (v := v6 + nI 1) (lv' := [(6, .int (v6 + nI 1)), (7, .int t0), (0, .ref h0), (1, .ref hp1), (2, .long x2), (4, .int v4), (5, .int v5)]) hx hb dX9_next_97 hl (k := 6) rfl (congrArg (fun q => v6 + q) kc_1) (by decide) rfl (fun ls hl => ?_)
        refine lv_goto (tgt := 26) hx hb dX9_next_100 (by decide) ?_
        exact hK26 v4 v5 (v6 + nI 1) h _ _ _ hP hD hS (lv_sub hl [2, 3, 4, 5, 6, 0] rfl)
      · replace h := h.2 c
        refine lv_iload hx hb dX9_next_73 (lv_at hl 4 rfl) ?_
        refine lv_if_lt (tgt := 93) hx hb dX9_next_75 (by decide) (fun c => ?_) (fun c => ?_)
        · replace h := h.1 c
          refine lv_iload hx hb dX9_next_93 (lv_at hl 6 rfl) ?_
          refine lv_istore (lv' := [(4, .int v6), (7, .int t0), (0, .ref h0), (1, .ref hp1), (2, .long x2), (5, .int v5), (6, .int v6)]) hx hb dX9_next_95 hl (by decide) rfl (fun ls hl => ?_)
          refine lv_iinc (v := v6 + nI 1) (lv' := [(6, .int (v6 + nI 1)), (4, .int v6), (7, .int t0), (0, .ref h0), (1, .ref hp1), (2, .long x2), (5, .int v5)]) hx hb dX9_next_97 hl (k := 6) rfl (congrArg (fun q => v6 + q) kc_1) (by decide) rfl (fun ls hl => ?_)
          refine lv_goto (tgt := 26) hx hb dX9_next_100 (by decide) ?_
          exact hK26 v6 v5 (v6 + nI 1) h _ _ _ hP hD hS (lv_sub hl [3, 4, 5, 1, 6, 0] rfl)
        · replace h := h.2 c
          refine lv_aload_n hx hb dX9_next_78 rfl (lv_at hl 2 rfl) ?_
          refine lv_iload hx hb dX9_next_79 (lv_at hl 6 rfl) ?_
          refine hc_ki (wr := [ceX9 h0 s_in s_out s_length s_order]) (va_runV (As := [.int v6]) (rest := []) ⟨hx, hb, hml, hown, hts⟩ (c_X3_figureOf l G hp1 H.size s_p1_size s_p1_heard s_p1_mode s_p1_cast s_p1_figures s_p1_voices s_p1_attacks s_p1_supports v6 _ h) (cwV 1 hts gX9_next_X3_figureOf rfl rfl rfl (by decide +kernel) ⟨Nat.le_of_ble_eq_true rfl, Nat.le_of_ble_eq_true rfl⟩) (hc_pV hK hP hD [1] rfl rfl (ci := 2) 1 rfl rfl) rfl rfl hl.1 rfl (lv_room (Nat.le_of_ble_eq_true rfl)) dX9_next_81 ⟨Nat.le_refl _, Nat.le_refl _⟩) hP hD hS hA [1] [0] rfl rfl rfl (by decide) (fun r81 u H locs h hP hD hS => ?_)
          try dsimp only at h
          have hP : va_P G.1 vwCl [ceX9 h0 s_in s_out s_length s_order, ceX3 hp1 s_p1_size s_p1_heard s_p1_mode s_p1_cast s_p1_figures s_p1_voices s_p1_attacks s_p1_supports] H := hP
          have hD : va_D A [ceX9 h0 s_in s_out s_length s_order, ceX3 hp1 s_p1_size s_p1_heard s_p1_mode s_p1_cast s_p1_figures s_p1_voices s_p1_attacks s_p1_supports] := hD
          refine lv_aload_n hx hb dX9_next_84 rfl (lv_at hl 2 rfl) ?_
          refine lv_iload hx hb dX9_next_85 (lv_at hl 4 rfl) ?_
          refine hc_ki (wr := [ceX9 h0 s_in s_out s_length s_order]) (va_runV (As := [.int v4]) (rest := [.int r81]) ⟨hx, hb, hml, hown, hts⟩ (c_X3_figureOf l G hp1 H.size s_p1_size s_p1_heard s_p1_mode s_p1_cast s_p1_figures s_p1_voices s_p1_attacks s_p1_supports v4 _ h) (cwV 1 hts gX9_next_X3_figureOf rfl rfl rfl (by decide +kernel) ⟨Nat.le_of_ble_eq_true rfl, Nat.le_of_ble_eq_true rfl⟩) (hc_pV hK hP hD [1] rfl rfl (ci := 2) 1 rfl rfl) rfl rfl hl.1 rfl (lv_room (Nat.le_of_ble_eq_true rfl)) dX9_next_87 ⟨Nat.le_refl _, Nat.le_refl _⟩) hP hD hS hA [1] [0] rfl rfl rfl (by decide) (fun r87 u H locs h hP hD hS => ?_)
          try dsimp only at h
          have hP : va_P G.1 vwCl [ceX9 h0 s_in s_out s_length s_order, ceX3 hp1 s_p1_size s_p1_heard s_p1_mode s_p1_cast s_p1_figures s_p1_voices s_p1_attacks s_p1_supports] H := hP
          have hD : va_D A [ceX9 h0 s_in s_out s_length s_order, ceX3 hp1 s_p1_size s_p1_heard s_p1_mode s_p1_cast s_p1_figures s_p1_voices s_p1_attacks s_p1_supports] := hD
          refine lv_icmp_le (tgt := 97) hx hb dX9_next_90 (by decide) (fun c => ?_) (fun c => ?_)
          · replace h := h.1 c
            refine lv_iinc (v := v6 + nI 1) (lv' := [(6, .int (v6 + nI 1)), (7, .int t0), (0, .ref h0), (1, .ref hp1), (2, .long x2), (4, .int v4), (5, .int v5)]) hx hb dX9_next_97 hl (k := 6) rfl (congrArg (fun q => v6 + q) kc_1) (by decide) rfl (fun ls hl => ?_)
            refine lv_goto (tgt := 26) hx hb dX9_next_100 (by decide) ?_
            exact hK26 v4 v5 (v6 + nI 1) h _ _ _ hP hD hS (lv_sub hl [2, 3, 4, 5, 6, 0] rfl)
          · replace h := h.2 c
            refine lv_iload hx hb dX9_next_93 (lv_at hl 6 rfl) ?_
            refine lv_istore (lv' := [(4, .int v6), (7, .int t0), (0, .ref h0), (1, .ref hp1), (2, .long x2), (5, .int v5), (6, .int v6)]) hx hb dX9_next_95 hl (by decide) rfl (fun ls hl => ?_)
            refine lv_iinc (v := v6 + nI 1) (lv' := [(6, .int (v6 + nI 1)), (4, .int v6), (7, .int t0), (0, .ref h0), (1, .ref hp1), (2, .long x2), (5, .int v5)]) hx hb dX9_next_97 hl (k := 6) rfl (congrArg (fun q => v6 + q) kc_1) (by decide) rfl (fun ls hl => ?_)
            refine lv_goto (tgt := 26) hx hb dX9_next_100 (by decide) ?_
            exact hK26 v6 v5 (v6 + nI 1) h _ _ _ hP hD hS (lv_sub hl [3, 4, 5, 1, 6, 0] rfl)
  have w26 : ∀ (n : Nat) (v4 : Int32) (v5 : Int32) (v6 : Int32) , wp_X9_next_26 post s_in s_out s_p1_size s_p1_heard s_p1_figures x2 n v4 v5 v6 → ∀ (H : Heap) (locs : List Loc) (ls : Array Slot), va_P G.1 vwCl [ceX9 h0 s_in s_out s_length s_order, ceX3 hp1 s_p1_size s_p1_heard s_p1_mode s_p1_cast s_p1_figures s_p1_voices s_p1_attacks s_p1_supports] H → va_D A [ceX9 h0 s_in s_out s_length s_order, ceX3 hp1 s_p1_size s_p1_heard s_p1_mode s_p1_cast s_p1_figures s_p1_voices s_p1_attacks s_p1_supports] → va_S A s.heap H locs → lv_has ls 8 [(0, .ref h0), (1, .ref hp1), (2, .long x2), (4, .int v4), (5, .int v5), (6, .int v6)] → W p l e (headSpec wsX9_next ({ frames := 2, cells := 0, slots := 0, locals := 43 })).room s m ([.ref h0, .ref hp1, .long x2] : List Value).toArray below meth c H locs 0 0 (MQ below (va_Qi (fun (r : Int32) (u : Unit) => post r) (hcB G A (fun u : Unit => [ceX9 h0 s_in s_out s_length s_order, ceX3 hp1 s_p1_size s_p1_heard s_p1_mode s_p1_cast s_p1_figures s_p1_voices s_p1_attacks s_p1_supports])) A) ([.ref h0, .ref hp1, .long x2] : List Value).toArray s 0 0 A) (F0 m 26 ls []) := by
    intro n
    induction n with
    | zero => intro v4 v5 v6 h; exact h.elim
    | succ n ih =>
      intro v4 v5 v6 h H locs ls hP hD hS hl
      unfold wp_X9_next_26 at h
      refine lv_iload hx hb dX9_next_26 (lv_at hl 5 rfl) ?_
      refine lv_aload_n hx hb dX9_next_28 rfl (lv_at hl 1 rfl) ?_
      refine va_get (D := G.1) (ci := 2) (v := .int s_p1_size) (C := RX3) (T := TX3) (N := 8) hx hb hts ki_X3 hown hK.1 hP 1 rfl rfl 0 (by decide) kf3 (fun _ h9 => h9) rfl dX9_next_29 ?_
      refine lv_icmp_ge (tgt := 103) hx hb dX9_next_32 (by decide) (fun c => ?_) (fun c => ?_)
      · replace h := h.1 c
        refine lv_iload hx hb dX9_next_103 (lv_at hl 3 rfl) ?_
        exact W.iret (v := v4) hx hb hr (fun t ht hW => ⟨⟨_, (), rfl, h, ⟨by rw [ht]; exact hP, hD⟩⟩, hS.F ht⟩) hS.2.2 dX9_next_105
      · replace h := h.2 c
        refine lv_lload_n hx hb dX9_next_35 rfl (lv_at hl 2 rfl) ?_
        refine lv_iload hx hb dX9_next_36 (lv_at hl 5 rfl) ?_
        refine hc_ki (wr := [ceX9 h0 s_in s_out s_length s_order, ceX3 hp1 s_p1_size s_p1_heard s_p1_mode s_p1_cast s_p1_figures s_p1_voices s_p1_attacks s_p1_supports]) (va_runS (As := [.long x2, .int v6]) (rest := []) ⟨hx, hb, hml, hown, hts⟩ (c_X0_get l G H.size x2 v6 _ h) (va_cwS 2 hts gX9_next_X0_get rfl rfl rfl (by decide +kernel) ⟨Nat.le_of_ble_eq_true rfl, Nat.le_of_ble_eq_true rfl⟩) (hc_pS hK hP hD [] rfl rfl) rfl rfl hl.1 rfl (lv_room (Nat.le_of_ble_eq_true rfl)) dX9_next_38 ⟨Nat.le_refl _, Nat.le_refl _⟩) hP hD hS hA [] [0, 1] rfl rfl rfl (by decide) (fun r38 u H locs h hP hD hS => ?_)
        try dsimp only at h
        have hP : va_P G.1 vwCl [ceX9 h0 s_in s_out s_length s_order, ceX3 hp1 s_p1_size s_p1_heard s_p1_mode s_p1_cast s_p1_figures s_p1_voices s_p1_attacks s_p1_supports] H := hP
        have hD : va_D A [ceX9 h0 s_in s_out s_length s_order, ceX3 hp1 s_p1_size s_p1_heard s_p1_mode s_p1_cast s_p1_figures s_p1_voices s_p1_attacks s_p1_supports] := hD
        refine lv_aload_n hx hb dX9_next_41 rfl (lv_at hl 0 rfl) ?_
        refine va_get (D := G.1) (ci := 7) (v := .int s_out) (C := RX9) (T := TX9) (N := 4) hx hb hts ki_X9 hown hK.1 hP 0 rfl rfl 1 (by decide) kf2 (fun _ h9 => h9) rfl dX9_next_42 ?_
        refine lv_iconst (v := (-1 : Int32)) hx hb dX9_next_45 kc_m1 ?_
        refine lv_ixor hx hb dX9_next_46 ?_
        refine lv_iand hx hb dX9_next_47 ?_
        refine lv_if_ne (tgt := 55) hx hb dX9_next_48 (by decide) (fun c => ?_) (fun c => ?_)
        · replace h := h.1 c
          refine lv_iconst (v := nI 0) hx hb dX9_next_55 kc_0 ?_
          exact w56 ((wp_X9_next_26 post s_in s_out s_p1_size s_p1_heard s_p1_figures x2 n)) ih v4 v5 v6 (nI 0) h _ _ _ hP hD hS (lv_sub hl [0, 1, 2, 3, 4, 5] rfl)
        · replace h := h.2 c
          refine lv_iconst (v := nI 1) hx hb dX9_next_51 kc_1 ?_
          refine lv_goto (tgt := 56) hx hb dX9_next_52 (by decide) ?_
          exact w56 ((wp_X9_next_26 post s_in s_out s_p1_size s_p1_heard s_p1_figures x2 n)) ih v4 v5 v6 (nI 1) h _ _ _ hP hD hS (lv_sub hl [0, 1, 2, 3, 4, 5] rfl)
  unfold wp_X9_next at h
  refine lv_iconst (v := (-1 : Int32)) hx hb dX9_next_0 kc_m1 ?_
  refine lv_istore (lv' := [(4, .int ((-1 : Int32))), (0, .ref h0), (1, .ref hp1), (2, .long x2)]) hx hb dX9_next_1 hl (by decide) rfl (fun ls hl => ?_)
  refine lv_aload_n hx hb dX9_next_3 rfl (lv_at hl 2 rfl) ?_
  refine va_get (D := G.1) (ci := 2) (v := .int s_p1_heard) (C := RX3) (T := TX3) (N := 8) hx hb hts ki_X3 hown hK.1 hP 1 rfl rfl 1 (by decide) kf0 (fun _ h9 => h9) rfl dX9_next_4 ?_
  refine lv_aload_n hx hb dX9_next_7 rfl (lv_at hl 1 rfl) ?_
  refine va_get (D := G.1) (ci := 7) (v := .int s_in) (C := RX9) (T := TX9) (N := 4) hx hb hts ki_X9 hown hK.1 hP 0 rfl rfl 0 (by decide) kf1 (fun _ h9 => h9) rfl dX9_next_8 ?_
  refine lv_iconst (v := (-1 : Int32)) hx hb dX9_next_11 kc_m1 ?_
  refine lv_ixor hx hb dX9_next_12 ?_
  refine lv_iand hx hb dX9_next_13 ?_
  refine lv_aload_n hx hb dX9_next_14 rfl (lv_at hl 1 rfl) ?_
  refine va_get (D := G.1) (ci := 7) (v := .int s_out) (C := RX9) (T := TX9) (N := 4) hx hb hts ki_X9 hown hK.1 hP 0 rfl rfl 1 (by decide) kf2 (fun _ h9 => h9) rfl dX9_next_15 ?_
  refine lv_iconst (v := (-1 : Int32)) hx hb dX9_next_18 kc_m1 ?_
  refine lv_ixor hx hb dX9_next_19 ?_
  refine lv_iand hx hb dX9_next_20 ?_
  refine lv_topi (fun y21 ey21 => ?_)
  replace h := h _ ey21
  refine lv_istore (lv' := [(5, .int y21), (4, .int ((-1 : Int32))), (0, .ref h0), (1, .ref hp1), (2, .long x2)]) hx hb dX9_next_21 hl (by decide) rfl (fun ls hl => ?_)
  refine lv_iconst (v := nI 0) hx hb dX9_next_23 kc_0 ?_
  refine lv_istore (lv' := [(6, .int (nI 0)), (5, .int y21), (4, .int ((-1 : Int32))), (0, .ref h0), (1, .ref hp1), (2, .long x2)]) hx hb dX9_next_24 hl (by decide) rfl (fun ls hl => ?_)
  obtain ⟨n26, h⟩ := h
  exact w26  n26 ((-1 : Int32)) y21 (nI 0) h _ _ _ hP hD hS (lv_sub hl [3, 4, 5, 2, 1, 0] rfl)
set_option maxHeartbeats 4000000 in
set_option maxRecDepth 100000 in
theorem c_X9_run (l : Launch) (G : hcG) (h0 : Nat) (hp1 : Nat) (hp2 : Nat) (sz : Nat) (s_in : Int32) (s_out : Int32) (s_length : Int32) (s_order : Int64) (s_p1_size : Int32) (s_p1_heard : Int32) (s_p1_mode : Int32) (s_p1_cast : Int64) (s_p1_figures : Int64) (s_p1_voices : Int64) (s_p1_attacks : Int64) (s_p1_supports : Int64) (s_p2_hits : Int64) (s_p2_leads : Int64) (s_p2_defeats : Int64) (s_p2_defeaters : Int64) (post : Int32 → Int32 → Int32 → Int64 → Prop) (h : wp_X9_run post s_in s_out s_length s_order s_p1_size s_p1_heard s_p1_figures s_p2_defeats s_p2_defeaters) : Met l yX9_run wsX9_run ({ frames := 3, cells := 0, slots := 0, locals := 70 }) (hcPc G [.ref h0, .ref hp1, .ref hp2] [ceX9 h0 s_in s_out s_length s_order, ceX3 hp1 s_p1_size s_p1_heard s_p1_mode s_p1_cast s_p1_figures s_p1_voices s_p1_attacks s_p1_supports, ceX1 hp2 s_p2_hits s_p2_leads s_p2_defeats s_p2_defeaters] sz) (va_Qv (fun u : Int32 × Int32 × Int32 × Int64 => post u.1 u.2.1 u.2.2.1 u.2.2.2) (hcB G (va_A [ceX9 h0 s_in s_out s_length s_order, ceX3 hp1 s_p1_size s_p1_heard s_p1_mode s_p1_cast s_p1_figures s_p1_voices s_p1_attacks s_p1_supports, ceX1 hp2 s_p2_hits s_p2_leads s_p2_defeats s_p2_defeaters] sz) (fun u : Int32 × Int32 × Int32 × Int64 => [ceX9 h0 u.1 u.2.1 u.2.2.1 u.2.2.2, ceX3 hp1 s_p1_size s_p1_heard s_p1_mode s_p1_cast s_p1_figures s_p1_voices s_p1_attacks s_p1_supports, ceX1 hp2 s_p2_hits s_p2_leads s_p2_defeats s_p2_defeaters])) (va_A [ceX9 h0 s_in s_out s_length s_order, ceX3 hp1 s_p1_size s_p1_heard s_p1_mode s_p1_cast s_p1_figures s_p1_voices s_p1_attacks s_p1_supports, ceX1 hp2 s_p2_hits s_p2_leads s_p2_defeats s_p2_defeaters] sz)) 0 0 (va_A [ceX9 h0 s_in s_out s_length s_order, ceX3 hp1 s_p1_size s_p1_heard s_p1_mode s_p1_cast s_p1_figures s_p1_voices s_p1_attacks s_p1_supports, ceX1 hp2 s_p2_hits s_p2_leads s_p2_defeats s_p2_defeaters] sz) := by
  refine Met.ofW (cc := cX9_run) (maxL := 5) (ret := none) (by decide) rfl ?_
  intro p e s m args below meth c s₁ B hml hv
  obtain ⟨rfl, hsz, hP, hK, hD0⟩ := hv
  have hx := B.exec
  have hb := B.bytes
  have hr := B.returns
  have hts := atoms_spec (ws := wsX9_run) B.pre
  have hown : s.vm.findClass RX9 = some m.cls := findClass_of_methodNamed B.named
  have hlocks := B.notSynchronized
  subst hsz
  have hD := hD0.self (sz := s.heap.size)
  generalize hAe : va_A [ceX9 h0 s_in s_out s_length s_order, ceX3 hp1 s_p1_size s_p1_heard s_p1_mode s_p1_cast s_p1_figures s_p1_voices s_p1_attacks s_p1_supports, ceX1 hp2 s_p2_hits s_p2_leads s_p2_defeats s_p2_defeaters] s.heap.size = A at hD ⊢
  have hA : ∀ q : Nat, s.heap.size ≤ q → A q := fun q h => by rw [← hAe]; exact Or.inr h
  have hS : va_S A s.heap s.heap [] := va_S.rf
  have hP : va_P G.1 vwCl [ceX9 h0 s_in s_out s_length s_order, ceX3 hp1 s_p1_size s_p1_heard s_p1_mode s_p1_cast s_p1_figures s_p1_voices s_p1_attacks s_p1_supports, ceX1 hp2 s_p2_hits s_p2_leads s_p2_defeats s_p2_defeaters] s.heap := hP
  have hl := lv_entry ([.ref h0, .ref hp1, .ref hp2]) (n := 5) (Nat.le_of_ble_eq_true rfl)
  rw [lg_entry_eq]
  generalize (lg_sl ([.ref h0, .ref hp1, .ref hp2]) ++ List.replicate (5 - (lg_sl ([.ref h0, .ref hp1, .ref hp2])).length) Slot.unset).toArray = ls at hl ⊢
  have hl : lv_has ls 5 [(0, .ref h0), (1, .ref hp1), (2, .ref hp2)] := hl
  have kf0 := hts (.fieldLink RX9 9 "HallOfClaims$Turns" "in" "I") (List.mem_of_getElem? (i := 1) (by decide +kernel))
  have kf1 := hts (.fieldLink RX9 15 "HallOfClaims$Turns" "out" "I") (List.mem_of_getElem? (i := 2) (by decide +kernel))
  have kf2 := hts (.fieldLink RX9 18 "HallOfClaims$Turns" "length" "I") (List.mem_of_getElem? (i := 3) (by decide +kernel))
  have kf3 := hts (.fieldLink RX9 21 "HallOfClaims$Turns" "order" "J") (List.mem_of_getElem? (i := 4) (by decide +kernel))
  have kf4 := hts (.fieldLink RX9 25 "HallOfClaims$Hall" "size" "I") (List.mem_of_getElem? (i := 5) (by decide +kernel))
  have kf5 := hts (.fieldLink RX9 30 "HallOfClaims$Defeats" "defeaters" "J") (List.mem_of_getElem? (i := 6) (by decide +kernel))
  have kf6 := hts (.fieldLink RX9 39 "HallOfClaims$Defeats" "defeats" "J") (List.mem_of_getElem? (i := 7) (by decide +kernel))
  have ki_X9 : ∀ w ∈ u_ws RX9 TX9 4, w ∈ wsX9_run := by decide +kernel
  have ki_X3 : ∀ w ∈ u_ws RX3 TX3 8, w ∈ wsX9_run := by decide +kernel
  have ki_X1 : ∀ w ∈ u_ws RX1 TX1 4, w ∈ wsX9_run := by decide +kernel
  have w22 : ∀ (n : Nat) (v3 : Int32) (s_in : Int32) (s_out : Int32) (s_length : Int32) (s_order : Int64) , wp_X9_run_22 post s_p1_size s_p1_heard s_p1_figures s_p2_defeats s_p2_defeaters n v3 s_in s_out s_length s_order → ∀ (H : Heap) (locs : List Loc) (ls : Array Slot), va_P G.1 vwCl [ceX9 h0 s_in s_out s_length s_order, ceX3 hp1 s_p1_size s_p1_heard s_p1_mode s_p1_cast s_p1_figures s_p1_voices s_p1_attacks s_p1_supports, ceX1 hp2 s_p2_hits s_p2_leads s_p2_defeats s_p2_defeaters] H → va_D A [ceX9 h0 s_in s_out s_length s_order, ceX3 hp1 s_p1_size s_p1_heard s_p1_mode s_p1_cast s_p1_figures s_p1_voices s_p1_attacks s_p1_supports, ceX1 hp2 s_p2_hits s_p2_leads s_p2_defeats s_p2_defeaters] → va_S A s.heap H locs → lv_has ls 5 [(0, .ref h0), (1, .ref hp1), (2, .ref hp2), (3, .int v3)] → W p l e (headSpec wsX9_run ({ frames := 3, cells := 0, slots := 0, locals := 70 })).room s m ([.ref h0, .ref hp1, .ref hp2] : List Value).toArray below meth c H locs 0 0 (MQ below (va_Qv (fun u : Int32 × Int32 × Int32 × Int64 => post u.1 u.2.1 u.2.2.1 u.2.2.2) (hcB G A (fun u : Int32 × Int32 × Int32 × Int64 => [ceX9 h0 u.1 u.2.1 u.2.2.1 u.2.2.2, ceX3 hp1 s_p1_size s_p1_heard s_p1_mode s_p1_cast s_p1_figures s_p1_voices s_p1_attacks s_p1_supports, ceX1 hp2 s_p2_hits s_p2_leads s_p2_defeats s_p2_defeaters])) A) ([.ref h0, .ref hp1, .ref hp2] : List Value).toArray s 0 0 A) (F0 m 22 ls []) := by
    intro n
    induction n with
    | zero => intro v3 s_in s_out s_length s_order h; exact h.elim
    | succ n ih =>
      intro v3 s_in s_out s_length s_order h H locs ls hP hD hS hl
      unfold wp_X9_run_22 at h
      refine lv_iload_n hx hb dX9_run_22 rfl (lv_at hl 3 rfl) ?_
      refine lv_aload_n hx hb dX9_run_23 rfl (lv_at hl 1 rfl) ?_
      refine va_get (D := G.1) (ci := 2) (v := .int s_p1_size) (C := RX3) (T := TX3) (N := 8) hx hb hts ki_X3 hown hK.1 hP 1 rfl rfl 0 (by decide) kf4 (fun _ h9 => h9) rfl dX9_run_24 ?_
      refine lv_icmp_ge (tgt := 113) hx hb dX9_run_27 (by decide) (fun c => ?_) (fun c => ?_)
      · replace h := h.1 c
        exact W.vret hx hb hr (fun t ht hW => ⟨⟨⟨s_in, s_out, s_length, s_order⟩, rfl, h, ⟨by rw [ht]; exact hP, hD⟩⟩, hS.F ht⟩) hS.2.2 dX9_run_113
      · replace h := h.2 c
        refine lv_aload_n hx hb dX9_run_30 rfl (lv_at hl 0 rfl) ?_
        refine lv_aload_n hx hb dX9_run_31 rfl (lv_at hl 1 rfl) ?_
        refine lv_aload_n hx hb dX9_run_32 rfl (lv_at hl 2 rfl) ?_
        refine va_get (D := G.1) (ci := 0) (v := .long s_p2_defeaters) (C := RX1) (T := TX1) (N := 4) hx hb hts ki_X1 hown hK.1 hP 2 rfl rfl 3 (by decide) kf5 (fun _ h9 => h9) rfl dX9_run_33 ?_
        refine hc_ki (wr := [ceX1 hp2 s_p2_hits s_p2_leads s_p2_defeats s_p2_defeaters]) (va_runV (As := [.ref hp1, .long s_p2_defeaters]) (rest := []) ⟨hx, hb, hml, hown, hts⟩ (c_X9_next l G h0 hp1 H.size s_in s_out s_length s_order s_p1_size s_p1_heard s_p1_mode s_p1_cast s_p1_figures s_p1_voices s_p1_attacks s_p1_supports s_p2_defeaters _ h) (cwV 2 hts gX9_run_X9_next rfl rfl rfl (by decide +kernel) ⟨Nat.le_of_ble_eq_true rfl, Nat.le_of_ble_eq_true rfl⟩) (hc_pV hK hP hD [0, 1] rfl rfl (ci := 7) 0 rfl rfl) rfl rfl hl.1 rfl (lv_room (Nat.le_of_ble_eq_true rfl)) dX9_run_36 ⟨Nat.le_refl _, Nat.le_refl _⟩) hP hD hS hA [0, 1] [2] rfl rfl rfl (by decide) (fun r36 u H locs h hP hD hS => ?_)
        try dsimp only at h
        have hP : va_P G.1 vwCl [ceX1 hp2 s_p2_hits s_p2_leads s_p2_defeats s_p2_defeaters, ceX9 h0 s_in s_out s_length s_order, ceX3 hp1 s_p1_size s_p1_heard s_p1_mode s_p1_cast s_p1_figures s_p1_voices s_p1_attacks s_p1_supports] H := hP
        have hD : va_D A [ceX1 hp2 s_p2_hits s_p2_leads s_p2_defeats s_p2_defeaters, ceX9 h0 s_in s_out s_length s_order, ceX3 hp1 s_p1_size s_p1_heard s_p1_mode s_p1_cast s_p1_figures s_p1_voices s_p1_attacks s_p1_supports] := hD
        refine lv_istore (lv' := [(4, .int r36), (0, .ref h0), (1, .ref hp1), (2, .ref hp2), (3, .int v3)]) hx hb dX9_run_39 hl (by decide) rfl (fun ls hl => ?_)
        refine lv_iload hx hb dX9_run_41 (lv_at hl 0 rfl) ?_
        refine lv_if_ge (tgt := 49) hx hb dX9_run_43 (by decide) (fun c => ?_) (fun c => ?_)
        · replace h := h.1 c
          refine lv_aload_n hx hb dX9_run_49 rfl (lv_at hl 1 rfl) ?_
          refine lv_dup hx hb dX9_run_50 rfl ?_
          refine va_get (D := G.1) (ci := 7) (v := .int s_in) (C := RX9) (T := TX9) (N := 4) hx hb hts ki_X9 hown hK.1 hP 1 rfl rfl 0 (by decide) kf0 (fun _ h9 => h9) rfl dX9_run_51 ?_
          refine lv_iconst (v := nI 1) hx hb dX9_run_54 kc_1 ?_
          refine lv_iload hx hb dX9_run_55 (lv_at hl 0 rfl) ?_
          refine lv_ishl hx hb dX9_run_57 ?_
          refine lv_ior hx hb dX9_run_58 ?_
          refine va_put (D := G.1) (ci := 7) (v := .int (s_in ||| ((nI 1) <<< (r36 &&& 31)))) (ty := .int) (C := RX9) (T := TX9) (N := 4) hx hb hts ki_X9 tyX9 tyX9_ok nmX9 hown hK.1 hP hD hS 1 rfl rfl 0 (by decide) kf0 (fun _ h9 => h9) rfl (by decide +kernel) rfl rfl (Nat.le_of_ble_eq_true rfl) dX9_run_59 (fun H locs hP hD hS => ?_)
          have hP : va_P G.1 vwCl [ceX1 hp2 s_p2_hits s_p2_leads s_p2_defeats s_p2_defeaters, ceX9 h0 (s_in ||| ((nI 1) <<< (r36 &&& 31))) s_out s_length s_order, ceX3 hp1 s_p1_size s_p1_heard s_p1_mode s_p1_cast s_p1_figures s_p1_voices s_p1_attacks s_p1_supports] H := hP
          have hD : va_D A [ceX1 hp2 s_p2_hits s_p2_leads s_p2_defeats s_p2_defeaters, ceX9 h0 (s_in ||| ((nI 1) <<< (r36 &&& 31))) s_out s_length s_order, ceX3 hp1 s_p1_size s_p1_heard s_p1_mode s_p1_cast s_p1_figures s_p1_voices s_p1_attacks s_p1_supports] := hD
          refine lv_aload_n hx hb dX9_run_62 rfl (lv_at hl 1 rfl) ?_
          refine lv_dup hx hb dX9_run_63 rfl ?_
          refine va_get (D := G.1) (ci := 7) (v := .int s_out) (C := RX9) (T := TX9) (N := 4) hx hb hts ki_X9 hown hK.1 hP 1 rfl rfl 1 (by decide) kf1 (fun _ h9 => h9) rfl dX9_run_64 ?_
          refine lv_aload_n hx hb dX9_run_67 rfl (lv_at hl 3 rfl) ?_
          refine va_get (D := G.1) (ci := 0) (v := .long s_p2_defeats) (C := RX1) (T := TX1) (N := 4) hx hb hts ki_X1 hown hK.1 hP 0 rfl rfl 2 (by decide) kf6 (fun _ h9 => h9) rfl dX9_run_68 ?_
          refine lv_iload hx hb dX9_run_71 (lv_at hl 0 rfl) ?_
          refine hc_ki (wr := [ceX1 hp2 s_p2_hits s_p2_leads s_p2_defeats s_p2_defeaters, ceX9 h0 (s_in ||| ((nI 1) <<< (r36 &&& 31))) s_out s_length s_order, ceX3 hp1 s_p1_size s_p1_heard s_p1_mode s_p1_cast s_p1_figures s_p1_voices s_p1_attacks s_p1_supports]) (va_runS (As := [.long s_p2_defeats, .int r36]) (rest := [.int s_out, .ref h0]) ⟨hx, hb, hml, hown, hts⟩ (c_X0_get l G H.size s_p2_defeats r36 _ h) (va_cwS 2 hts gX9_run_X0_get rfl rfl rfl (by decide +kernel) ⟨Nat.le_of_ble_eq_true rfl, Nat.le_of_ble_eq_true rfl⟩) (hc_pS hK hP hD [] rfl rfl) rfl rfl hl.1 rfl (lv_room (Nat.le_of_ble_eq_true rfl)) dX9_run_73 ⟨Nat.le_refl _, Nat.le_refl _⟩) hP hD hS hA [] [0, 1, 2] rfl rfl rfl (by decide) (fun r73 u H locs h hP hD hS => ?_)
          try dsimp only at h
          have hP : va_P G.1 vwCl [ceX1 hp2 s_p2_hits s_p2_leads s_p2_defeats s_p2_defeaters, ceX9 h0 (s_in ||| ((nI 1) <<< (r36 &&& 31))) s_out s_length s_order, ceX3 hp1 s_p1_size s_p1_heard s_p1_mode s_p1_cast s_p1_figures s_p1_voices s_p1_attacks s_p1_supports] H := hP
          have hD : va_D A [ceX1 hp2 s_p2_hits s_p2_leads s_p2_defeats s_p2_defeaters, ceX9 h0 (s_in ||| ((nI 1) <<< (r36 &&& 31))) s_out s_length s_order, ceX3 hp1 s_p1_size s_p1_heard s_p1_mode s_p1_cast s_p1_figures s_p1_voices s_p1_attacks s_p1_supports] := hD
          refine lv_ior hx hb dX9_run_76 ?_
          refine va_put (D := G.1) (ci := 7) (v := .int (s_out ||| r73)) (ty := .int) (C := RX9) (T := TX9) (N := 4) hx hb hts ki_X9 tyX9 tyX9_ok nmX9 hown hK.1 hP hD hS 1 rfl rfl 1 (by decide) kf1 (fun _ h9 => h9) rfl (by decide +kernel) rfl rfl (Nat.le_of_ble_eq_true rfl) dX9_run_77 (fun H locs hP hD hS => ?_)
          have hP : va_P G.1 vwCl [ceX1 hp2 s_p2_hits s_p2_leads s_p2_defeats s_p2_defeaters, ceX9 h0 (s_in ||| ((nI 1) <<< (r36 &&& 31))) (s_out ||| r73) s_length s_order, ceX3 hp1 s_p1_size s_p1_heard s_p1_mode s_p1_cast s_p1_figures s_p1_voices s_p1_attacks s_p1_supports] H := hP
          have hD : va_D A [ceX1 hp2 s_p2_hits s_p2_leads s_p2_defeats s_p2_defeaters, ceX9 h0 (s_in ||| ((nI 1) <<< (r36 &&& 31))) (s_out ||| r73) s_length s_order, ceX3 hp1 s_p1_size s_p1_heard s_p1_mode s_p1_cast s_p1_figures s_p1_voices s_p1_attacks s_p1_supports] := hD
          refine lv_aload_n hx hb dX9_run_80 rfl (lv_at hl 1 rfl) ?_
          refine lv_aload_n hx hb dX9_run_81 rfl (lv_at hl 1 rfl) ?_
          refine va_get (D := G.1) (ci := 7) (v := .long s_order) (C := RX9) (T := TX9) (N := 4) hx hb hts ki_X9 hown hK.1 hP 1 rfl rfl 3 (by decide) kf3 (fun _ h9 => h9) rfl dX9_run_82 ?_
          refine lv_aload_n hx hb dX9_run_85 rfl (lv_at hl 1 rfl) ?_
          refine va_get (D := G.1) (ci := 7) (v := .int s_length) (C := RX9) (T := TX9) (N := 4) hx hb hts ki_X9 hown hK.1 hP 1 rfl rfl 2 (by decide) kf2 (fun _ h9 => h9) rfl dX9_run_86 ?_
          refine lv_iload hx hb dX9_run_89 (lv_at hl 0 rfl) ?_
          refine hc_kl (wr := [ceX1 hp2 s_p2_hits s_p2_leads s_p2_defeats s_p2_defeaters, ceX9 h0 (s_in ||| ((nI 1) <<< (r36 &&& 31))) (s_out ||| r73) s_length s_order, ceX3 hp1 s_p1_size s_p1_heard s_p1_mode s_p1_cast s_p1_figures s_p1_voices s_p1_attacks s_p1_supports]) (va_runS (As := [.long s_order, .int s_length, .int r36]) (rest := [.ref h0]) ⟨hx, hb, hml, hown, hts⟩ (c_X0_with l G H.size s_order s_length r36 _ h) (va_cwS 3 hts gX9_run_X0_with rfl rfl rfl (by decide +kernel) ⟨Nat.le_of_ble_eq_true rfl, Nat.le_of_ble_eq_true rfl⟩) (hc_pS hK hP hD [] rfl rfl) rfl rfl hl.1 rfl (lv_room (Nat.le_of_ble_eq_true rfl)) dX9_run_91 ⟨Nat.le_refl _, Nat.le_refl _⟩) hP hD hS hA [] [0, 1, 2] rfl rfl rfl (by decide) (fun r91 u H locs h hP hD hS => ?_)
          try dsimp only at h
          have hP : va_P G.1 vwCl [ceX1 hp2 s_p2_hits s_p2_leads s_p2_defeats s_p2_defeaters, ceX9 h0 (s_in ||| ((nI 1) <<< (r36 &&& 31))) (s_out ||| r73) s_length s_order, ceX3 hp1 s_p1_size s_p1_heard s_p1_mode s_p1_cast s_p1_figures s_p1_voices s_p1_attacks s_p1_supports] H := hP
          have hD : va_D A [ceX1 hp2 s_p2_hits s_p2_leads s_p2_defeats s_p2_defeaters, ceX9 h0 (s_in ||| ((nI 1) <<< (r36 &&& 31))) (s_out ||| r73) s_length s_order, ceX3 hp1 s_p1_size s_p1_heard s_p1_mode s_p1_cast s_p1_figures s_p1_voices s_p1_attacks s_p1_supports] := hD
          refine va_put (D := G.1) (ci := 7) (v := .long r91) (ty := .long) (C := RX9) (T := TX9) (N := 4) hx hb hts ki_X9 tyX9 tyX9_ok nmX9 hown hK.1 hP hD hS 1 rfl rfl 3 (by decide) kf3 (fun _ h9 => h9) rfl (by decide +kernel) rfl rfl (Nat.le_of_ble_eq_true rfl) dX9_run_94 (fun H locs hP hD hS => ?_)
          have hP : va_P G.1 vwCl [ceX1 hp2 s_p2_hits s_p2_leads s_p2_defeats s_p2_defeaters, ceX9 h0 (s_in ||| ((nI 1) <<< (r36 &&& 31))) (s_out ||| r73) s_length r91, ceX3 hp1 s_p1_size s_p1_heard s_p1_mode s_p1_cast s_p1_figures s_p1_voices s_p1_attacks s_p1_supports] H := hP
          have hD : va_D A [ceX1 hp2 s_p2_hits s_p2_leads s_p2_defeats s_p2_defeaters, ceX9 h0 (s_in ||| ((nI 1) <<< (r36 &&& 31))) (s_out ||| r73) s_length r91, ceX3 hp1 s_p1_size s_p1_heard s_p1_mode s_p1_cast s_p1_figures s_p1_voices s_p1_attacks s_p1_supports] := hD
          refine lv_aload_n hx hb dX9_run_97 rfl (lv_at hl 1 rfl) ?_
          refine lv_dup hx hb dX9_run_98 rfl ?_
          refine va_get (D := G.1) (ci := 7) (v := .int s_length) (C := RX9) (T := TX9) (N := 4) hx hb hts ki_X9 hown hK.1 hP 1 rfl rfl 2 (by decide) kf2 (fun _ h9 => h9) rfl dX9_run_99 ?_
          refine lv_iconst (v := nI 1) hx hb dX9_run_102 kc_1 ?_
          refine lv_iadd hx hb dX9_run_103 ?_
          refine va_put (D := G.1) (ci := 7) (v := .int (s_length + (nI 1))) (ty := .int) (C := RX9) (T := TX9) (N := 4) hx hb hts ki_X9 tyX9 tyX9_ok nmX9 hown hK.1 hP hD hS 1 rfl rfl 2 (by decide) kf2 (fun _ h9 => h9) rfl (by decide +kernel) rfl rfl (Nat.le_of_ble_eq_true rfl) dX9_run_104 (fun H locs hP hD hS => ?_)
          have hP : va_P G.1 vwCl [ceX1 hp2 s_p2_hits s_p2_leads s_p2_defeats s_p2_defeaters, ceX9 h0 (s_in ||| ((nI 1) <<< (r36 &&& 31))) (s_out ||| r73) (s_length + (nI 1)) r91, ceX3 hp1 s_p1_size s_p1_heard s_p1_mode s_p1_cast s_p1_figures s_p1_voices s_p1_attacks s_p1_supports] H := hP
          have hD : va_D A [ceX1 hp2 s_p2_hits s_p2_leads s_p2_defeats s_p2_defeaters, ceX9 h0 (s_in ||| ((nI 1) <<< (r36 &&& 31))) (s_out ||| r73) (s_length + (nI 1)) r91, ceX3 hp1 s_p1_size s_p1_heard s_p1_mode s_p1_cast s_p1_figures s_p1_voices s_p1_attacks s_p1_supports] := hD
          refine lv_iinc (v := v3 + nI 1) (lv' := [(3, .int (v3 + nI 1)), (4, .int r36), (0, .ref h0), (1, .ref hp1), (2, .ref hp2)]) hx hb dX9_run_107 hl (k := 4) rfl (congrArg (fun q => v3 + q) kc_1) (by decide) rfl (fun ls hl => ?_)
          refine lv_goto (tgt := 22) hx hb dX9_run_110 (by decide) ?_
          exact ih (v3 + nI 1) (s_in ||| ((nI 1) <<< (r36 &&& 31))) (s_out ||| r73) (s_length + (nI 1)) r91 h _ _ _ (hP.sub [1, 2, 0] rfl) (hD.sub [1, 2, 0] (by decide) rfl) hS (lv_sub hl [2, 3, 4, 0] rfl)
        · replace h := h.2 c
          refine lv_goto (tgt := 113) hx hb dX9_run_46 (by decide) ?_
          exact W.vret hx hb hr (fun t ht hW => ⟨⟨⟨s_in, s_out, s_length, s_order⟩, rfl, h, ⟨by rw [ht]; exact (hP.sub [1, 2, 0] rfl), (hD.sub [1, 2, 0] (by decide) rfl)⟩⟩, hS.F ht⟩) hS.2.2 dX9_run_113
  unfold wp_X9_run at h
  refine lv_aload_n hx hb dX9_run_0 rfl (lv_at hl 0 rfl) ?_
  refine lv_iconst (v := nI 0) hx hb dX9_run_1 kc_0 ?_
  refine va_put (D := G.1) (ci := 7) (v := .int (nI 0)) (ty := .int) (C := RX9) (T := TX9) (N := 4) hx hb hts ki_X9 tyX9 tyX9_ok nmX9 hown hK.1 hP hD hS 0 rfl rfl 0 (by decide) kf0 (fun _ h9 => h9) rfl (by decide +kernel) rfl rfl (Nat.le_of_ble_eq_true rfl) dX9_run_2 (fun H locs hP hD hS => ?_)
  have hP : va_P G.1 vwCl [ceX9 h0 (nI 0) s_out s_length s_order, ceX3 hp1 s_p1_size s_p1_heard s_p1_mode s_p1_cast s_p1_figures s_p1_voices s_p1_attacks s_p1_supports, ceX1 hp2 s_p2_hits s_p2_leads s_p2_defeats s_p2_defeaters] H := hP
  have hD : va_D A [ceX9 h0 (nI 0) s_out s_length s_order, ceX3 hp1 s_p1_size s_p1_heard s_p1_mode s_p1_cast s_p1_figures s_p1_voices s_p1_attacks s_p1_supports, ceX1 hp2 s_p2_hits s_p2_leads s_p2_defeats s_p2_defeaters] := hD
  refine lv_aload_n hx hb dX9_run_5 rfl (lv_at hl 0 rfl) ?_
  refine lv_iconst (v := nI 0) hx hb dX9_run_6 kc_0 ?_
  refine va_put (D := G.1) (ci := 7) (v := .int (nI 0)) (ty := .int) (C := RX9) (T := TX9) (N := 4) hx hb hts ki_X9 tyX9 tyX9_ok nmX9 hown hK.1 hP hD hS 0 rfl rfl 1 (by decide) kf1 (fun _ h9 => h9) rfl (by decide +kernel) rfl rfl (Nat.le_of_ble_eq_true rfl) dX9_run_7 (fun H locs hP hD hS => ?_)
  have hP : va_P G.1 vwCl [ceX9 h0 (nI 0) (nI 0) s_length s_order, ceX3 hp1 s_p1_size s_p1_heard s_p1_mode s_p1_cast s_p1_figures s_p1_voices s_p1_attacks s_p1_supports, ceX1 hp2 s_p2_hits s_p2_leads s_p2_defeats s_p2_defeaters] H := hP
  have hD : va_D A [ceX9 h0 (nI 0) (nI 0) s_length s_order, ceX3 hp1 s_p1_size s_p1_heard s_p1_mode s_p1_cast s_p1_figures s_p1_voices s_p1_attacks s_p1_supports, ceX1 hp2 s_p2_hits s_p2_leads s_p2_defeats s_p2_defeaters] := hD
  refine lv_aload_n hx hb dX9_run_10 rfl (lv_at hl 0 rfl) ?_
  refine lv_iconst (v := nI 0) hx hb dX9_run_11 kc_0 ?_
  refine va_put (D := G.1) (ci := 7) (v := .int (nI 0)) (ty := .int) (C := RX9) (T := TX9) (N := 4) hx hb hts ki_X9 tyX9 tyX9_ok nmX9 hown hK.1 hP hD hS 0 rfl rfl 2 (by decide) kf2 (fun _ h9 => h9) rfl (by decide +kernel) rfl rfl (Nat.le_of_ble_eq_true rfl) dX9_run_12 (fun H locs hP hD hS => ?_)
  have hP : va_P G.1 vwCl [ceX9 h0 (nI 0) (nI 0) (nI 0) s_order, ceX3 hp1 s_p1_size s_p1_heard s_p1_mode s_p1_cast s_p1_figures s_p1_voices s_p1_attacks s_p1_supports, ceX1 hp2 s_p2_hits s_p2_leads s_p2_defeats s_p2_defeaters] H := hP
  have hD : va_D A [ceX9 h0 (nI 0) (nI 0) (nI 0) s_order, ceX3 hp1 s_p1_size s_p1_heard s_p1_mode s_p1_cast s_p1_figures s_p1_voices s_p1_attacks s_p1_supports, ceX1 hp2 s_p2_hits s_p2_leads s_p2_defeats s_p2_defeaters] := hD
  refine lv_aload_n hx hb dX9_run_15 rfl (lv_at hl 0 rfl) ?_
  refine lv_lconst (v := lN 0) hx hb dX9_run_16 kl_0 ?_
  refine va_put (D := G.1) (ci := 7) (v := .long (lN 0)) (ty := .long) (C := RX9) (T := TX9) (N := 4) hx hb hts ki_X9 tyX9 tyX9_ok nmX9 hown hK.1 hP hD hS 0 rfl rfl 3 (by decide) kf3 (fun _ h9 => h9) rfl (by decide +kernel) rfl rfl (Nat.le_of_ble_eq_true rfl) dX9_run_17 (fun H locs hP hD hS => ?_)
  have hP : va_P G.1 vwCl [ceX9 h0 (nI 0) (nI 0) (nI 0) (lN 0), ceX3 hp1 s_p1_size s_p1_heard s_p1_mode s_p1_cast s_p1_figures s_p1_voices s_p1_attacks s_p1_supports, ceX1 hp2 s_p2_hits s_p2_leads s_p2_defeats s_p2_defeaters] H := hP
  have hD : va_D A [ceX9 h0 (nI 0) (nI 0) (nI 0) (lN 0), ceX3 hp1 s_p1_size s_p1_heard s_p1_mode s_p1_cast s_p1_figures s_p1_voices s_p1_attacks s_p1_supports, ceX1 hp2 s_p2_hits s_p2_leads s_p2_defeats s_p2_defeaters] := hD
  refine lv_iconst (v := nI 0) hx hb dX9_run_20 kc_0 ?_
  refine lv_istore_n (lv' := [(3, .int (nI 0)), (0, .ref h0), (1, .ref hp1), (2, .ref hp2)]) hx hb dX9_run_21 rfl hl (by decide) rfl (fun ls hl => ?_)
  obtain ⟨n22, h⟩ := h
  exact w22  n22 (nI 0) (nI 0) (nI 0) (nI 0) (lN 0) h _ _ _ hP hD hS (lv_sub hl [1, 2, 3, 0] rfl)
set_option maxHeartbeats 4000000 in
set_option maxRecDepth 100000 in
theorem c_X8_draftIn (l : Launch) (G : hcG) (h0 : Nat) (a_draft : Nat) (a_strife : Nat) (a_settled : Nat) (sz : Nat) (s_draft_size : Int32) (s_draft_heard : Int32) (s_draft_mode : Int32) (s_draft_cast : Int64) (s_draft_figures : Int64) (s_draft_voices : Int64) (s_draft_attacks : Int64) (s_draft_supports : Int64) (s_strife_hits : Int64) (s_strife_leads : Int64) (s_strife_defeats : Int64) (s_strife_defeaters : Int64) (s_settled_in : Int32) (s_settled_out : Int32) (s_settled_length : Int32) (s_settled_order : Int64) (post : Int32 → Int64 → Int64 → Int64 → Int64 → Int32 → Int32 → Int32 → Int64 → Prop) (h : wp_X8_draftIn post s_draft_size s_draft_heard s_draft_mode s_draft_cast s_draft_figures s_draft_attacks s_draft_supports s_strife_hits s_strife_leads s_strife_defeats s_strife_defeaters s_settled_in s_settled_out s_settled_length s_settled_order) : Met l yX8_draftIn wsX8_draftIn ({ frames := 4, cells := 0, slots := 0, locals := 96 }) (hcPc G [.ref h0] [ceX8 h0 a_draft a_strife a_settled, ceX3 a_draft s_draft_size s_draft_heard s_draft_mode s_draft_cast s_draft_figures s_draft_voices s_draft_attacks s_draft_supports, ceX1 a_strife s_strife_hits s_strife_leads s_strife_defeats s_strife_defeaters, ceX9 a_settled s_settled_in s_settled_out s_settled_length s_settled_order] sz) (va_Qi (fun (r : Int32) (u : Int64 × Int64 × Int64 × Int64 × Int32 × Int32 × Int32 × Int64) => post r u.1 u.2.1 u.2.2.1 u.2.2.2.1 u.2.2.2.2.1 u.2.2.2.2.2.1 u.2.2.2.2.2.2.1 u.2.2.2.2.2.2.2) (hcB G (va_A [ceX8 h0 a_draft a_strife a_settled, ceX3 a_draft s_draft_size s_draft_heard s_draft_mode s_draft_cast s_draft_figures s_draft_voices s_draft_attacks s_draft_supports, ceX1 a_strife s_strife_hits s_strife_leads s_strife_defeats s_strife_defeaters, ceX9 a_settled s_settled_in s_settled_out s_settled_length s_settled_order] sz) (fun u : Int64 × Int64 × Int64 × Int64 × Int32 × Int32 × Int32 × Int64 => [ceX8 h0 a_draft a_strife a_settled, ceX3 a_draft s_draft_size s_draft_heard s_draft_mode s_draft_cast s_draft_figures s_draft_voices s_draft_attacks s_draft_supports, ceX1 a_strife u.1 u.2.1 u.2.2.1 u.2.2.2.1, ceX9 a_settled u.2.2.2.2.1 u.2.2.2.2.2.1 u.2.2.2.2.2.2.1 u.2.2.2.2.2.2.2])) (va_A [ceX8 h0 a_draft a_strife a_settled, ceX3 a_draft s_draft_size s_draft_heard s_draft_mode s_draft_cast s_draft_figures s_draft_voices s_draft_attacks s_draft_supports, ceX1 a_strife s_strife_hits s_strife_leads s_strife_defeats s_strife_defeaters, ceX9 a_settled s_settled_in s_settled_out s_settled_length s_settled_order] sz)) 0 0 (va_A [ceX8 h0 a_draft a_strife a_settled, ceX3 a_draft s_draft_size s_draft_heard s_draft_mode s_draft_cast s_draft_figures s_draft_voices s_draft_attacks s_draft_supports, ceX1 a_strife s_strife_hits s_strife_leads s_strife_defeats s_strife_defeaters, ceX9 a_settled s_settled_in s_settled_out s_settled_length s_settled_order] sz) := by
  refine Met.ofW (cc := cX8_draftIn) (maxL := 1) (ret := (some .int)) (by decide) rfl ?_
  intro p e s m args below meth c s₁ B hml hv
  obtain ⟨rfl, hsz, hP, hK, hD0⟩ := hv
  have hx := B.exec
  have hb := B.bytes
  have hr := B.returns
  have hts := atoms_spec (ws := wsX8_draftIn) B.pre
  have hown : s.vm.findClass RX8 = some m.cls := findClass_of_methodNamed B.named
  have hlocks := B.notSynchronized
  subst hsz
  have hD := hD0.self (sz := s.heap.size)
  generalize hAe : va_A [ceX8 h0 a_draft a_strife a_settled, ceX3 a_draft s_draft_size s_draft_heard s_draft_mode s_draft_cast s_draft_figures s_draft_voices s_draft_attacks s_draft_supports, ceX1 a_strife s_strife_hits s_strife_leads s_strife_defeats s_strife_defeaters, ceX9 a_settled s_settled_in s_settled_out s_settled_length s_settled_order] s.heap.size = A at hD ⊢
  have hA : ∀ q : Nat, s.heap.size ≤ q → A q := fun q h => by rw [← hAe]; exact Or.inr h
  have hS : va_S A s.heap s.heap [] := va_S.rf
  have hP : va_P G.1 vwCl [ceX8 h0 a_draft a_strife a_settled, ceX3 a_draft s_draft_size s_draft_heard s_draft_mode s_draft_cast s_draft_figures s_draft_voices s_draft_attacks s_draft_supports, ceX1 a_strife s_strife_hits s_strife_leads s_strife_defeats s_strife_defeaters, ceX9 a_settled s_settled_in s_settled_out s_settled_length s_settled_order] s.heap := hP
  have hl := lv_entry ([.ref h0]) (n := 1) (Nat.le_of_ble_eq_true rfl)
  rw [lg_entry_eq]
  generalize (lg_sl ([.ref h0]) ++ List.replicate (1 - (lg_sl ([.ref h0])).length) Slot.unset).toArray = ls at hl ⊢
  have hl : lv_has ls 1 [(0, .ref h0)] := hl
  have kf0 := hts (.fieldLink RX8 21 "HallOfClaims$Trials" "strife" "LHallOfClaims$Defeats;") (List.mem_of_getElem? (i := 1) (by decide +kernel))
  have kf1 := hts (.fieldLink RX8 12 "HallOfClaims$Trials" "draft" "LHallOfClaims$Hall;") (List.mem_of_getElem? (i := 2) (by decide +kernel))
  have kf2 := hts (.fieldLink RX8 28 "HallOfClaims$Trials" "settled" "LHallOfClaims$Turns;") (List.mem_of_getElem? (i := 3) (by decide +kernel))
  have kf3 := hts (.fieldLink RX8 40 "HallOfClaims$Turns" "in" "I") (List.mem_of_getElem? (i := 4) (by decide +kernel))
  have ki_X8 : ∀ w ∈ u_ws RX8 TX8 3, w ∈ wsX8_draftIn := by decide +kernel
  have ki_X9 : ∀ w ∈ u_ws RX9 TX9 4, w ∈ wsX8_draftIn := by decide +kernel
  unfold wp_X8_draftIn at h
  refine lv_aload_n hx hb dX8_draftIn_0 rfl (lv_at hl 0 rfl) ?_
  refine va_get (D := G.1) (ci := 6) (v := .ref a_strife) (C := RX8) (T := TX8) (N := 3) hx hb hts ki_X8 hown hK.1 hP 0 rfl rfl 1 (by decide) kf0 (fun _ h9 => h9) rfl dX8_draftIn_1 ?_
  refine lv_aload_n hx hb dX8_draftIn_4 rfl (lv_at hl 0 rfl) ?_
  refine va_get (D := G.1) (ci := 6) (v := .ref a_draft) (C := RX8) (T := TX8) (N := 3) hx hb hts ki_X8 hown hK.1 hP 0 rfl rfl 0 (by decide) kf1 (fun _ h9 => h9) rfl dX8_draftIn_5 ?_
  refine hc_kv (wr := [ceX8 h0 a_draft a_strife a_settled, ceX9 a_settled s_settled_in s_settled_out s_settled_length s_settled_order]) (va_runV (As := [.ref a_draft]) (rest := []) ⟨hx, hb, hml, hown, hts⟩ (c_X1_reckon l G a_strife a_draft s.heap.size s_strife_hits s_strife_leads s_strife_defeats s_strife_defeaters s_draft_size s_draft_heard s_draft_mode s_draft_cast s_draft_figures s_draft_voices s_draft_attacks s_draft_supports _ h) (cwV 1 hts gX8_draftIn_X1_reckon rfl rfl rfl (by decide +kernel) ⟨Nat.le_of_ble_eq_true rfl, Nat.le_of_ble_eq_true rfl⟩) (hc_pV hK hP hD [2, 1] rfl rfl (ci := 0) 2 rfl rfl) rfl rfl hl.1 rfl (lv_room (Nat.le_of_ble_eq_true rfl)) dX8_draftIn_8 ⟨Nat.le_refl _, Nat.le_refl _⟩) hP hD hS hA [2, 1] [0, 3] rfl rfl rfl (by decide) (fun u H locs h hP hD hS => ?_)
  obtain ⟨s_strife_hits_8, s_strife_leads_8, s_strife_defeats_8, s_strife_defeaters_8⟩ := u
  try dsimp only at h
  have hP : va_P G.1 vwCl [ceX8 h0 a_draft a_strife a_settled, ceX9 a_settled s_settled_in s_settled_out s_settled_length s_settled_order, ceX1 a_strife s_strife_hits_8 s_strife_leads_8 s_strife_defeats_8 s_strife_defeaters_8, ceX3 a_draft s_draft_size s_draft_heard s_draft_mode s_draft_cast s_draft_figures s_draft_voices s_draft_attacks s_draft_supports] H := hP
  have hD : va_D A [ceX8 h0 a_draft a_strife a_settled, ceX9 a_settled s_settled_in s_settled_out s_settled_length s_settled_order, ceX1 a_strife s_strife_hits_8 s_strife_leads_8 s_strife_defeats_8 s_strife_defeaters_8, ceX3 a_draft s_draft_size s_draft_heard s_draft_mode s_draft_cast s_draft_figures s_draft_voices s_draft_attacks s_draft_supports] := hD
  refine lv_aload_n hx hb dX8_draftIn_11 rfl (lv_at hl 0 rfl) ?_
  refine va_get (D := G.1) (ci := 6) (v := .ref a_settled) (C := RX8) (T := TX8) (N := 3) hx hb hts ki_X8 hown hK.1 hP 0 rfl rfl 2 (by decide) kf2 (fun _ h9 => h9) rfl dX8_draftIn_12 ?_
  refine lv_aload_n hx hb dX8_draftIn_15 rfl (lv_at hl 0 rfl) ?_
  refine va_get (D := G.1) (ci := 6) (v := .ref a_draft) (C := RX8) (T := TX8) (N := 3) hx hb hts ki_X8 hown hK.1 hP 0 rfl rfl 0 (by decide) kf1 (fun _ h9 => h9) rfl dX8_draftIn_16 ?_
  refine lv_aload_n hx hb dX8_draftIn_19 rfl (lv_at hl 0 rfl) ?_
  refine va_get (D := G.1) (ci := 6) (v := .ref a_strife) (C := RX8) (T := TX8) (N := 3) hx hb hts ki_X8 hown hK.1 hP 0 rfl rfl 1 (by decide) kf0 (fun _ h9 => h9) rfl dX8_draftIn_20 ?_
  refine hc_kv (wr := [ceX8 h0 a_draft a_strife a_settled]) (va_runV (As := [.ref a_draft, .ref a_strife]) (rest := []) ⟨hx, hb, hml, hown, hts⟩ (c_X9_run l G a_settled a_draft a_strife H.size s_settled_in s_settled_out s_settled_length s_settled_order s_draft_size s_draft_heard s_draft_mode s_draft_cast s_draft_figures s_draft_voices s_draft_attacks s_draft_supports s_strife_hits_8 s_strife_leads_8 s_strife_defeats_8 s_strife_defeaters_8 _ h) (cwV 2 hts gX8_draftIn_X9_run rfl rfl rfl (by decide +kernel) ⟨Nat.le_of_ble_eq_true rfl, Nat.le_of_ble_eq_true rfl⟩) (hc_pV hK hP hD [1, 3, 2] rfl rfl (ci := 7) 1 rfl rfl) rfl rfl hl.1 rfl (lv_room (Nat.le_of_ble_eq_true rfl)) dX8_draftIn_23 ⟨Nat.le_refl _, Nat.le_refl _⟩) hP hD hS hA [1, 3, 2] [0] rfl rfl rfl (by decide) (fun u H locs h hP hD hS => ?_)
  obtain ⟨s_settled_in_23, s_settled_out_23, s_settled_length_23, s_settled_order_23⟩ := u
  try dsimp only at h
  have hP : va_P G.1 vwCl [ceX8 h0 a_draft a_strife a_settled, ceX9 a_settled s_settled_in_23 s_settled_out_23 s_settled_length_23 s_settled_order_23, ceX3 a_draft s_draft_size s_draft_heard s_draft_mode s_draft_cast s_draft_figures s_draft_voices s_draft_attacks s_draft_supports, ceX1 a_strife s_strife_hits_8 s_strife_leads_8 s_strife_defeats_8 s_strife_defeaters_8] H := hP
  have hD : va_D A [ceX8 h0 a_draft a_strife a_settled, ceX9 a_settled s_settled_in_23 s_settled_out_23 s_settled_length_23 s_settled_order_23, ceX3 a_draft s_draft_size s_draft_heard s_draft_mode s_draft_cast s_draft_figures s_draft_voices s_draft_attacks s_draft_supports, ceX1 a_strife s_strife_hits_8 s_strife_leads_8 s_strife_defeats_8 s_strife_defeaters_8] := hD
  refine lv_aload_n hx hb dX8_draftIn_26 rfl (lv_at hl 0 rfl) ?_
  refine va_get (D := G.1) (ci := 6) (v := .ref a_settled) (C := RX8) (T := TX8) (N := 3) hx hb hts ki_X8 hown hK.1 hP 0 rfl rfl 2 (by decide) kf2 (fun _ h9 => h9) rfl dX8_draftIn_27 ?_
  refine va_get (D := G.1) (ci := 7) (v := .int s_settled_in_23) (C := RX9) (T := TX9) (N := 4) hx hb hts ki_X9 hown hK.1 hP 1 rfl rfl 0 (by decide) kf3 (fun _ h9 => h9) rfl dX8_draftIn_30 ?_
  exact W.iret (v := s_settled_in_23) hx hb hr (fun t ht hW => ⟨⟨_, ⟨s_strife_hits_8, s_strife_leads_8, s_strife_defeats_8, s_strife_defeaters_8, s_settled_in_23, s_settled_out_23, s_settled_length_23, s_settled_order_23⟩, rfl, h, ⟨by rw [ht]; exact (hP.sub [0, 2, 3, 1] rfl), (hD.sub [0, 2, 3, 1] (by decide) rfl)⟩⟩, hS.F ht⟩) hS.2.2 dX8_draftIn_33
set_option maxHeartbeats 4000000 in
set_option maxRecDepth 100000 in
theorem c_X8_draftStable (l : Launch) (G : hcG) (h0 : Nat) (a_draft : Nat) (a_strife : Nat) (a_settled : Nat) (sz : Nat) (s_draft_size : Int32) (s_draft_heard : Int32) (s_draft_mode : Int32) (s_draft_cast : Int64) (s_draft_figures : Int64) (s_draft_voices : Int64) (s_draft_attacks : Int64) (s_draft_supports : Int64) (s_strife_hits : Int64) (s_strife_leads : Int64) (s_strife_defeats : Int64) (s_strife_defeaters : Int64) (post : Int32 → Int64 → Int64 → Int64 → Int64 → Prop) (h : wp_X8_draftStable post s_draft_size s_draft_heard s_draft_mode s_draft_cast s_draft_figures s_draft_attacks s_draft_supports s_strife_hits s_strife_leads s_strife_defeats s_strife_defeaters) : Met l yX8_draftStable wsX8_draftStable ({ frames := 4, cells := 0, slots := 0, locals := 96 }) (hcPc G [.ref h0] [ceX8 h0 a_draft a_strife a_settled, ceX3 a_draft s_draft_size s_draft_heard s_draft_mode s_draft_cast s_draft_figures s_draft_voices s_draft_attacks s_draft_supports, ceX1 a_strife s_strife_hits s_strife_leads s_strife_defeats s_strife_defeaters] sz) (va_Qi (fun (r : Int32) (u : Int64 × Int64 × Int64 × Int64) => post r u.1 u.2.1 u.2.2.1 u.2.2.2) (hcB G (va_A [ceX8 h0 a_draft a_strife a_settled, ceX3 a_draft s_draft_size s_draft_heard s_draft_mode s_draft_cast s_draft_figures s_draft_voices s_draft_attacks s_draft_supports, ceX1 a_strife s_strife_hits s_strife_leads s_strife_defeats s_strife_defeaters] sz) (fun u : Int64 × Int64 × Int64 × Int64 => [ceX8 h0 a_draft a_strife a_settled, ceX3 a_draft s_draft_size s_draft_heard s_draft_mode s_draft_cast s_draft_figures s_draft_voices s_draft_attacks s_draft_supports, ceX1 a_strife u.1 u.2.1 u.2.2.1 u.2.2.2])) (va_A [ceX8 h0 a_draft a_strife a_settled, ceX3 a_draft s_draft_size s_draft_heard s_draft_mode s_draft_cast s_draft_figures s_draft_voices s_draft_attacks s_draft_supports, ceX1 a_strife s_strife_hits s_strife_leads s_strife_defeats s_strife_defeaters] sz)) 0 0 (va_A [ceX8 h0 a_draft a_strife a_settled, ceX3 a_draft s_draft_size s_draft_heard s_draft_mode s_draft_cast s_draft_figures s_draft_voices s_draft_attacks s_draft_supports, ceX1 a_strife s_strife_hits s_strife_leads s_strife_defeats s_strife_defeaters] sz) := by
  refine Met.ofW (cc := cX8_draftStable) (maxL := 1) (ret := (some .int)) (by decide) rfl ?_
  intro p e s m args below meth c s₁ B hml hv
  obtain ⟨rfl, hsz, hP, hK, hD0⟩ := hv
  have hx := B.exec
  have hb := B.bytes
  have hr := B.returns
  have hts := atoms_spec (ws := wsX8_draftStable) B.pre
  have hown : s.vm.findClass RX8 = some m.cls := findClass_of_methodNamed B.named
  have hlocks := B.notSynchronized
  subst hsz
  have hD := hD0.self (sz := s.heap.size)
  generalize hAe : va_A [ceX8 h0 a_draft a_strife a_settled, ceX3 a_draft s_draft_size s_draft_heard s_draft_mode s_draft_cast s_draft_figures s_draft_voices s_draft_attacks s_draft_supports, ceX1 a_strife s_strife_hits s_strife_leads s_strife_defeats s_strife_defeaters] s.heap.size = A at hD ⊢
  have hA : ∀ q : Nat, s.heap.size ≤ q → A q := fun q h => by rw [← hAe]; exact Or.inr h
  have hS : va_S A s.heap s.heap [] := va_S.rf
  have hP : va_P G.1 vwCl [ceX8 h0 a_draft a_strife a_settled, ceX3 a_draft s_draft_size s_draft_heard s_draft_mode s_draft_cast s_draft_figures s_draft_voices s_draft_attacks s_draft_supports, ceX1 a_strife s_strife_hits s_strife_leads s_strife_defeats s_strife_defeaters] s.heap := hP
  have hl := lv_entry ([.ref h0]) (n := 1) (Nat.le_of_ble_eq_true rfl)
  rw [lg_entry_eq]
  generalize (lg_sl ([.ref h0]) ++ List.replicate (1 - (lg_sl ([.ref h0])).length) Slot.unset).toArray = ls at hl ⊢
  have hl : lv_has ls 1 [(0, .ref h0)] := hl
  have kf0 := hts (.fieldLink RX8 21 "HallOfClaims$Trials" "strife" "LHallOfClaims$Defeats;") (List.mem_of_getElem? (i := 1) (by decide +kernel))
  have kf1 := hts (.fieldLink RX8 12 "HallOfClaims$Trials" "draft" "LHallOfClaims$Hall;") (List.mem_of_getElem? (i := 2) (by decide +kernel))
  have kf2 := hts (.fieldLink RX8 44 "HallOfClaims$Hall" "heard" "I") (List.mem_of_getElem? (i := 3) (by decide +kernel))
  have kf3 := hts (.fieldLink RX8 47 "HallOfClaims$Defeats" "defeats" "J") (List.mem_of_getElem? (i := 4) (by decide +kernel))
  have ki_X8 : ∀ w ∈ u_ws RX8 TX8 3, w ∈ wsX8_draftStable := by decide +kernel
  have ki_X3 : ∀ w ∈ u_ws RX3 TX3 8, w ∈ wsX8_draftStable := by decide +kernel
  have ki_X1 : ∀ w ∈ u_ws RX1 TX1 4, w ∈ wsX8_draftStable := by decide +kernel
  unfold wp_X8_draftStable at h
  refine lv_aload_n hx hb dX8_draftStable_0 rfl (lv_at hl 0 rfl) ?_
  refine va_get (D := G.1) (ci := 6) (v := .ref a_strife) (C := RX8) (T := TX8) (N := 3) hx hb hts ki_X8 hown hK.1 hP 0 rfl rfl 1 (by decide) kf0 (fun _ h9 => h9) rfl dX8_draftStable_1 ?_
  refine lv_aload_n hx hb dX8_draftStable_4 rfl (lv_at hl 0 rfl) ?_
  refine va_get (D := G.1) (ci := 6) (v := .ref a_draft) (C := RX8) (T := TX8) (N := 3) hx hb hts ki_X8 hown hK.1 hP 0 rfl rfl 0 (by decide) kf1 (fun _ h9 => h9) rfl dX8_draftStable_5 ?_
  refine hc_kv (wr := [ceX8 h0 a_draft a_strife a_settled]) (va_runV (As := [.ref a_draft]) (rest := []) ⟨hx, hb, hml, hown, hts⟩ (c_X1_reckon l G a_strife a_draft s.heap.size s_strife_hits s_strife_leads s_strife_defeats s_strife_defeaters s_draft_size s_draft_heard s_draft_mode s_draft_cast s_draft_figures s_draft_voices s_draft_attacks s_draft_supports _ h) (cwV 1 hts gX8_draftStable_X1_reckon rfl rfl rfl (by decide +kernel) ⟨Nat.le_of_ble_eq_true rfl, Nat.le_of_ble_eq_true rfl⟩) (hc_pV hK hP hD [2, 1] rfl rfl (ci := 0) 2 rfl rfl) rfl rfl hl.1 rfl (lv_room (Nat.le_of_ble_eq_true rfl)) dX8_draftStable_8 ⟨Nat.le_refl _, Nat.le_refl _⟩) hP hD hS hA [2, 1] [0] rfl rfl rfl (by decide) (fun u H locs h hP hD hS => ?_)
  obtain ⟨s_strife_hits_8, s_strife_leads_8, s_strife_defeats_8, s_strife_defeaters_8⟩ := u
  try dsimp only at h
  have hP : va_P G.1 vwCl [ceX8 h0 a_draft a_strife a_settled, ceX1 a_strife s_strife_hits_8 s_strife_leads_8 s_strife_defeats_8 s_strife_defeaters_8, ceX3 a_draft s_draft_size s_draft_heard s_draft_mode s_draft_cast s_draft_figures s_draft_voices s_draft_attacks s_draft_supports] H := hP
  have hD : va_D A [ceX8 h0 a_draft a_strife a_settled, ceX1 a_strife s_strife_hits_8 s_strife_leads_8 s_strife_defeats_8 s_strife_defeaters_8, ceX3 a_draft s_draft_size s_draft_heard s_draft_mode s_draft_cast s_draft_figures s_draft_voices s_draft_attacks s_draft_supports] := hD
  refine lv_aload_n hx hb dX8_draftStable_11 rfl (lv_at hl 0 rfl) ?_
  refine va_get (D := G.1) (ci := 6) (v := .ref a_draft) (C := RX8) (T := TX8) (N := 3) hx hb hts ki_X8 hown hK.1 hP 0 rfl rfl 0 (by decide) kf1 (fun _ h9 => h9) rfl dX8_draftStable_12 ?_
  refine va_get (D := G.1) (ci := 2) (v := .int s_draft_heard) (C := RX3) (T := TX3) (N := 8) hx hb hts ki_X3 hown hK.1 hP 2 rfl rfl 1 (by decide) kf2 (fun _ h9 => h9) rfl dX8_draftStable_15 ?_
  refine lv_aload_n hx hb dX8_draftStable_18 rfl (lv_at hl 0 rfl) ?_
  refine va_get (D := G.1) (ci := 6) (v := .ref a_strife) (C := RX8) (T := TX8) (N := 3) hx hb hts ki_X8 hown hK.1 hP 0 rfl rfl 1 (by decide) kf0 (fun _ h9 => h9) rfl dX8_draftStable_19 ?_
  refine va_get (D := G.1) (ci := 0) (v := .long s_strife_defeats_8) (C := RX1) (T := TX1) (N := 4) hx hb hts ki_X1 hown hK.1 hP 1 rfl rfl 2 (by decide) kf3 (fun _ h9 => h9) rfl dX8_draftStable_22 ?_
  refine hc_ki (wr := [ceX8 h0 a_draft a_strife a_settled, ceX1 a_strife s_strife_hits_8 s_strife_leads_8 s_strife_defeats_8 s_strife_defeaters_8, ceX3 a_draft s_draft_size s_draft_heard s_draft_mode s_draft_cast s_draft_figures s_draft_voices s_draft_attacks s_draft_supports]) (va_runS (As := [.int s_draft_heard, .long s_strife_defeats_8]) (rest := []) ⟨hx, hb, hml, hown, hts⟩ (c_X7_stableSets l G H.size s_draft_heard s_strife_defeats_8 _ h) (va_cwS 2 hts gX8_draftStable_X7_stableSets rfl rfl rfl (by decide +kernel) ⟨Nat.le_of_ble_eq_true rfl, Nat.le_of_ble_eq_true rfl⟩) (hc_pS hK hP hD [] rfl rfl) rfl rfl hl.1 rfl (lv_room (Nat.le_of_ble_eq_true rfl)) dX8_draftStable_25 ⟨Nat.le_refl _, Nat.le_refl _⟩) hP hD hS hA [] [0, 1, 2] rfl rfl rfl (by decide) (fun r25 u H locs h hP hD hS => ?_)
  try dsimp only at h
  have hP : va_P G.1 vwCl [ceX8 h0 a_draft a_strife a_settled, ceX1 a_strife s_strife_hits_8 s_strife_leads_8 s_strife_defeats_8 s_strife_defeaters_8, ceX3 a_draft s_draft_size s_draft_heard s_draft_mode s_draft_cast s_draft_figures s_draft_voices s_draft_attacks s_draft_supports] H := hP
  have hD : va_D A [ceX8 h0 a_draft a_strife a_settled, ceX1 a_strife s_strife_hits_8 s_strife_leads_8 s_strife_defeats_8 s_strife_defeaters_8, ceX3 a_draft s_draft_size s_draft_heard s_draft_mode s_draft_cast s_draft_figures s_draft_voices s_draft_attacks s_draft_supports] := hD
  exact W.iret (v := r25) hx hb hr (fun t ht hW => ⟨⟨_, ⟨s_strife_hits_8, s_strife_leads_8, s_strife_defeats_8, s_strife_defeaters_8⟩, rfl, h, ⟨by rw [ht]; exact (hP.sub [0, 2, 1] rfl), (hD.sub [0, 2, 1] (by decide) rfl)⟩⟩, hS.F ht⟩) hS.2.2 dX8_draftStable_28
