set_option maxHeartbeats 4000000 in
set_option maxRecDepth 100000 in
theorem c_X0_get (l : Launch) (G : hcG) (sz : Nat) (x0 : Int64) (x1 : Int32) (post : Int32 → Prop) (h : wp_X0_get post x0 x1) : Met l yX0_get wsX0_get ({ frames := 0, cells := 0, slots := 0, locals := 0 }) (hcPc G [.long x0, .int x1] [] sz) (va_Qi (fun (r : Int32) (u : Unit) => post r) (hcB G (va_A [] sz) (fun u : Unit => [])) (va_A [] sz)) 0 0 (va_A [] sz) := by
  refine Met.ofW (cc := cX0_get) (maxL := 3) (ret := (some .int)) (by decide) rfl ?_
  intro p e s m args below meth c s₁ B hml hv
  obtain ⟨rfl, hsz, hP, hK, hD0⟩ := hv
  have hx := B.exec
  have hb := B.bytes
  have hr := B.returns
  have hts := atoms_spec (ws := wsX0_get) B.pre
  have hown : s.vm.findClass RX0 = some m.cls := findClass_of_methodNamed B.named
  have hlocks := B.notSynchronized
  subst hsz
  have hD := hD0.self (sz := s.heap.size)
  generalize hAe : va_A [] s.heap.size = A at hD ⊢
  have hA : ∀ q : Nat, s.heap.size ≤ q → A q := fun q h => by rw [← hAe]; exact Or.inr h
  have hS : va_S A s.heap s.heap [] := va_S.rf
  have hP : va_P G.1 vwCl [] s.heap := hP
  have hl := lv_entry ([.long x0, .int x1]) (n := 3) (Nat.le_of_ble_eq_true rfl)
  rw [lg_entry_eq]
  generalize (lg_sl ([.long x0, .int x1]) ++ List.replicate (3 - (lg_sl ([.long x0, .int x1])).length) Slot.unset).toArray = ls at hl ⊢
  have hl : lv_has ls 3 [(0, .long x0), (2, .int x1)] := hl
  unfold wp_X0_get at h
  refine lv_lload_n hx hb dX0_get_0 rfl (lv_at hl 0 rfl) ?_
  refine lv_bipush (v := nI 8) hx hb dX0_get_1 kb_8 ?_
  refine lv_iload_n hx hb dX0_get_3 rfl (lv_at hl 1 rfl) ?_
  refine lv_imul hx hb dX0_get_4 ?_
  refine lv_lushr (v := hcLushr x0 ((nI 8) * x1)) hx hb dX0_get_5 rfl ?_
  refine lv_l2i (v := (hcLushr x0 ((nI 8) * x1)).toInt32) hx hb dX0_get_6 rfl ?_
  refine lv_sipush (v := nI 255) hx hb dX0_get_7 ks_255 ?_
  refine lv_iand hx hb dX0_get_10 ?_
  exact W.iret (v := ((hcLushr x0 ((nI 8) * x1)).toInt32) &&& (nI 255)) hx hb hr (fun t ht hW => ⟨⟨_, (), rfl, h, ⟨by rw [ht]; exact hP, hD⟩⟩, hS.F ht⟩) hS.2.2 dX0_get_11
set_option maxHeartbeats 4000000 in
set_option maxRecDepth 100000 in
theorem c_X0_with (l : Launch) (G : hcG) (sz : Nat) (x0 : Int64) (x1 : Int32) (x2 : Int32) (post : Int64 → Prop) (h : wp_X0_with post x0 x1 x2) : Met l yX0_with wsX0_with ({ frames := 0, cells := 0, slots := 0, locals := 0 }) (hcPc G [.long x0, .int x1, .int x2] [] sz) (va_Ql (fun (r : Int64) (u : Unit) => post r) (hcB G (va_A [] sz) (fun u : Unit => [])) (va_A [] sz)) 0 0 (va_A [] sz) := by
  refine Met.ofW (cc := cX0_with) (maxL := 5) (ret := (some .long)) (by decide) rfl ?_
  intro p e s m args below meth c s₁ B hml hv
  obtain ⟨rfl, hsz, hP, hK, hD0⟩ := hv
  have hx := B.exec
  have hb := B.bytes
  have hr := B.returns
  have hts := atoms_spec (ws := wsX0_with) B.pre
  have hown : s.vm.findClass RX0 = some m.cls := findClass_of_methodNamed B.named
  have hlocks := B.notSynchronized
  subst hsz
  have hD := hD0.self (sz := s.heap.size)
  generalize hAe : va_A [] s.heap.size = A at hD ⊢
  have hA : ∀ q : Nat, s.heap.size ≤ q → A q := fun q h => by rw [← hAe]; exact Or.inr h
  have hS : va_S A s.heap s.heap [] := va_S.rf
  have hP : va_P G.1 vwCl [] s.heap := hP
  have hl := lv_entry ([.long x0, .int x1, .int x2]) (n := 5) (Nat.le_of_ble_eq_true rfl)
  rw [lg_entry_eq]
  generalize (lg_sl ([.long x0, .int x1, .int x2]) ++ List.replicate (5 - (lg_sl ([.long x0, .int x1, .int x2])).length) Slot.unset).toArray = ls at hl ⊢
  have hl : lv_has ls 5 [(0, .long x0), (2, .int x1), (3, .int x2)] := hl
  have kf0 := hts (.constantLong RX0 9 (255)) (List.mem_of_getElem? (i := 1) (by decide +kernel))
  have kf1 := hts (.constantLong RX0 11 (-1)) (List.mem_of_getElem? (i := 2) (by decide +kernel))
  unfold wp_X0_with at h
  refine lv_bipush (v := nI 8) hx hb dX0_with_0 kb_8 ?_
  refine lv_iload_n hx hb dX0_with_2 rfl (lv_at hl 1 rfl) ?_
  refine lv_imul hx hb dX0_with_3 ?_
  refine lv_istore (lv' := [(4, .int ((nI 8) * x1)), (0, .long x0), (2, .int x1), (3, .int x2)]) hx hb dX0_with_4 hl (by decide) rfl (fun ls hl => ?_)
  refine lv_lload_n hx hb dX0_with_6 rfl (lv_at hl 1 rfl) ?_
  refine lv_ldc2 (own := RX0) (v := 255) hx hb hown kf0 dX0_with_7 ?_
  refine lv_iload hx hb dX0_with_10 (lv_at hl 0 rfl) ?_
  refine lv_lshl (v := hcLshl ((255 : Int64)) ((nI 8) * x1)) hx hb dX0_with_12 rfl ?_
  refine lv_ldc2 (own := RX0) (v := -1) hx hb hown kf1 dX0_with_13 ?_
  refine lv_lxor hx hb dX0_with_16 ?_
  refine lv_land hx hb dX0_with_17 ?_
  refine lv_iload_n hx hb dX0_with_18 rfl (lv_at hl 3 rfl) ?_
  refine lv_i2l (v := x2.toInt64) hx hb dX0_with_19 rfl ?_
  refine lv_ldc2 (own := RX0) (v := 255) hx hb hown kf0 dX0_with_20 ?_
  refine lv_land hx hb dX0_with_23 ?_
  refine lv_iload hx hb dX0_with_24 (lv_at hl 0 rfl) ?_
  refine lv_lshl (v := hcLshl (x2.toInt64 &&& ((255 : Int64))) ((nI 8) * x1)) hx hb dX0_with_26 rfl ?_
  refine lv_lor hx hb dX0_with_27 ?_
  exact W.lret (v := (x0 &&& ((hcLshl ((255 : Int64)) ((nI 8) * x1)) ^^^ ((-1 : Int64)))) ||| (hcLshl (x2.toInt64 &&& ((255 : Int64))) ((nI 8) * x1))) hx hb hr (fun t ht hW => ⟨⟨_, (), rfl, h, ⟨by rw [ht]; exact hP, hD⟩⟩, hS.F ht⟩) hS.2.2 dX0_with_28
set_option maxHeartbeats 4000000 in
set_option maxRecDepth 100000 in
theorem c_X0_pair (l : Launch) (G : hcG) (sz : Nat) (x0 : Int32) (x1 : Int32) (post : Int64 → Prop) (h : wp_X0_pair post x0 x1) : Met l yX0_pair wsX0_pair ({ frames := 0, cells := 0, slots := 0, locals := 0 }) (hcPc G [.int x0, .int x1] [] sz) (va_Ql (fun (r : Int64) (u : Unit) => post r) (hcB G (va_A [] sz) (fun u : Unit => [])) (va_A [] sz)) 0 0 (va_A [] sz) := by
  refine Met.ofW (cc := cX0_pair) (maxL := 2) (ret := (some .long)) (by decide) rfl ?_
  intro p e s m args below meth c s₁ B hml hv
  obtain ⟨rfl, hsz, hP, hK, hD0⟩ := hv
  have hx := B.exec
  have hb := B.bytes
  have hr := B.returns
  have hts := atoms_spec (ws := wsX0_pair) B.pre
  have hown : s.vm.findClass RX0 = some m.cls := findClass_of_methodNamed B.named
  have hlocks := B.notSynchronized
  subst hsz
  have hD := hD0.self (sz := s.heap.size)
  generalize hAe : va_A [] s.heap.size = A at hD ⊢
  have hA : ∀ q : Nat, s.heap.size ≤ q → A q := fun q h => by rw [← hAe]; exact Or.inr h
  have hS : va_S A s.heap s.heap [] := va_S.rf
  have hP : va_P G.1 vwCl [] s.heap := hP
  have hl := lv_entry ([.int x0, .int x1]) (n := 2) (Nat.le_of_ble_eq_true rfl)
  rw [lg_entry_eq]
  generalize (lg_sl ([.int x0, .int x1]) ++ List.replicate (2 - (lg_sl ([.int x0, .int x1])).length) Slot.unset).toArray = ls at hl ⊢
  have hl : lv_has ls 2 [(0, .int x0), (1, .int x1)] := hl
  unfold wp_X0_pair at h
  refine lv_lconst (v := lN 1) hx hb dX0_pair_0 kl_1 ?_
  refine lv_bipush (v := nI 8) hx hb dX0_pair_1 kb_8 ?_
  refine lv_iload_n hx hb dX0_pair_3 rfl (lv_at hl 0 rfl) ?_
  refine lv_imul hx hb dX0_pair_4 ?_
  refine lv_iload_n hx hb dX0_pair_5 rfl (lv_at hl 1 rfl) ?_
  refine lv_iadd hx hb dX0_pair_6 ?_
  refine lv_lshl (v := hcLshl (lN 1) (((nI 8) * x0) + x1)) hx hb dX0_pair_7 rfl ?_
  exact W.lret (v := hcLshl (lN 1) (((nI 8) * x0) + x1)) hx hb hr (fun t ht hW => ⟨⟨_, (), rfl, h, ⟨by rw [ht]; exact hP, hD⟩⟩, hS.F ht⟩) hS.2.2 dX0_pair_8
set_option maxHeartbeats 4000000 in
set_option maxRecDepth 100000 in
theorem c_X0_has (l : Launch) (G : hcG) (sz : Nat) (x0 : Int64) (x1 : Int32) (x2 : Int32) (post : Int32 → Prop) (h : wp_X0_has post x0 x1 x2) : Met l yX0_has wsX0_has ({ frames := 1, cells := 0, slots := 0, locals := 21 }) (hcPc G [.long x0, .int x1, .int x2] [] sz) (va_Qi (fun (r : Int32) (u : Unit) => post r) (hcB G (va_A [] sz) (fun u : Unit => [])) (va_A [] sz)) 0 0 (va_A [] sz) := by
  refine Met.ofW (cc := cX0_has) (maxL := 4) (ret := (some .boolean)) (by decide) rfl ?_
  intro p e s m args below meth c s₁ B hml hv
  obtain ⟨rfl, hsz, hP, hK, hD0⟩ := hv
  have hx := B.exec
  have hb := B.bytes
  have hr := B.returns
  have hts := atoms_spec (ws := wsX0_has) B.pre
  have hown : s.vm.findClass RX0 = some m.cls := findClass_of_methodNamed B.named
  have hlocks := B.notSynchronized
  subst hsz
  have hD := hD0.self (sz := s.heap.size)
  generalize hAe : va_A [] s.heap.size = A at hD ⊢
  have hA : ∀ q : Nat, s.heap.size ≤ q → A q := fun q h => by rw [← hAe]; exact Or.inr h
  have hS : va_S A s.heap s.heap [] := va_S.rf
  have hP : va_P G.1 vwCl [] s.heap := hP
  have hl := lv_entry ([.long x0, .int x1, .int x2]) (n := 4) (Nat.le_of_ble_eq_true rfl)
  rw [lg_entry_eq]
  generalize (lg_sl ([.long x0, .int x1, .int x2]) ++ List.replicate (4 - (lg_sl ([.long x0, .int x1, .int x2])).length) Slot.unset).toArray = ls at hl ⊢
  have hl : lv_has ls 4 [(0, .long x0), (2, .int x1), (3, .int x2)] := hl
  unfold wp_X0_has at h
  refine lv_lload_n hx hb dX0_has_0 rfl (lv_at hl 0 rfl) ?_
  refine lv_iload_n hx hb dX0_has_1 rfl (lv_at hl 1 rfl) ?_
  refine lv_iload_n hx hb dX0_has_2 rfl (lv_at hl 2 rfl) ?_
  refine hc_kl (wr := []) (va_runS (As := [.int x1, .int x2]) (rest := [.long x0]) ⟨hx, hb, hml, hown, hts⟩ (c_X0_pair l G s.heap.size x1 x2 _ h) (va_cwS 2 hts gX0_has_X0_pair rfl rfl rfl (by decide +kernel) ⟨Nat.le_of_ble_eq_true rfl, Nat.le_of_ble_eq_true rfl⟩) (hc_pS hK hP hD [] rfl rfl) rfl rfl hl.1 rfl (lv_room (Nat.le_of_ble_eq_true rfl)) dX0_has_3 ⟨Nat.le_refl _, Nat.le_refl _⟩) hP hD hS hA [] [] rfl rfl rfl (by decide) (fun r3 u H locs h hP hD hS => ?_)
  try dsimp only at h
  have hP : va_P G.1 vwCl [] H := hP
  have hD : va_D A [] := hD
  refine lv_land hx hb dX0_has_6 ?_
  refine lv_lconst (v := lN 0) hx hb dX0_has_7 kl_0 ?_
  refine W.lcmp hx hb dX0_has_8 ?_
  refine lv_if_eq (tgt := 16) hx hb dX0_has_9 (by decide) (fun c => ?_) (fun c => ?_)
  · replace h := h.1 c
    refine lv_iconst (v := nI 0) hx hb dX0_has_16 kc_0 ?_
    exact W.zret (v := nI 0) hx hb hr rfl (fun t ht hW => ⟨⟨_, (), rfl, h, ⟨by rw [ht]; exact hP, hD⟩⟩, hS.F ht⟩) hS.2.2 dX0_has_17
  · replace h := h.2 c
    refine lv_iconst (v := nI 1) hx hb dX0_has_12 kc_1 ?_
    refine lv_goto (tgt := 17) hx hb dX0_has_13 (by decide) ?_
    exact W.zret (v := nI 1) hx hb hr rfl (fun t ht hW => ⟨⟨_, (), rfl, h, ⟨by rw [ht]; exact hP, hD⟩⟩, hS.F ht⟩) hS.2.2 dX0_has_17
set_option maxHeartbeats 4000000 in
set_option maxRecDepth 100000 in
theorem c_X0_contains (l : Launch) (G : hcG) (sz : Nat) (x0 : Int32) (x1 : Int32) (post : Int32 → Prop) (h : wp_X0_contains post x0 x1) : Met l yX0_contains wsX0_contains ({ frames := 0, cells := 0, slots := 0, locals := 0 }) (hcPc G [.int x0, .int x1] [] sz) (va_Qi (fun (r : Int32) (u : Unit) => post r) (hcB G (va_A [] sz) (fun u : Unit => [])) (va_A [] sz)) 0 0 (va_A [] sz) := by
  refine Met.ofW (cc := cX0_contains) (maxL := 2) (ret := (some .boolean)) (by decide) rfl ?_
  intro p e s m args below meth c s₁ B hml hv
  obtain ⟨rfl, hsz, hP, hK, hD0⟩ := hv
  have hx := B.exec
  have hb := B.bytes
  have hr := B.returns
  have hts := atoms_spec (ws := wsX0_contains) B.pre
  have hown : s.vm.findClass RX0 = some m.cls := findClass_of_methodNamed B.named
  have hlocks := B.notSynchronized
  subst hsz
  have hD := hD0.self (sz := s.heap.size)
  generalize hAe : va_A [] s.heap.size = A at hD ⊢
  have hA : ∀ q : Nat, s.heap.size ≤ q → A q := fun q h => by rw [← hAe]; exact Or.inr h
  have hS : va_S A s.heap s.heap [] := va_S.rf
  have hP : va_P G.1 vwCl [] s.heap := hP
  have hl := lv_entry ([.int x0, .int x1]) (n := 2) (Nat.le_of_ble_eq_true rfl)
  rw [lg_entry_eq]
  generalize (lg_sl ([.int x0, .int x1]) ++ List.replicate (2 - (lg_sl ([.int x0, .int x1])).length) Slot.unset).toArray = ls at hl ⊢
  have hl : lv_has ls 2 [(0, .int x0), (1, .int x1)] := hl
  unfold wp_X0_contains at h
  refine lv_iload_n hx hb dX0_contains_0 rfl (lv_at hl 0 rfl) ?_
  refine lv_iload_n hx hb dX0_contains_1 rfl (lv_at hl 1 rfl) ?_
  refine lv_iushr (v := hcUshr x0 x1) hx hb dX0_contains_2 rfl ?_
  refine lv_iconst (v := nI 1) hx hb dX0_contains_3 kc_1 ?_
  refine lv_iand hx hb dX0_contains_4 ?_
  refine lv_iconst (v := nI 1) hx hb dX0_contains_5 kc_1 ?_
  refine lv_icmp_ne (tgt := 13) hx hb dX0_contains_6 (by decide) (fun c => ?_) (fun c => ?_)
  · replace h := h.1 c
    refine lv_iconst (v := nI 0) hx hb dX0_contains_13 kc_0 ?_
    exact W.zret (v := nI 0) hx hb hr rfl (fun t ht hW => ⟨⟨_, (), rfl, h, ⟨by rw [ht]; exact hP, hD⟩⟩, hS.F ht⟩) hS.2.2 dX0_contains_14
  · replace h := h.2 c
    refine lv_iconst (v := nI 1) hx hb dX0_contains_9 kc_1 ?_
    refine lv_goto (tgt := 14) hx hb dX0_contains_10 (by decide) ?_
    exact W.zret (v := nI 1) hx hb hr rfl (fun t ht hW => ⟨⟨_, (), rfl, h, ⟨by rw [ht]; exact hP, hD⟩⟩, hS.F ht⟩) hS.2.2 dX0_contains_14
set_option maxHeartbeats 4000000 in
set_option maxRecDepth 100000 in
theorem c_X0_reach (l : Launch) (G : hcG) (sz : Nat) (x0 : Int64) (x1 : Int32) (post : Int32 → Prop) (h : wp_X0_reach post x0 x1) : Met l yX0_reach wsX0_reach ({ frames := 1, cells := 0, slots := 0, locals := 22 }) (hcPc G [.long x0, .int x1] [] sz) (va_Qi (fun (r : Int32) (u : Unit) => post r) (hcB G (va_A [] sz) (fun u : Unit => [])) (va_A [] sz)) 0 0 (va_A [] sz) := by
  refine Met.ofW (cc := cX0_reach) (maxL := 5) (ret := (some .int)) (by decide) rfl ?_
  intro p e s m args below meth c s₁ B hml hv
  obtain ⟨rfl, hsz, hP, hK, hD0⟩ := hv
  have hx := B.exec
  have hb := B.bytes
  have hr := B.returns
  have hts := atoms_spec (ws := wsX0_reach) B.pre
  have hown : s.vm.findClass RX0 = some m.cls := findClass_of_methodNamed B.named
  have hlocks := B.notSynchronized
  subst hsz
  have hD := hD0.self (sz := s.heap.size)
  generalize hAe : va_A [] s.heap.size = A at hD ⊢
  have hA : ∀ q : Nat, s.heap.size ≤ q → A q := fun q h => by rw [← hAe]; exact Or.inr h
  have hS : va_S A s.heap s.heap [] := va_S.rf
  have hP : va_P G.1 vwCl [] s.heap := hP
  have hl := lv_entry ([.long x0, .int x1]) (n := 5) (Nat.le_of_ble_eq_true rfl)
  rw [lg_entry_eq]
  generalize (lg_sl ([.long x0, .int x1]) ++ List.replicate (5 - (lg_sl ([.long x0, .int x1])).length) Slot.unset).toArray = ls at hl ⊢
  have hl : lv_has ls 5 [(0, .long x0), (2, .int x1)] := hl
  have w5 : ∀ (n : Nat) (v3 : Int32) (v4 : Int32) , wp_X0_reach_5 post x0 x1 n v3 v4 → ∀ (H : Heap) (locs : List Loc) (ls : Array Slot), va_P G.1 vwCl [] H → va_D A [] → va_S A s.heap H locs → lv_has ls 5 [(0, .long x0), (2, .int x1), (3, .int v3), (4, .int v4)] → W p l e (headSpec wsX0_reach ({ frames := 1, cells := 0, slots := 0, locals := 22 })).room s m ([.long x0, .int x1] : List Value).toArray below meth c H locs 0 0 (MQ below (va_Qi (fun (r : Int32) (u : Unit) => post r) (hcB G A (fun u : Unit => [])) A) ([.long x0, .int x1] : List Value).toArray s 0 0 A) (F0 m 5 ls []) := by
    intro n
    induction n with
    | zero => intro v3 v4 h; exact h.elim
    | succ n ih =>
      intro v3 v4 h H locs ls hP hD hS hl
      unfold wp_X0_reach_5 at h
      refine lv_iload hx hb dX0_reach_5 (lv_at hl 3 rfl) ?_
      refine lv_bipush (v := nI 8) hx hb dX0_reach_7 kb_8 ?_
      refine lv_icmp_ge (tgt := 36) hx hb dX0_reach_9 (by decide) (fun c => ?_) (fun c => ?_)
      · replace h := h.1 c
        refine lv_iload_n hx hb dX0_reach_36 rfl (lv_at hl 2 rfl) ?_
        exact W.iret (v := v3) hx hb hr (fun t ht hW => ⟨⟨_, (), rfl, h, ⟨by rw [ht]; exact hP, hD⟩⟩, hS.F ht⟩) hS.2.2 dX0_reach_37
      · replace h := h.2 c
        refine lv_iload_n hx hb dX0_reach_12 rfl (lv_at hl 1 rfl) ?_
        refine lv_iload hx hb dX0_reach_13 (lv_at hl 3 rfl) ?_
        refine hc_ki (wr := []) (va_runS (As := [.int x1, .int v4]) (rest := []) ⟨hx, hb, hml, hown, hts⟩ (c_X0_contains l G H.size x1 v4 _ h) (va_cwS 2 hts gX0_reach_X0_contains rfl rfl rfl (by decide +kernel) ⟨Nat.le_of_ble_eq_true rfl, Nat.le_of_ble_eq_true rfl⟩) (hc_pS hK hP hD [] rfl rfl) rfl rfl hl.1 rfl (lv_room (Nat.le_of_ble_eq_true rfl)) dX0_reach_15 ⟨Nat.le_refl _, Nat.le_refl _⟩) hP hD hS hA [] [] rfl rfl rfl (by decide) (fun r15 u H locs h hP hD hS => ?_)
        try dsimp only at h
        have hP : va_P G.1 vwCl [] H := hP
        have hD : va_D A [] := hD
        refine lv_if_eq (tgt := 30) hx hb dX0_reach_18 (by decide) (fun c => ?_) (fun c => ?_)
        · replace h := h.1 c
          refine lv_iinc (v := v4 + nI 1) (lv' := [(4, .int (v4 + nI 1)), (0, .long x0), (2, .int x1), (3, .int v3)]) hx hb dX0_reach_30 hl (k := 3) rfl (congrArg (fun q => v4 + q) kc_1) (by decide) rfl (fun ls hl => ?_)
          refine lv_goto (tgt := 5) hx hb dX0_reach_33 (by decide) ?_
          exact ih v3 (v4 + nI 1) h _ _ _ hP hD hS (lv_sub hl [1, 2, 3, 0] rfl)
        · replace h := h.2 c
          refine lv_iload_n hx hb dX0_reach_21 rfl (lv_at hl 2 rfl) ?_
          refine lv_lload_n hx hb dX0_reach_22 rfl (lv_at hl 0 rfl) ?_
          refine lv_iload hx hb dX0_reach_23 (lv_at hl 3 rfl) ?_
          refine hc_ki (wr := []) (va_runS (As := [.long x0, .int v4]) (rest := [.int v3]) ⟨hx, hb, hml, hown, hts⟩ (c_X0_get l G H.size x0 v4 _ h) (va_cwS 2 hts gX0_reach_X0_get rfl rfl rfl (by decide +kernel) ⟨Nat.le_of_ble_eq_true rfl, Nat.le_of_ble_eq_true rfl⟩) (hc_pS hK hP hD [] rfl rfl) rfl rfl hl.1 rfl (lv_room (Nat.le_of_ble_eq_true rfl)) dX0_reach_25 ⟨Nat.le_refl _, Nat.le_refl _⟩) hP hD hS hA [] [] rfl rfl rfl (by decide) (fun r25 u H locs h hP hD hS => ?_)
          try dsimp only at h
          have hP : va_P G.1 vwCl [] H := hP
          have hD : va_D A [] := hD
          refine lv_ior hx hb dX0_reach_28 ?_
          refine lv_istore_n (lv' := [(3, .int (v3 ||| r25)), (0, .long x0), (2, .int x1), (4, .int v4)]) hx hb dX0_reach_29 rfl hl (by decide) rfl (fun ls hl => ?_)
          refine lv_iinc (v := v4 + nI 1) (lv' := [(4, .int (v4 + nI 1)), (3, .int (v3 ||| r25)), (0, .long x0), (2, .int x1)]) hx hb dX0_reach_30 hl (k := 3) rfl (congrArg (fun q => v4 + q) kc_1) (by decide) rfl (fun ls hl => ?_)
          refine lv_goto (tgt := 5) hx hb dX0_reach_33 (by decide) ?_
          exact ih (v3 ||| r25) (v4 + nI 1) h _ _ _ hP hD hS (lv_sub hl [2, 3, 1, 0] rfl)
  unfold wp_X0_reach at h
  refine lv_iconst (v := nI 0) hx hb dX0_reach_0 kc_0 ?_
  refine lv_istore_n (lv' := [(3, .int (nI 0)), (0, .long x0), (2, .int x1)]) hx hb dX0_reach_1 rfl hl (by decide) rfl (fun ls hl => ?_)
  refine lv_iconst (v := nI 0) hx hb dX0_reach_2 kc_0 ?_
  refine lv_istore (lv' := [(4, .int (nI 0)), (3, .int (nI 0)), (0, .long x0), (2, .int x1)]) hx hb dX0_reach_3 hl (by decide) rfl (fun ls hl => ?_)
  obtain ⟨n5, h⟩ := h
  exact w5  n5 (nI 0) (nI 0) h _ _ _ hP hD hS (lv_sub hl [2, 3, 1, 0] rfl)
set_option maxHeartbeats 4000000 in
set_option maxRecDepth 100000 in
theorem c_X0_joined (l : Launch) (G : hcG) (sz : Nat) (x0 : Int64) (x1 : Int64) (post : Int64 → Prop) (h : wp_X0_joined post x0 x1) : Met l yX0_joined wsX0_joined ({ frames := 2, cells := 0, slots := 0, locals := 46 }) (hcPc G [.long x0, .long x1] [] sz) (va_Ql (fun (r : Int64) (u : Unit) => post r) (hcB G (va_A [] sz) (fun u : Unit => [])) (va_A [] sz)) 0 0 (va_A [] sz) := by
  refine Met.ofW (cc := cX0_joined) (maxL := 7) (ret := (some .long)) (by decide) rfl ?_
  intro p e s m args below meth c s₁ B hml hv
  obtain ⟨rfl, hsz, hP, hK, hD0⟩ := hv
  have hx := B.exec
  have hb := B.bytes
  have hr := B.returns
  have hts := atoms_spec (ws := wsX0_joined) B.pre
  have hown : s.vm.findClass RX0 = some m.cls := findClass_of_methodNamed B.named
  have hlocks := B.notSynchronized
  subst hsz
  have hD := hD0.self (sz := s.heap.size)
  generalize hAe : va_A [] s.heap.size = A at hD ⊢
  have hA : ∀ q : Nat, s.heap.size ≤ q → A q := fun q h => by rw [← hAe]; exact Or.inr h
  have hS : va_S A s.heap s.heap [] := va_S.rf
  have hP : va_P G.1 vwCl [] s.heap := hP
  have hl := lv_entry ([.long x0, .long x1]) (n := 7) (Nat.le_of_ble_eq_true rfl)
  rw [lg_entry_eq]
  generalize (lg_sl ([.long x0, .long x1]) ++ List.replicate (7 - (lg_sl ([.long x0, .long x1])).length) Slot.unset).toArray = ls at hl ⊢
  have hl : lv_has ls 7 [(0, .long x0), (2, .long x1)] := hl
  have w6 : ∀ (n : Nat) (v4 : Int64) (v6 : Int32) , wp_X0_joined_6 post x0 x1 n v4 v6 → ∀ (H : Heap) (locs : List Loc) (ls : Array Slot), va_P G.1 vwCl [] H → va_D A [] → va_S A s.heap H locs → lv_has ls 7 [(0, .long x0), (2, .long x1), (4, .long v4), (6, .int v6)] → W p l e (headSpec wsX0_joined ({ frames := 2, cells := 0, slots := 0, locals := 46 })).room s m ([.long x0, .long x1] : List Value).toArray below meth c H locs 0 0 (MQ below (va_Ql (fun (r : Int64) (u : Unit) => post r) (hcB G A (fun u : Unit => [])) A) ([.long x0, .long x1] : List Value).toArray s 0 0 A) (F0 m 6 ls []) := by
    intro n
    induction n with
    | zero => intro v4 v6 h; exact h.elim
    | succ n ih =>
      intro v4 v6 h H locs ls hP hD hS hl
      unfold wp_X0_joined_6 at h
      refine lv_iload hx hb dX0_joined_6 (lv_at hl 3 rfl) ?_
      refine lv_bipush (v := nI 8) hx hb dX0_joined_8 kb_8 ?_
      refine lv_icmp_ge (tgt := 38) hx hb dX0_joined_10 (by decide) (fun c => ?_) (fun c => ?_)
      · replace h := h.1 c
        refine lv_lload hx hb dX0_joined_38 (lv_at hl 2 rfl) ?_
        exact W.lret (v := v4) hx hb hr (fun t ht hW => ⟨⟨_, (), rfl, h, ⟨by rw [ht]; exact hP, hD⟩⟩, hS.F ht⟩) hS.2.2 dX0_joined_40
      · replace h := h.2 c
        refine lv_lload hx hb dX0_joined_13 (lv_at hl 2 rfl) ?_
        refine lv_iload hx hb dX0_joined_15 (lv_at hl 3 rfl) ?_
        refine lv_lload_n hx hb dX0_joined_17 rfl (lv_at hl 1 rfl) ?_
        refine lv_lload_n hx hb dX0_joined_18 rfl (lv_at hl 0 rfl) ?_
        refine lv_iload hx hb dX0_joined_19 (lv_at hl 3 rfl) ?_
        refine hc_ki (wr := []) (va_runS (As := [.long x0, .int v6]) (rest := [.long x1, .int v6, .long v4]) ⟨hx, hb, hml, hown, hts⟩ (c_X0_get l G H.size x0 v6 _ h) (va_cwS 2 hts gX0_joined_X0_get rfl rfl rfl (by decide +kernel) ⟨Nat.le_of_ble_eq_true rfl, Nat.le_of_ble_eq_true rfl⟩) (hc_pS hK hP hD [] rfl rfl) rfl rfl hl.1 rfl (lv_room (Nat.le_of_ble_eq_true rfl)) dX0_joined_21 ⟨Nat.le_refl _, Nat.le_refl _⟩) hP hD hS hA [] [] rfl rfl rfl (by decide) (fun r21 u H locs h hP hD hS => ?_)
        try dsimp only at h
        have hP : va_P G.1 vwCl [] H := hP
        have hD : va_D A [] := hD
        refine hc_ki (wr := []) (va_runS (As := [.long x1, .int r21]) (rest := [.int v6, .long v4]) ⟨hx, hb, hml, hown, hts⟩ (c_X0_reach l G H.size x1 r21 _ h) (va_cwS 2 hts gX0_joined_X0_reach rfl rfl rfl (by decide +kernel) ⟨Nat.le_of_ble_eq_true rfl, Nat.le_of_ble_eq_true rfl⟩) (hc_pS hK hP hD [] rfl rfl) rfl rfl hl.1 rfl (lv_room (Nat.le_of_ble_eq_true rfl)) dX0_joined_24 ⟨Nat.le_refl _, Nat.le_refl _⟩) hP hD hS hA [] [] rfl rfl rfl (by decide) (fun r24 u H locs h hP hD hS => ?_)
        try dsimp only at h
        have hP : va_P G.1 vwCl [] H := hP
        have hD : va_D A [] := hD
        refine hc_kl (wr := []) (va_runS (As := [.long v4, .int v6, .int r24]) (rest := []) ⟨hx, hb, hml, hown, hts⟩ (c_X0_with l G H.size v4 v6 r24 _ h) (va_cwS 3 hts gX0_joined_X0_with rfl rfl rfl (by decide +kernel) ⟨Nat.le_of_ble_eq_true rfl, Nat.le_of_ble_eq_true rfl⟩) (hc_pS hK hP hD [] rfl rfl) rfl rfl hl.1 rfl (lv_room (Nat.le_of_ble_eq_true rfl)) dX0_joined_27 ⟨Nat.le_refl _, Nat.le_refl _⟩) hP hD hS hA [] [] rfl rfl rfl (by decide) (fun r27 u H locs h hP hD hS => ?_)
        try dsimp only at h
        have hP : va_P G.1 vwCl [] H := hP
        have hD : va_D A [] := hD
        refine lv_lstore (lv' := [(4, .long r27), (0, .long x0), (2, .long x1), (6, .int v6)]) hx hb dX0_joined_30 hl (by decide) rfl (fun ls hl => ?_)
        refine lv_iinc (v := v6 + nI 1) (lv' := [(6, .int (v6 + nI 1)), (4, .long r27), (0, .long x0), (2, .long x1)]) hx hb dX0_joined_32 hl (k := 3) rfl (congrArg (fun q => v6 + q) kc_1) (by decide) rfl (fun ls hl => ?_)
        refine lv_goto (tgt := 6) hx hb dX0_joined_35 (by decide) ?_
        exact ih r27 (v6 + nI 1) h _ _ _ hP hD hS (lv_sub hl [2, 3, 1, 0] rfl)
  unfold wp_X0_joined at h
  refine lv_lconst (v := lN 0) hx hb dX0_joined_0 kl_0 ?_
  refine lv_lstore (lv' := [(4, .long (lN 0)), (0, .long x0), (2, .long x1)]) hx hb dX0_joined_1 hl (by decide) rfl (fun ls hl => ?_)
  refine lv_iconst (v := nI 0) hx hb dX0_joined_3 kc_0 ?_
  refine lv_istore (lv' := [(6, .int (nI 0)), (4, .long (lN 0)), (0, .long x0), (2, .long x1)]) hx hb dX0_joined_4 hl (by decide) rfl (fun ls hl => ?_)
  obtain ⟨n6, h⟩ := h
  exact w6  n6 (lN 0) (nI 0) h _ _ _ hP hD hS (lv_sub hl [2, 3, 1, 0] rfl)
set_option maxHeartbeats 4000000 in
set_option maxRecDepth 100000 in
theorem c_X0_turned (l : Launch) (G : hcG) (sz : Nat) (x0 : Int64) (post : Int64 → Prop) (h : wp_X0_turned post x0) : Met l yX0_turned wsX0_turned ({ frames := 2, cells := 0, slots := 0, locals := 44 }) (hcPc G [.long x0] [] sz) (va_Ql (fun (r : Int64) (u : Unit) => post r) (hcB G (va_A [] sz) (fun u : Unit => [])) (va_A [] sz)) 0 0 (va_A [] sz) := by
  refine Met.ofW (cc := cX0_turned) (maxL := 6) (ret := (some .long)) (by decide) rfl ?_
  intro p e s m args below meth c s₁ B hml hv
  obtain ⟨rfl, hsz, hP, hK, hD0⟩ := hv
  have hx := B.exec
  have hb := B.bytes
  have hr := B.returns
  have hts := atoms_spec (ws := wsX0_turned) B.pre
  have hown : s.vm.findClass RX0 = some m.cls := findClass_of_methodNamed B.named
  have hlocks := B.notSynchronized
  subst hsz
  have hD := hD0.self (sz := s.heap.size)
  generalize hAe : va_A [] s.heap.size = A at hD ⊢
  have hA : ∀ q : Nat, s.heap.size ≤ q → A q := fun q h => by rw [← hAe]; exact Or.inr h
  have hS : va_S A s.heap s.heap [] := va_S.rf
  have hP : va_P G.1 vwCl [] s.heap := hP
  have hl := lv_entry ([.long x0]) (n := 6) (Nat.le_of_ble_eq_true rfl)
  rw [lg_entry_eq]
  generalize (lg_sl ([.long x0]) ++ List.replicate (6 - (lg_sl ([.long x0])).length) Slot.unset).toArray = ls at hl ⊢
  have hl : lv_has ls 6 [(0, .long x0)] := hl
  have w15 : ∀ (K5 : Int64 → Int32 → Prop), (∀ (v2 : Int64) (v4 : Int32) , K5 v2 v4 → ∀ (H : Heap) (locs : List Loc) (ls : Array Slot), va_P G.1 vwCl [] H → va_D A [] → va_S A s.heap H locs → lv_has ls 6 [(0, .long x0), (2, .long v2), (4, .int v4)] → W p l e (headSpec wsX0_turned ({ frames := 2, cells := 0, slots := 0, locals := 44 })).room s m ([.long x0] : List Value).toArray below meth c H locs 0 0 (MQ below (va_Ql (fun (r : Int64) (u : Unit) => post r) (hcB G A (fun u : Unit => [])) A) ([.long x0] : List Value).toArray s 0 0 A) (F0 m 5 ls [])) → ∀ (n : Nat) (v2 : Int64) (v4 : Int32) (v5 : Int32) , wp_X0_turned_15 post x0 K5 n v2 v4 v5 → ∀ (H : Heap) (locs : List Loc) (ls : Array Slot), va_P G.1 vwCl [] H → va_D A [] → va_S A s.heap H locs → lv_has ls 6 [(0, .long x0), (2, .long v2), (4, .int v4), (5, .int v5)] → W p l e (headSpec wsX0_turned ({ frames := 2, cells := 0, slots := 0, locals := 44 })).room s m ([.long x0] : List Value).toArray below meth c H locs 0 0 (MQ below (va_Ql (fun (r : Int64) (u : Unit) => post r) (hcB G A (fun u : Unit => [])) A) ([.long x0] : List Value).toArray s 0 0 A) (F0 m 15 ls []) := by
    intro K5 hK5 n
    induction n with
    | zero => intro v2 v4 v5 h; exact h.elim
    | succ n ih =>
      intro v2 v4 v5 h H locs ls hP hD hS hl
      unfold wp_X0_turned_15 at h
      refine lv_iload hx hb dX0_turned_15 (lv_at hl 3 rfl) ?_
      refine lv_bipush (v := nI 8) hx hb dX0_turned_17 kb_8 ?_
      refine lv_icmp_ge (tgt := 49) hx hb dX0_turned_19 (by decide) (fun c => ?_) (fun c => ?_)
      · replace h := h.1 c
        refine lv_iinc (v := v4 + nI 1) (lv' := [(4, .int (v4 + nI 1)), (0, .long x0), (2, .long v2), (5, .int v5)]) hx hb dX0_turned_49 hl (k := 2) rfl (congrArg (fun q => v4 + q) kc_1) (by decide) rfl (fun ls hl => ?_)
        refine lv_goto (tgt := 5) hx hb dX0_turned_52 (by decide) ?_
        exact hK5 v2 (v4 + nI 1) h _ _ _ hP hD hS (lv_sub hl [1, 2, 0] rfl)
      · replace h := h.2 c
        refine lv_lload_n hx hb dX0_turned_22 rfl (lv_at hl 0 rfl) ?_
        refine lv_iload hx hb dX0_turned_23 (lv_at hl 2 rfl) ?_
        refine lv_iload hx hb dX0_turned_25 (lv_at hl 3 rfl) ?_
        refine hc_ki (wr := []) (va_runS (As := [.long x0, .int v4, .int v5]) (rest := []) ⟨hx, hb, hml, hown, hts⟩ (c_X0_has l G H.size x0 v4 v5 _ h) (va_cwS 3 hts gX0_turned_X0_has rfl rfl rfl (by decide +kernel) ⟨Nat.le_of_ble_eq_true rfl, Nat.le_of_ble_eq_true rfl⟩) (hc_pS hK hP hD [] rfl rfl) rfl rfl hl.1 rfl (lv_room (Nat.le_of_ble_eq_true rfl)) dX0_turned_27 ⟨Nat.le_refl _, Nat.le_refl _⟩) hP hD hS hA [] [] rfl rfl rfl (by decide) (fun r27 u H locs h hP hD hS => ?_)
        try dsimp only at h
        have hP : va_P G.1 vwCl [] H := hP
        have hD : va_D A [] := hD
        refine lv_if_eq (tgt := 43) hx hb dX0_turned_30 (by decide) (fun c => ?_) (fun c => ?_)
        · replace h := h.1 c
          refine lv_iinc (v := v5 + nI 1) (lv' := [(5, .int (v5 + nI 1)), (0, .long x0), (2, .long v2), (4, .int v4)]) hx hb dX0_turned_43 hl (k := 3) rfl (congrArg (fun q => v5 + q) kc_1) (by decide) rfl (fun ls hl => ?_)
          refine lv_goto (tgt := 15) hx hb dX0_turned_46 (by decide) ?_
          exact ih v2 v4 (v5 + nI 1) h _ _ _ hP hD hS (lv_sub hl [1, 2, 3, 0] rfl)
        · replace h := h.2 c
          refine lv_lload_n hx hb dX0_turned_33 rfl (lv_at hl 1 rfl) ?_
          refine lv_iload hx hb dX0_turned_34 (lv_at hl 3 rfl) ?_
          refine lv_iload hx hb dX0_turned_36 (lv_at hl 2 rfl) ?_
          refine hc_kl (wr := []) (va_runS (As := [.int v5, .int v4]) (rest := [.long v2]) ⟨hx, hb, hml, hown, hts⟩ (c_X0_pair l G H.size v5 v4 _ h) (va_cwS 2 hts gX0_turned_X0_pair rfl rfl rfl (by decide +kernel) ⟨Nat.le_of_ble_eq_true rfl, Nat.le_of_ble_eq_true rfl⟩) (hc_pS hK hP hD [] rfl rfl) rfl rfl hl.1 rfl (lv_room (Nat.le_of_ble_eq_true rfl)) dX0_turned_38 ⟨Nat.le_refl _, Nat.le_refl _⟩) hP hD hS hA [] [] rfl rfl rfl (by decide) (fun r38 u H locs h hP hD hS => ?_)
          try dsimp only at h
          have hP : va_P G.1 vwCl [] H := hP
          have hD : va_D A [] := hD
          refine lv_lor hx hb dX0_turned_41 ?_
          refine lv_lstore_n (lv' := [(2, .long (v2 ||| r38)), (0, .long x0), (4, .int v4), (5, .int v5)]) hx hb dX0_turned_42 rfl hl (by decide) rfl (fun ls hl => ?_)
          refine lv_iinc (v := v5 + nI 1) (lv' := [(5, .int (v5 + nI 1)), (2, .long (v2 ||| r38)), (0, .long x0), (4, .int v4)]) hx hb dX0_turned_43 hl (k := 3) rfl (congrArg (fun q => v5 + q) kc_1) (by decide) rfl (fun ls hl => ?_)
          refine lv_goto (tgt := 15) hx hb dX0_turned_46 (by decide) ?_
          exact ih (v2 ||| r38) v4 (v5 + nI 1) h _ _ _ hP hD hS (lv_sub hl [2, 1, 3, 0] rfl)
  have w5 : ∀ (n : Nat) (v2 : Int64) (v4 : Int32) , wp_X0_turned_5 post x0 n v2 v4 → ∀ (H : Heap) (locs : List Loc) (ls : Array Slot), va_P G.1 vwCl [] H → va_D A [] → va_S A s.heap H locs → lv_has ls 6 [(0, .long x0), (2, .long v2), (4, .int v4)] → W p l e (headSpec wsX0_turned ({ frames := 2, cells := 0, slots := 0, locals := 44 })).room s m ([.long x0] : List Value).toArray below meth c H locs 0 0 (MQ below (va_Ql (fun (r : Int64) (u : Unit) => post r) (hcB G A (fun u : Unit => [])) A) ([.long x0] : List Value).toArray s 0 0 A) (F0 m 5 ls []) := by
    intro n
    induction n with
    | zero => intro v2 v4 h; exact h.elim
    | succ n ih =>
      intro v2 v4 h H locs ls hP hD hS hl
      unfold wp_X0_turned_5 at h
      refine lv_iload hx hb dX0_turned_5 (lv_at hl 2 rfl) ?_
      refine lv_bipush (v := nI 8) hx hb dX0_turned_7 kb_8 ?_
      refine lv_icmp_ge (tgt := 55) hx hb dX0_turned_9 (by decide) (fun c => ?_) (fun c => ?_)
      · replace h := h.1 c
        refine lv_lload_n hx hb dX0_turned_55 rfl (lv_at hl 1 rfl) ?_
        exact W.lret (v := v2) hx hb hr (fun t ht hW => ⟨⟨_, (), rfl, h, ⟨by rw [ht]; exact hP, hD⟩⟩, hS.F ht⟩) hS.2.2 dX0_turned_56
      · replace h := h.2 c
        refine lv_iconst (v := nI 0) hx hb dX0_turned_12 kc_0 ?_
        refine lv_istore (lv' := [(5, .int (nI 0)), (0, .long x0), (2, .long v2), (4, .int v4)]) hx hb dX0_turned_13 hl (by decide) rfl (fun ls hl => ?_)
        obtain ⟨n15, h⟩ := h
        exact w15 ((wp_X0_turned_5 post x0 n)) ih n15 v2 v4 (nI 0) h _ _ _ hP hD hS (lv_sub hl [1, 2, 3, 0] rfl)
  unfold wp_X0_turned at h
  refine lv_lconst (v := lN 0) hx hb dX0_turned_0 kl_0 ?_
  refine lv_lstore_n (lv' := [(2, .long (lN 0)), (0, .long x0)]) hx hb dX0_turned_1 rfl hl (by decide) rfl (fun ls hl => ?_)
  refine lv_iconst (v := nI 0) hx hb dX0_turned_2 kc_0 ?_
  refine lv_istore (lv' := [(4, .int (nI 0)), (2, .long (lN 0)), (0, .long x0)]) hx hb dX0_turned_3 hl (by decide) rfl (fun ls hl => ?_)
  obtain ⟨n5, h⟩ := h
  exact w5  n5 (lN 0) (nI 0) h _ _ _ hP hD hS (lv_sub hl [2, 1, 0] rfl)
set_option maxHeartbeats 4000000 in
set_option maxRecDepth 100000 in
theorem c_X0_within (l : Launch) (G : hcG) (sz : Nat) (x0 : Int64) (x1 : Int32) (post : Int64 → Prop) (h : wp_X0_within post x0 x1) : Met l yX0_within wsX0_within ({ frames := 1, cells := 0, slots := 0, locals := 24 }) (hcPc G [.long x0, .int x1] [] sz) (va_Ql (fun (r : Int64) (u : Unit) => post r) (hcB G (va_A [] sz) (fun u : Unit => [])) (va_A [] sz)) 0 0 (va_A [] sz) := by
  refine Met.ofW (cc := cX0_within) (maxL := 6) (ret := (some .long)) (by decide) rfl ?_
  intro p e s m args below meth c s₁ B hml hv
  obtain ⟨rfl, hsz, hP, hK, hD0⟩ := hv
  have hx := B.exec
  have hb := B.bytes
  have hr := B.returns
  have hts := atoms_spec (ws := wsX0_within) B.pre
  have hown : s.vm.findClass RX0 = some m.cls := findClass_of_methodNamed B.named
  have hlocks := B.notSynchronized
  subst hsz
  have hD := hD0.self (sz := s.heap.size)
  generalize hAe : va_A [] s.heap.size = A at hD ⊢
  have hA : ∀ q : Nat, s.heap.size ≤ q → A q := fun q h => by rw [← hAe]; exact Or.inr h
  have hS : va_S A s.heap s.heap [] := va_S.rf
  have hP : va_P G.1 vwCl [] s.heap := hP
  have hl := lv_entry ([.long x0, .int x1]) (n := 6) (Nat.le_of_ble_eq_true rfl)
  rw [lg_entry_eq]
  generalize (lg_sl ([.long x0, .int x1]) ++ List.replicate (6 - (lg_sl ([.long x0, .int x1])).length) Slot.unset).toArray = ls at hl ⊢
  have hl : lv_has ls 6 [(0, .long x0), (2, .int x1)] := hl
  have w5 : ∀ (n : Nat) (v3 : Int64) (v5 : Int32) , wp_X0_within_5 post x0 x1 n v3 v5 → ∀ (H : Heap) (locs : List Loc) (ls : Array Slot), va_P G.1 vwCl [] H → va_D A [] → va_S A s.heap H locs → lv_has ls 6 [(0, .long x0), (2, .int x1), (3, .long v3), (5, .int v5)] → W p l e (headSpec wsX0_within ({ frames := 1, cells := 0, slots := 0, locals := 24 })).room s m ([.long x0, .int x1] : List Value).toArray below meth c H locs 0 0 (MQ below (va_Ql (fun (r : Int64) (u : Unit) => post r) (hcB G A (fun u : Unit => [])) A) ([.long x0, .int x1] : List Value).toArray s 0 0 A) (F0 m 5 ls []) := by
    intro n
    induction n with
    | zero => intro v3 v5 h; exact h.elim
    | succ n ih =>
      intro v3 v5 h H locs ls hP hD hS hl
      unfold wp_X0_within_5 at h
      refine lv_iload hx hb dX0_within_5 (lv_at hl 3 rfl) ?_
      refine lv_bipush (v := nI 8) hx hb dX0_within_7 kb_8 ?_
      refine lv_icmp_ge (tgt := 42) hx hb dX0_within_9 (by decide) (fun c => ?_) (fun c => ?_)
      · replace h := h.1 c
        refine lv_lload_n hx hb dX0_within_42 rfl (lv_at hl 2 rfl) ?_
        exact W.lret (v := v3) hx hb hr (fun t ht hW => ⟨⟨_, (), rfl, h, ⟨by rw [ht]; exact hP, hD⟩⟩, hS.F ht⟩) hS.2.2 dX0_within_43
      · replace h := h.2 c
        refine lv_iload_n hx hb dX0_within_12 rfl (lv_at hl 1 rfl) ?_
        refine lv_iload hx hb dX0_within_13 (lv_at hl 3 rfl) ?_
        refine hc_ki (wr := []) (va_runS (As := [.int x1, .int v5]) (rest := []) ⟨hx, hb, hml, hown, hts⟩ (c_X0_contains l G H.size x1 v5 _ h) (va_cwS 2 hts gX0_within_X0_contains rfl rfl rfl (by decide +kernel) ⟨Nat.le_of_ble_eq_true rfl, Nat.le_of_ble_eq_true rfl⟩) (hc_pS hK hP hD [] rfl rfl) rfl rfl hl.1 rfl (lv_room (Nat.le_of_ble_eq_true rfl)) dX0_within_15 ⟨Nat.le_refl _, Nat.le_refl _⟩) hP hD hS hA [] [] rfl rfl rfl (by decide) (fun r15 u H locs h hP hD hS => ?_)
        try dsimp only at h
        have hP : va_P G.1 vwCl [] H := hP
        have hD : va_D A [] := hD
        refine lv_if_eq (tgt := 36) hx hb dX0_within_18 (by decide) (fun c => ?_) (fun c => ?_)
        · replace h := h.1 c
          refine lv_iinc (v := v5 + nI 1) (lv' := [(5, .int (v5 + nI 1)), (0, .long x0), (2, .int x1), (3, .long v3)]) hx hb dX0_within_36 hl (k := 3) rfl (congrArg (fun q => v5 + q) kc_1) (by decide) rfl (fun ls hl => ?_)
          refine lv_goto (tgt := 5) hx hb dX0_within_39 (by decide) ?_
          exact ih v3 (v5 + nI 1) h _ _ _ hP hD hS (lv_sub hl [1, 2, 3, 0] rfl)
        · replace h := h.2 c
          refine lv_lload_n hx hb dX0_within_21 rfl (lv_at hl 2 rfl) ?_
          refine lv_iload hx hb dX0_within_22 (lv_at hl 3 rfl) ?_
          refine lv_lload_n hx hb dX0_within_24 rfl (lv_at hl 0 rfl) ?_
          refine lv_iload hx hb dX0_within_25 (lv_at hl 3 rfl) ?_
          refine hc_ki (wr := []) (va_runS (As := [.long x0, .int v5]) (rest := [.int v5, .long v3]) ⟨hx, hb, hml, hown, hts⟩ (c_X0_get l G H.size x0 v5 _ h) (va_cwS 2 hts gX0_within_X0_get rfl rfl rfl (by decide +kernel) ⟨Nat.le_of_ble_eq_true rfl, Nat.le_of_ble_eq_true rfl⟩) (hc_pS hK hP hD [] rfl rfl) rfl rfl hl.1 rfl (lv_room (Nat.le_of_ble_eq_true rfl)) dX0_within_27 ⟨Nat.le_refl _, Nat.le_refl _⟩) hP hD hS hA [] [] rfl rfl rfl (by decide) (fun r27 u H locs h hP hD hS => ?_)
          try dsimp only at h
          have hP : va_P G.1 vwCl [] H := hP
          have hD : va_D A [] := hD
          refine lv_iload_n hx hb dX0_within_30 rfl (lv_at hl 1 rfl) ?_
          refine lv_iand hx hb dX0_within_31 ?_
          refine hc_kl (wr := []) (va_runS (As := [.long v3, .int v5, .int (r27 &&& x1)]) (rest := []) ⟨hx, hb, hml, hown, hts⟩ (c_X0_with l G H.size v3 v5 (r27 &&& x1) _ h) (va_cwS 3 hts gX0_within_X0_with rfl rfl rfl (by decide +kernel) ⟨Nat.le_of_ble_eq_true rfl, Nat.le_of_ble_eq_true rfl⟩) (hc_pS hK hP hD [] rfl rfl) rfl rfl hl.1 rfl (lv_room (Nat.le_of_ble_eq_true rfl)) dX0_within_32 ⟨Nat.le_refl _, Nat.le_refl _⟩) hP hD hS hA [] [] rfl rfl rfl (by decide) (fun r32 u H locs h hP hD hS => ?_)
          try dsimp only at h
          have hP : va_P G.1 vwCl [] H := hP
          have hD : va_D A [] := hD
          refine lv_lstore_n (lv' := [(3, .long r32), (0, .long x0), (2, .int x1), (5, .int v5)]) hx hb dX0_within_35 rfl hl (by decide) rfl (fun ls hl => ?_)
          refine lv_iinc (v := v5 + nI 1) (lv' := [(5, .int (v5 + nI 1)), (3, .long r32), (0, .long x0), (2, .int x1)]) hx hb dX0_within_36 hl (k := 3) rfl (congrArg (fun q => v5 + q) kc_1) (by decide) rfl (fun ls hl => ?_)
          refine lv_goto (tgt := 5) hx hb dX0_within_39 (by decide) ?_
          exact ih r32 (v5 + nI 1) h _ _ _ hP hD hS (lv_sub hl [2, 3, 1, 0] rfl)
  unfold wp_X0_within at h
  refine lv_lconst (v := lN 0) hx hb dX0_within_0 kl_0 ?_
  refine lv_lstore_n (lv' := [(3, .long (lN 0)), (0, .long x0), (2, .int x1)]) hx hb dX0_within_1 rfl hl (by decide) rfl (fun ls hl => ?_)
  refine lv_iconst (v := nI 0) hx hb dX0_within_2 kc_0 ?_
  refine lv_istore (lv' := [(5, .int (nI 0)), (3, .long (lN 0)), (0, .long x0), (2, .int x1)]) hx hb dX0_within_3 hl (by decide) rfl (fun ls hl => ?_)
  obtain ⟨n5, h⟩ := h
  exact w5  n5 (lN 0) (nI 0) h _ _ _ hP hD hS (lv_sub hl [2, 3, 1, 0] rfl)
set_option maxHeartbeats 4000000 in
set_option maxRecDepth 100000 in
theorem c_X0_closed (l : Launch) (G : hcG) (sz : Nat) (x0 : Int64) (post : Int64 → Prop) (h : wp_X0_closed post x0) : Met l yX0_closed wsX0_closed ({ frames := 2, cells := 0, slots := 0, locals := 44 }) (hcPc G [.long x0] [] sz) (va_Ql (fun (r : Int64) (u : Unit) => post r) (hcB G (va_A [] sz) (fun u : Unit => [])) (va_A [] sz)) 0 0 (va_A [] sz) := by
  refine Met.ofW (cc := cX0_closed) (maxL := 6) (ret := (some .long)) (by decide) rfl ?_
  intro p e s m args below meth c s₁ B hml hv
  obtain ⟨rfl, hsz, hP, hK, hD0⟩ := hv
  have hx := B.exec
  have hb := B.bytes
  have hr := B.returns
  have hts := atoms_spec (ws := wsX0_closed) B.pre
  have hown : s.vm.findClass RX0 = some m.cls := findClass_of_methodNamed B.named
  have hlocks := B.notSynchronized
  subst hsz
  have hD := hD0.self (sz := s.heap.size)
  generalize hAe : va_A [] s.heap.size = A at hD ⊢
  have hA : ∀ q : Nat, s.heap.size ≤ q → A q := fun q h => by rw [← hAe]; exact Or.inr h
  have hS : va_S A s.heap s.heap [] := va_S.rf
  have hP : va_P G.1 vwCl [] s.heap := hP
  have hl := lv_entry ([.long x0]) (n := 6) (Nat.le_of_ble_eq_true rfl)
  rw [lg_entry_eq]
  generalize (lg_sl ([.long x0]) ++ List.replicate (6 - (lg_sl ([.long x0])).length) Slot.unset).toArray = ls at hl ⊢
  have hl : lv_has ls 6 [(0, .long x0)] := hl
  have w15 : ∀ (K5 : Int64 → Int32 → Prop), (∀ (v2 : Int64) (v4 : Int32) , K5 v2 v4 → ∀ (H : Heap) (locs : List Loc) (ls : Array Slot), va_P G.1 vwCl [] H → va_D A [] → va_S A s.heap H locs → lv_has ls 6 [(2, .long v2), (4, .int v4)] → W p l e (headSpec wsX0_closed ({ frames := 2, cells := 0, slots := 0, locals := 44 })).room s m ([.long x0] : List Value).toArray below meth c H locs 0 0 (MQ below (va_Ql (fun (r : Int64) (u : Unit) => post r) (hcB G A (fun u : Unit => [])) A) ([.long x0] : List Value).toArray s 0 0 A) (F0 m 5 ls [])) → ∀ (n : Nat) (v2 : Int64) (v4 : Int32) (v5 : Int32) , wp_X0_closed_15 post x0 K5 n v2 v4 v5 → ∀ (H : Heap) (locs : List Loc) (ls : Array Slot), va_P G.1 vwCl [] H → va_D A [] → va_S A s.heap H locs → lv_has ls 6 [(2, .long v2), (4, .int v4), (5, .int v5)] → W p l e (headSpec wsX0_closed ({ frames := 2, cells := 0, slots := 0, locals := 44 })).room s m ([.long x0] : List Value).toArray below meth c H locs 0 0 (MQ below (va_Ql (fun (r : Int64) (u : Unit) => post r) (hcB G A (fun u : Unit => [])) A) ([.long x0] : List Value).toArray s 0 0 A) (F0 m 15 ls []) := by
    intro K5 hK5 n
    induction n with
    | zero => intro v2 v4 v5 h; exact h.elim
    | succ n ih =>
      intro v2 v4 v5 h H locs ls hP hD hS hl
      unfold wp_X0_closed_15 at h
      refine lv_iload hx hb dX0_closed_15 (lv_at hl 2 rfl) ?_
      refine lv_bipush (v := nI 8) hx hb dX0_closed_17 kb_8 ?_
      refine lv_icmp_ge (tgt := 59) hx hb dX0_closed_19 (by decide) (fun c => ?_) (fun c => ?_)
      · replace h := h.1 c
        refine lv_iinc (v := v4 + nI 1) (lv' := [(4, .int (v4 + nI 1)), (2, .long v2), (5, .int v5)]) hx hb dX0_closed_59 hl (k := 1) rfl (congrArg (fun q => v4 + q) kc_1) (by decide) rfl (fun ls hl => ?_)
        refine lv_goto (tgt := 5) hx hb dX0_closed_62 (by decide) ?_
        exact hK5 v2 (v4 + nI 1) h _ _ _ hP hD hS (lv_sub hl [1, 0] rfl)
      · replace h := h.2 c
        refine lv_lload_n hx hb dX0_closed_22 rfl (lv_at hl 0 rfl) ?_
        refine lv_iload hx hb dX0_closed_23 (lv_at hl 2 rfl) ?_
        refine lv_iload hx hb dX0_closed_25 (lv_at hl 1 rfl) ?_
        refine hc_ki (wr := []) (va_runS (As := [.long v2, .int v5, .int v4]) (rest := []) ⟨hx, hb, hml, hown, hts⟩ (c_X0_has l G H.size v2 v5 v4 _ h) (va_cwS 3 hts gX0_closed_X0_has rfl rfl rfl (by decide +kernel) ⟨Nat.le_of_ble_eq_true rfl, Nat.le_of_ble_eq_true rfl⟩) (hc_pS hK hP hD [] rfl rfl) rfl rfl hl.1 rfl (lv_room (Nat.le_of_ble_eq_true rfl)) dX0_closed_27 ⟨Nat.le_refl _, Nat.le_refl _⟩) hP hD hS hA [] [] rfl rfl rfl (by decide) (fun r27 u H locs h hP hD hS => ?_)
        try dsimp only at h
        have hP : va_P G.1 vwCl [] H := hP
        have hD : va_D A [] := hD
        refine lv_if_eq (tgt := 53) hx hb dX0_closed_30 (by decide) (fun c => ?_) (fun c => ?_)
        · replace h := h.1 c
          refine lv_iinc (v := v5 + nI 1) (lv' := [(5, .int (v5 + nI 1)), (2, .long v2), (4, .int v4)]) hx hb dX0_closed_53 hl (k := 2) rfl (congrArg (fun q => v5 + q) kc_1) (by decide) rfl (fun ls hl => ?_)
          refine lv_goto (tgt := 15) hx hb dX0_closed_56 (by decide) ?_
          exact ih v2 v4 (v5 + nI 1) h _ _ _ hP hD hS (lv_sub hl [1, 2, 0] rfl)
        · replace h := h.2 c
          refine lv_lload_n hx hb dX0_closed_33 rfl (lv_at hl 0 rfl) ?_
          refine lv_iload hx hb dX0_closed_34 (lv_at hl 2 rfl) ?_
          refine lv_lload_n hx hb dX0_closed_36 rfl (lv_at hl 0 rfl) ?_
          refine lv_iload hx hb dX0_closed_37 (lv_at hl 2 rfl) ?_
          refine hc_ki (wr := []) (va_runS (As := [.long v2, .int v5]) (rest := [.int v5, .long v2]) ⟨hx, hb, hml, hown, hts⟩ (c_X0_get l G H.size v2 v5 _ h) (va_cwS 2 hts gX0_closed_X0_get rfl rfl rfl (by decide +kernel) ⟨Nat.le_of_ble_eq_true rfl, Nat.le_of_ble_eq_true rfl⟩) (hc_pS hK hP hD [] rfl rfl) rfl rfl hl.1 rfl (lv_room (Nat.le_of_ble_eq_true rfl)) dX0_closed_39 ⟨Nat.le_refl _, Nat.le_refl _⟩) hP hD hS hA [] [] rfl rfl rfl (by decide) (fun r39 u H locs h hP hD hS => ?_)
          try dsimp only at h
          have hP : va_P G.1 vwCl [] H := hP
          have hD : va_D A [] := hD
          refine lv_lload_n hx hb dX0_closed_42 rfl (lv_at hl 0 rfl) ?_
          refine lv_iload hx hb dX0_closed_43 (lv_at hl 1 rfl) ?_
          refine hc_ki (wr := []) (va_runS (As := [.long v2, .int v4]) (rest := [.int r39, .int v5, .long v2]) ⟨hx, hb, hml, hown, hts⟩ (c_X0_get l G H.size v2 v4 _ h) (va_cwS 2 hts gX0_closed_X0_get rfl rfl rfl (by decide +kernel) ⟨Nat.le_of_ble_eq_true rfl, Nat.le_of_ble_eq_true rfl⟩) (hc_pS hK hP hD [] rfl rfl) rfl rfl hl.1 rfl (lv_room (Nat.le_of_ble_eq_true rfl)) dX0_closed_45 ⟨Nat.le_refl _, Nat.le_refl _⟩) hP hD hS hA [] [] rfl rfl rfl (by decide) (fun r45 u H locs h hP hD hS => ?_)
          try dsimp only at h
          have hP : va_P G.1 vwCl [] H := hP
          have hD : va_D A [] := hD
          refine lv_ior hx hb dX0_closed_48 ?_
          refine hc_kl (wr := []) (va_runS (As := [.long v2, .int v5, .int (r39 ||| r45)]) (rest := []) ⟨hx, hb, hml, hown, hts⟩ (c_X0_with l G H.size v2 v5 (r39 ||| r45) _ h) (va_cwS 3 hts gX0_closed_X0_with rfl rfl rfl (by decide +kernel) ⟨Nat.le_of_ble_eq_true rfl, Nat.le_of_ble_eq_true rfl⟩) (hc_pS hK hP hD [] rfl rfl) rfl rfl hl.1 rfl (lv_room (Nat.le_of_ble_eq_true rfl)) dX0_closed_49 ⟨Nat.le_refl _, Nat.le_refl _⟩) hP hD hS hA [] [] rfl rfl rfl (by decide) (fun r49 u H locs h hP hD hS => ?_)
          try dsimp only at h
          have hP : va_P G.1 vwCl [] H := hP
          have hD : va_D A [] := hD
          refine lv_lstore_n (lv' := [(2, .long r49), (4, .int v4), (5, .int v5)]) hx hb dX0_closed_52 rfl hl (by decide) rfl (fun ls hl => ?_)
          refine lv_iinc (v := v5 + nI 1) (lv' := [(5, .int (v5 + nI 1)), (2, .long r49), (4, .int v4)]) hx hb dX0_closed_53 hl (k := 2) rfl (congrArg (fun q => v5 + q) kc_1) (by decide) rfl (fun ls hl => ?_)
          refine lv_goto (tgt := 15) hx hb dX0_closed_56 (by decide) ?_
          exact ih r49 v4 (v5 + nI 1) h _ _ _ hP hD hS (lv_sub hl [1, 2, 0] rfl)
  have w5 : ∀ (n : Nat) (v2 : Int64) (v4 : Int32) , wp_X0_closed_5 post x0 n v2 v4 → ∀ (H : Heap) (locs : List Loc) (ls : Array Slot), va_P G.1 vwCl [] H → va_D A [] → va_S A s.heap H locs → lv_has ls 6 [(2, .long v2), (4, .int v4)] → W p l e (headSpec wsX0_closed ({ frames := 2, cells := 0, slots := 0, locals := 44 })).room s m ([.long x0] : List Value).toArray below meth c H locs 0 0 (MQ below (va_Ql (fun (r : Int64) (u : Unit) => post r) (hcB G A (fun u : Unit => [])) A) ([.long x0] : List Value).toArray s 0 0 A) (F0 m 5 ls []) := by
    intro n
    induction n with
    | zero => intro v2 v4 h; exact h.elim
    | succ n ih =>
      intro v2 v4 h H locs ls hP hD hS hl
      unfold wp_X0_closed_5 at h
      refine lv_iload hx hb dX0_closed_5 (lv_at hl 1 rfl) ?_
      refine lv_bipush (v := nI 8) hx hb dX0_closed_7 kb_8 ?_
      refine lv_icmp_ge (tgt := 65) hx hb dX0_closed_9 (by decide) (fun c => ?_) (fun c => ?_)
      · replace h := h.1 c
        refine lv_lload_n hx hb dX0_closed_65 rfl (lv_at hl 0 rfl) ?_
        exact W.lret (v := v2) hx hb hr (fun t ht hW => ⟨⟨_, (), rfl, h, ⟨by rw [ht]; exact hP, hD⟩⟩, hS.F ht⟩) hS.2.2 dX0_closed_66
      · replace h := h.2 c
        refine lv_iconst (v := nI 0) hx hb dX0_closed_12 kc_0 ?_
        refine lv_istore (lv' := [(5, .int (nI 0)), (2, .long v2), (4, .int v4)]) hx hb dX0_closed_13 hl (by decide) rfl (fun ls hl => ?_)
        obtain ⟨n15, h⟩ := h
        exact w15 ((wp_X0_closed_5 post x0 n)) ih n15 v2 v4 (nI 0) h _ _ _ hP hD hS (lv_sub hl [1, 2, 0] rfl)
  unfold wp_X0_closed at h
  refine lv_lload_n hx hb dX0_closed_0 rfl (lv_at hl 0 rfl) ?_
  refine lv_lstore_n (lv' := [(2, .long x0), (0, .long x0)]) hx hb dX0_closed_1 rfl hl (by decide) rfl (fun ls hl => ?_)
  refine lv_iconst (v := nI 0) hx hb dX0_closed_2 kc_0 ?_
  refine lv_istore (lv' := [(4, .int (nI 0)), (2, .long x0), (0, .long x0)]) hx hb dX0_closed_3 hl (by decide) rfl (fun ls hl => ?_)
  obtain ⟨n5, h⟩ := h
  exact w5  n5 x0 (nI 0) h _ _ _ hP hD hS (lv_sub hl [1, 0] rfl)
set_option maxHeartbeats 4000000 in
set_option maxRecDepth 100000 in
theorem c_X1_letHit (l : Launch) (G : hcG) (sz : Nat) (x0 : Int32) (x1 : Int32) (x2 : Int32) (post : Int32 → Prop) (h : wp_X1_letHit post x0 x1 x2) : Met l yX1_letHit wsX1_letHit ({ frames := 0, cells := 0, slots := 0, locals := 0 }) (hcPc G [.int x0, .int x1, .int x2] [] sz) (va_Qi (fun (r : Int32) (u : Unit) => post r) (hcB G (va_A [] sz) (fun u : Unit => [])) (va_A [] sz)) 0 0 (va_A [] sz) := by
  refine Met.ofW (cc := cX1_letHit) (maxL := 3) (ret := (some .boolean)) (by decide) rfl ?_
  intro p e s m args below meth c s₁ B hml hv
  obtain ⟨rfl, hsz, hP, hK, hD0⟩ := hv
  have hx := B.exec
  have hb := B.bytes
  have hr := B.returns
  have hts := atoms_spec (ws := wsX1_letHit) B.pre
  have hown : s.vm.findClass RX1 = some m.cls := findClass_of_methodNamed B.named
  have hlocks := B.notSynchronized
  subst hsz
  have hD := hD0.self (sz := s.heap.size)
  generalize hAe : va_A [] s.heap.size = A at hD ⊢
  have hA : ∀ q : Nat, s.heap.size ≤ q → A q := fun q h => by rw [← hAe]; exact Or.inr h
  have hS : va_S A s.heap s.heap [] := va_S.rf
  have hP : va_P G.1 vwCl [] s.heap := hP
  have hl := lv_entry ([.int x0, .int x1, .int x2]) (n := 3) (Nat.le_of_ble_eq_true rfl)
  rw [lg_entry_eq]
  generalize (lg_sl ([.int x0, .int x1, .int x2]) ++ List.replicate (3 - (lg_sl ([.int x0, .int x1, .int x2])).length) Slot.unset).toArray = ls at hl ⊢
  have hl : lv_has ls 3 [(0, .int x0), (1, .int x1), (2, .int x2)] := hl
  have w43 : wp_X1_letHit_43 post x0 x1 x2  → ∀ (H : Heap) (locs : List Loc) (ls : Array Slot), va_P G.1 vwCl [] H → va_D A [] → va_S A s.heap H locs → lv_has ls 3 [(2, .int x2)] → W p l e (headSpec wsX1_letHit ({ frames := 0, cells := 0, slots := 0, locals := 0 })).room s m ([.int x0, .int x1, .int x2] : List Value).toArray below meth c H locs 0 0 (MQ below (va_Qi (fun (r : Int32) (u : Unit) => post r) (hcB G A (fun u : Unit => [])) A) ([.int x0, .int x1, .int x2] : List Value).toArray s 0 0 A) (F0 m 43 ls []) := by
    intro h H locs ls hP hD hS hl
    unfold wp_X1_letHit_43 at h
    refine lv_iload_n hx hb dX1_letHit_43 rfl (lv_at hl 0 rfl) ?_
    refine lv_if_lt (tgt := 51) hx hb dX1_letHit_44 (by decide) (fun c => ?_) (fun c => ?_)
    · replace h := h.1 c
      refine lv_iconst (v := nI 0) hx hb dX1_letHit_51 kc_0 ?_
      exact W.zret (v := nI 0) hx hb hr rfl (fun t ht hW => ⟨⟨_, (), rfl, h, ⟨by rw [ht]; exact hP, hD⟩⟩, hS.F ht⟩) hS.2.2 dX1_letHit_52
    · replace h := h.2 c
      refine lv_iconst (v := nI 1) hx hb dX1_letHit_47 kc_1 ?_
      refine lv_goto (tgt := 52) hx hb dX1_letHit_48 (by decide) ?_
      exact W.zret (v := nI 1) hx hb hr rfl (fun t ht hW => ⟨⟨_, (), rfl, h, ⟨by rw [ht]; exact hP, hD⟩⟩, hS.F ht⟩) hS.2.2 dX1_letHit_52
  have w33 : wp_X1_letHit_33 post x0 x1 x2  → ∀ (H : Heap) (locs : List Loc) (ls : Array Slot), va_P G.1 vwCl [] H → va_D A [] → va_S A s.heap H locs → lv_has ls 3 [(1, .int x1), (2, .int x2)] → W p l e (headSpec wsX1_letHit ({ frames := 0, cells := 0, slots := 0, locals := 0 })).room s m ([.int x0, .int x1, .int x2] : List Value).toArray below meth c H locs 0 0 (MQ below (va_Qi (fun (r : Int32) (u : Unit) => post r) (hcB G A (fun u : Unit => [])) A) ([.int x0, .int x1, .int x2] : List Value).toArray s 0 0 A) (F0 m 33 ls []) := by
    intro h H locs ls hP hD hS hl
    unfold wp_X1_letHit_33 at h
    refine lv_iload_n hx hb dX1_letHit_33 rfl (lv_at hl 0 rfl) ?_
    refine lv_iconst (v := nI 2) hx hb dX1_letHit_34 kc_2 ?_
    refine lv_icmp_eq (tgt := 43) hx hb dX1_letHit_35 (by decide) (fun c => ?_) (fun c => ?_)
    · replace h := h.1 c
      exact w43   h _ _ _ hP hD hS (lv_sub hl [1] rfl)
    · replace h := h.2 c
      refine lv_iload_n hx hb dX1_letHit_38 rfl (lv_at hl 0 rfl) ?_
      refine lv_iconst (v := nI 3) hx hb dX1_letHit_39 kc_3 ?_
      refine lv_icmp_ne (tgt := 47) hx hb dX1_letHit_40 (by decide) (fun c => ?_) (fun c => ?_)
      · replace h := h.1 c
        refine lv_iconst (v := nI 1) hx hb dX1_letHit_47 kc_1 ?_
        refine lv_goto (tgt := 52) hx hb dX1_letHit_48 (by decide) ?_
        exact W.zret (v := nI 1) hx hb hr rfl (fun t ht hW => ⟨⟨_, (), rfl, h, ⟨by rw [ht]; exact hP, hD⟩⟩, hS.F ht⟩) hS.2.2 dX1_letHit_52
      · replace h := h.2 c
        exact w43   h _ _ _ hP hD hS (lv_sub hl [1] rfl)
  have w27 : wp_X1_letHit_27 post x0 x1 x2  → ∀ (H : Heap) (locs : List Loc) (ls : Array Slot), va_P G.1 vwCl [] H → va_D A [] → va_S A s.heap H locs → lv_has ls 3 [(1, .int x1), (2, .int x2)] → W p l e (headSpec wsX1_letHit ({ frames := 0, cells := 0, slots := 0, locals := 0 })).room s m ([.int x0, .int x1, .int x2] : List Value).toArray below meth c H locs 0 0 (MQ below (va_Qi (fun (r : Int32) (u : Unit) => post r) (hcB G A (fun u : Unit => [])) A) ([.int x0, .int x1, .int x2] : List Value).toArray s 0 0 A) (F0 m 27 ls []) := by
    intro h H locs ls hP hD hS hl
    unfold wp_X1_letHit_27 at h
    refine lv_iload_n hx hb dX1_letHit_27 rfl (lv_at hl 1 rfl) ?_
    refine lv_if_ge (tgt := 33) hx hb dX1_letHit_28 (by decide) (fun c => ?_) (fun c => ?_)
    · replace h := h.1 c
      exact w33   h _ _ _ hP hD hS (lv_sub hl [0, 1] rfl)
    · replace h := h.2 c
      refine lv_iconst (v := nI 0) hx hb dX1_letHit_31 kc_0 ?_
      exact W.zret (v := nI 0) hx hb hr rfl (fun t ht hW => ⟨⟨_, (), rfl, h, ⟨by rw [ht]; exact hP, hD⟩⟩, hS.F ht⟩) hS.2.2 dX1_letHit_32
  have w17 : wp_X1_letHit_17 post x0 x1 x2  → ∀ (H : Heap) (locs : List Loc) (ls : Array Slot), va_P G.1 vwCl [] H → va_D A [] → va_S A s.heap H locs → lv_has ls 3 [(0, .int x0), (1, .int x1), (2, .int x2)] → W p l e (headSpec wsX1_letHit ({ frames := 0, cells := 0, slots := 0, locals := 0 })).room s m ([.int x0, .int x1, .int x2] : List Value).toArray below meth c H locs 0 0 (MQ below (va_Qi (fun (r : Int32) (u : Unit) => post r) (hcB G A (fun u : Unit => [])) A) ([.int x0, .int x1, .int x2] : List Value).toArray s 0 0 A) (F0 m 17 ls []) := by
    intro h H locs ls hP hD hS hl
    unfold wp_X1_letHit_17 at h
    refine lv_iload_n hx hb dX1_letHit_17 rfl (lv_at hl 0 rfl) ?_
    refine lv_iconst (v := nI 1) hx hb dX1_letHit_18 kc_1 ?_
    refine lv_icmp_eq (tgt := 27) hx hb dX1_letHit_19 (by decide) (fun c => ?_) (fun c => ?_)
    · replace h := h.1 c
      exact w27   h _ _ _ hP hD hS (lv_sub hl [1, 2] rfl)
    · replace h := h.2 c
      refine lv_iload_n hx hb dX1_letHit_22 rfl (lv_at hl 0 rfl) ?_
      refine lv_iconst (v := nI 4) hx hb dX1_letHit_23 kc_4 ?_
      refine lv_icmp_ne (tgt := 33) hx hb dX1_letHit_24 (by decide) (fun c => ?_) (fun c => ?_)
      · replace h := h.1 c
        exact w33   h _ _ _ hP hD hS (lv_sub hl [1, 2] rfl)
      · replace h := h.2 c
        exact w27   h _ _ _ hP hD hS (lv_sub hl [1, 2] rfl)
  unfold wp_X1_letHit at h
  refine lv_iload_n hx hb dX1_letHit_0 rfl (lv_at hl 0 rfl) ?_
  refine lv_iconst (v := nI 5) hx hb dX1_letHit_1 kc_5 ?_
  refine lv_icmp_eq (tgt := 15) hx hb dX1_letHit_2 (by decide) (fun c => ?_) (fun c => ?_)
  · replace h := h.1 c
    refine lv_iconst (v := nI 0) hx hb dX1_letHit_15 kc_0 ?_
    exact W.zret (v := nI 0) hx hb hr rfl (fun t ht hW => ⟨⟨_, (), rfl, h, ⟨by rw [ht]; exact hP, hD⟩⟩, hS.F ht⟩) hS.2.2 dX1_letHit_16
  · replace h := h.2 c
    refine lv_iload_n hx hb dX1_letHit_5 rfl (lv_at hl 1 rfl) ?_
    refine lv_iconst (v := nI 3) hx hb dX1_letHit_6 kc_3 ?_
    refine lv_icmp_ne (tgt := 17) hx hb dX1_letHit_7 (by decide) (fun c => ?_) (fun c => ?_)
    · replace h := h.1 c
      exact w17   h _ _ _ hP hD hS (lv_sub hl [0, 1, 2] rfl)
    · replace h := h.2 c
      refine lv_iload_n hx hb dX1_letHit_10 rfl (lv_at hl 0 rfl) ?_
      refine lv_iconst (v := nI 3) hx hb dX1_letHit_11 kc_3 ?_
      refine lv_icmp_eq (tgt := 17) hx hb dX1_letHit_12 (by decide) (fun c => ?_) (fun c => ?_)
      · replace h := h.1 c
        exact w17   h _ _ _ hP hD hS (lv_sub hl [0, 1, 2] rfl)
      · replace h := h.2 c
        refine lv_iconst (v := nI 0) hx hb dX1_letHit_15 kc_0 ?_
        exact W.zret (v := nI 0) hx hb hr rfl (fun t ht hW => ⟨⟨_, (), rfl, h, ⟨by rw [ht]; exact hP, hD⟩⟩, hS.F ht⟩) hS.2.2 dX1_letHit_16
set_option maxHeartbeats 4000000 in
set_option maxRecDepth 100000 in
theorem c_X3_figureOf (l : Launch) (G : hcG) (h0 : Nat) (sz : Nat) (s_size : Int32) (s_heard : Int32) (s_mode : Int32) (s_cast : Int64) (s_figures : Int64) (s_voices : Int64) (s_attacks : Int64) (s_supports : Int64) (x1 : Int32) (post : Int32 → Prop) (h : wp_X3_figureOf post s_figures x1) : Met l yX3_figureOf wsX3_figureOf ({ frames := 1, cells := 0, slots := 0, locals := 22 }) (hcPc G [.ref h0, .int x1] [ceX3 h0 s_size s_heard s_mode s_cast s_figures s_voices s_attacks s_supports] sz) (va_Qi (fun (r : Int32) (u : Unit) => post r) (hcB G (va_A [ceX3 h0 s_size s_heard s_mode s_cast s_figures s_voices s_attacks s_supports] sz) (fun u : Unit => [ceX3 h0 s_size s_heard s_mode s_cast s_figures s_voices s_attacks s_supports])) (va_A [ceX3 h0 s_size s_heard s_mode s_cast s_figures s_voices s_attacks s_supports] sz)) 0 0 (va_A [ceX3 h0 s_size s_heard s_mode s_cast s_figures s_voices s_attacks s_supports] sz) := by
  refine Met.ofW (cc := cX3_figureOf) (maxL := 2) (ret := (some .int)) (by decide) rfl ?_
  intro p e s m args below meth c s₁ B hml hv
  obtain ⟨rfl, hsz, hP, hK, hD0⟩ := hv
  have hx := B.exec
  have hb := B.bytes
  have hr := B.returns
  have hts := atoms_spec (ws := wsX3_figureOf) B.pre
  have hown : s.vm.findClass RX3 = some m.cls := findClass_of_methodNamed B.named
  have hlocks := B.notSynchronized
  subst hsz
  have hD := hD0.self (sz := s.heap.size)
  generalize hAe : va_A [ceX3 h0 s_size s_heard s_mode s_cast s_figures s_voices s_attacks s_supports] s.heap.size = A at hD ⊢
  have hA : ∀ q : Nat, s.heap.size ≤ q → A q := fun q h => by rw [← hAe]; exact Or.inr h
  have hS : va_S A s.heap s.heap [] := va_S.rf
  have hP : va_P G.1 vwCl [ceX3 h0 s_size s_heard s_mode s_cast s_figures s_voices s_attacks s_supports] s.heap := hP
  have hl := lv_entry ([.ref h0, .int x1]) (n := 2) (Nat.le_of_ble_eq_true rfl)
  rw [lg_entry_eq]
  generalize (lg_sl ([.ref h0, .int x1]) ++ List.replicate (2 - (lg_sl ([.ref h0, .int x1])).length) Slot.unset).toArray = ls at hl ⊢
  have hl : lv_has ls 2 [(0, .ref h0), (1, .int x1)] := hl
  have kf0 := hts (.fieldLink RX3 25 "HallOfClaims$Hall" "figures" "J") (List.mem_of_getElem? (i := 1) (by decide +kernel))
  have ki_X3 : ∀ w ∈ u_ws RX3 TX3 8, w ∈ wsX3_figureOf := by decide +kernel
  unfold wp_X3_figureOf at h
  refine lv_aload_n hx hb dX3_figureOf_0 rfl (lv_at hl 0 rfl) ?_
  refine va_get (D := G.1) (ci := 2) (v := .long s_figures) (C := RX3) (T := TX3) (N := 8) hx hb hts ki_X3 hown hK.1 hP 0 rfl rfl 4 (by decide) kf0 (fun _ h9 => h9) rfl dX3_figureOf_1 ?_
  refine lv_iload_n hx hb dX3_figureOf_4 rfl (lv_at hl 1 rfl) ?_
  refine hc_ki (wr := [ceX3 h0 s_size s_heard s_mode s_cast s_figures s_voices s_attacks s_supports]) (va_runS (As := [.long s_figures, .int x1]) (rest := []) ⟨hx, hb, hml, hown, hts⟩ (c_X0_get l G s.heap.size s_figures x1 _ h) (va_cwS 2 hts gX3_figureOf_X0_get rfl rfl rfl (by decide +kernel) ⟨Nat.le_of_ble_eq_true rfl, Nat.le_of_ble_eq_true rfl⟩) (hc_pS hK hP hD [] rfl rfl) rfl rfl hl.1 rfl (lv_room (Nat.le_of_ble_eq_true rfl)) dX3_figureOf_5 ⟨Nat.le_refl _, Nat.le_refl _⟩) hP hD hS hA [] [0] rfl rfl rfl (by decide) (fun r5 u H locs h hP hD hS => ?_)
  try dsimp only at h
  have hP : va_P G.1 vwCl [ceX3 h0 s_size s_heard s_mode s_cast s_figures s_voices s_attacks s_supports] H := hP
  have hD : va_D A [ceX3 h0 s_size s_heard s_mode s_cast s_figures s_voices s_attacks s_supports] := hD
  exact W.iret (v := r5) hx hb hr (fun t ht hW => ⟨⟨_, (), rfl, h, ⟨by rw [ht]; exact hP, hD⟩⟩, hS.F ht⟩) hS.2.2 dX3_figureOf_8
set_option maxHeartbeats 4000000 in
set_option maxRecDepth 100000 in
theorem c_X3_kindOf (l : Launch) (G : hcG) (h0 : Nat) (sz : Nat) (s_size : Int32) (s_heard : Int32) (s_mode : Int32) (s_cast : Int64) (s_figures : Int64) (s_voices : Int64) (s_attacks : Int64) (s_supports : Int64) (x1 : Int32) (post : Int32 → Prop) (h : wp_X3_kindOf post s_cast x1) : Met l yX3_kindOf wsX3_kindOf ({ frames := 1, cells := 0, slots := 0, locals := 22 }) (hcPc G [.ref h0, .int x1] [ceX3 h0 s_size s_heard s_mode s_cast s_figures s_voices s_attacks s_supports] sz) (va_Qi (fun (r : Int32) (u : Unit) => post r) (hcB G (va_A [ceX3 h0 s_size s_heard s_mode s_cast s_figures s_voices s_attacks s_supports] sz) (fun u : Unit => [ceX3 h0 s_size s_heard s_mode s_cast s_figures s_voices s_attacks s_supports])) (va_A [ceX3 h0 s_size s_heard s_mode s_cast s_figures s_voices s_attacks s_supports] sz)) 0 0 (va_A [ceX3 h0 s_size s_heard s_mode s_cast s_figures s_voices s_attacks s_supports] sz) := by
  refine Met.ofW (cc := cX3_kindOf) (maxL := 2) (ret := (some .int)) (by decide) rfl ?_
  intro p e s m args below meth c s₁ B hml hv
  obtain ⟨rfl, hsz, hP, hK, hD0⟩ := hv
  have hx := B.exec
  have hb := B.bytes
  have hr := B.returns
  have hts := atoms_spec (ws := wsX3_kindOf) B.pre
  have hown : s.vm.findClass RX3 = some m.cls := findClass_of_methodNamed B.named
  have hlocks := B.notSynchronized
  subst hsz
  have hD := hD0.self (sz := s.heap.size)
  generalize hAe : va_A [ceX3 h0 s_size s_heard s_mode s_cast s_figures s_voices s_attacks s_supports] s.heap.size = A at hD ⊢
  have hA : ∀ q : Nat, s.heap.size ≤ q → A q := fun q h => by rw [← hAe]; exact Or.inr h
  have hS : va_S A s.heap s.heap [] := va_S.rf
  have hP : va_P G.1 vwCl [ceX3 h0 s_size s_heard s_mode s_cast s_figures s_voices s_attacks s_supports] s.heap := hP
  have hl := lv_entry ([.ref h0, .int x1]) (n := 2) (Nat.le_of_ble_eq_true rfl)
  rw [lg_entry_eq]
  generalize (lg_sl ([.ref h0, .int x1]) ++ List.replicate (2 - (lg_sl ([.ref h0, .int x1])).length) Slot.unset).toArray = ls at hl ⊢
  have hl : lv_has ls 2 [(0, .ref h0), (1, .int x1)] := hl
  have kf0 := hts (.fieldLink RX3 21 "HallOfClaims$Hall" "cast" "J") (List.mem_of_getElem? (i := 1) (by decide +kernel))
  have ki_X3 : ∀ w ∈ u_ws RX3 TX3 8, w ∈ wsX3_kindOf := by decide +kernel
  unfold wp_X3_kindOf at h
  refine lv_aload_n hx hb dX3_kindOf_0 rfl (lv_at hl 0 rfl) ?_
  refine va_get (D := G.1) (ci := 2) (v := .long s_cast) (C := RX3) (T := TX3) (N := 8) hx hb hts ki_X3 hown hK.1 hP 0 rfl rfl 3 (by decide) kf0 (fun _ h9 => h9) rfl dX3_kindOf_1 ?_
  refine lv_iload_n hx hb dX3_kindOf_4 rfl (lv_at hl 1 rfl) ?_
  refine hc_ki (wr := [ceX3 h0 s_size s_heard s_mode s_cast s_figures s_voices s_attacks s_supports]) (va_runS (As := [.long s_cast, .int x1]) (rest := []) ⟨hx, hb, hml, hown, hts⟩ (c_X0_get l G s.heap.size s_cast x1 _ h) (va_cwS 2 hts gX3_kindOf_X0_get rfl rfl rfl (by decide +kernel) ⟨Nat.le_of_ble_eq_true rfl, Nat.le_of_ble_eq_true rfl⟩) (hc_pS hK hP hD [] rfl rfl) rfl rfl hl.1 rfl (lv_room (Nat.le_of_ble_eq_true rfl)) dX3_kindOf_5 ⟨Nat.le_refl _, Nat.le_refl _⟩) hP hD hS hA [] [0] rfl rfl rfl (by decide) (fun r5 u H locs h hP hD hS => ?_)
  try dsimp only at h
  have hP : va_P G.1 vwCl [ceX3 h0 s_size s_heard s_mode s_cast s_figures s_voices s_attacks s_supports] H := hP
  have hD : va_D A [ceX3 h0 s_size s_heard s_mode s_cast s_figures s_voices s_attacks s_supports] := hD
  exact W.iret (v := r5) hx hb hr (fun t ht hW => ⟨⟨_, (), rfl, h, ⟨by rw [ht]; exact hP, hD⟩⟩, hS.F ht⟩) hS.2.2 dX3_kindOf_8
set_option maxHeartbeats 4000000 in
set_option maxRecDepth 100000 in
theorem c_X1_hitsIn (l : Launch) (G : hcG) (hp0 : Nat) (sz : Nat) (s_p0_size : Int32) (s_p0_heard : Int32) (s_p0_mode : Int32) (s_p0_cast : Int64) (s_p0_figures : Int64) (s_p0_voices : Int64) (s_p0_attacks : Int64) (s_p0_supports : Int64) (post : Int64 → Prop) (h : wp_X1_hitsIn post s_p0_size s_p0_heard s_p0_cast s_p0_figures s_p0_attacks) : Met l yX1_hitsIn wsX1_hitsIn ({ frames := 2, cells := 0, slots := 0, locals := 49 }) (hcPc G [.ref hp0] [ceX3 hp0 s_p0_size s_p0_heard s_p0_mode s_p0_cast s_p0_figures s_p0_voices s_p0_attacks s_p0_supports] sz) (va_Ql (fun (r : Int64) (u : Unit) => post r) (hcB G (va_A [ceX3 hp0 s_p0_size s_p0_heard s_p0_mode s_p0_cast s_p0_figures s_p0_voices s_p0_attacks s_p0_supports] sz) (fun u : Unit => [ceX3 hp0 s_p0_size s_p0_heard s_p0_mode s_p0_cast s_p0_figures s_p0_voices s_p0_attacks s_p0_supports])) (va_A [ceX3 hp0 s_p0_size s_p0_heard s_p0_mode s_p0_cast s_p0_figures s_p0_voices s_p0_attacks s_p0_supports] sz)) 0 0 (va_A [ceX3 hp0 s_p0_size s_p0_heard s_p0_mode s_p0_cast s_p0_figures s_p0_voices s_p0_attacks s_p0_supports] sz) := by
  refine Met.ofW (cc := cX1_hitsIn) (maxL := 7) (ret := (some .long)) (by decide) rfl ?_
  intro p e s m args below meth c s₁ B hml hv
  obtain ⟨rfl, hsz, hP, hK, hD0⟩ := hv
  have hx := B.exec
  have hb := B.bytes
  have hr := B.returns
  have hts := atoms_spec (ws := wsX1_hitsIn) B.pre
  have hown : s.vm.findClass RX1 = some m.cls := findClass_of_methodNamed B.named
  have hlocks := B.notSynchronized
  subst hsz
  have hD := hD0.self (sz := s.heap.size)
  generalize hAe : va_A [ceX3 hp0 s_p0_size s_p0_heard s_p0_mode s_p0_cast s_p0_figures s_p0_voices s_p0_attacks s_p0_supports] s.heap.size = A at hD ⊢
  have hA : ∀ q : Nat, s.heap.size ≤ q → A q := fun q h => by rw [← hAe]; exact Or.inr h
  have hS : va_S A s.heap s.heap [] := va_S.rf
  have hP : va_P G.1 vwCl [ceX3 hp0 s_p0_size s_p0_heard s_p0_mode s_p0_cast s_p0_figures s_p0_voices s_p0_attacks s_p0_supports] s.heap := hP
  have hl := lv_entry ([.ref hp0]) (n := 7) (Nat.le_of_ble_eq_true rfl)
  rw [lg_entry_eq]
  generalize (lg_sl ([.ref hp0]) ++ List.replicate (7 - (lg_sl ([.ref hp0])).length) Slot.unset).toArray = ls at hl ⊢
  have hl : lv_has ls 7 [(0, .ref hp0)] := hl
  have kf0 := hts (.fieldLink RX1 57 "HallOfClaims$Hall" "size" "I") (List.mem_of_getElem? (i := 1) (by decide +kernel))
  have kf1 := hts (.fieldLink RX1 33 "HallOfClaims$Hall" "heard" "I") (List.mem_of_getElem? (i := 3) (by decide +kernel))
  have kf2 := hts (.fieldLink RX1 71 "HallOfClaims$Hall" "attacks" "J") (List.mem_of_getElem? (i := 2) (by decide +kernel))
  have ki_X3 : ∀ w ∈ u_ws RX3 TX3 8, w ∈ wsX1_hitsIn := by decide +kernel
  have w15 : ∀ (K4 : Int64 → Int32 → Prop), (∀ (v1 : Int64) (v3 : Int32) , K4 v1 v3 → ∀ (H : Heap) (locs : List Loc) (ls : Array Slot), va_P G.1 vwCl [ceX3 hp0 s_p0_size s_p0_heard s_p0_mode s_p0_cast s_p0_figures s_p0_voices s_p0_attacks s_p0_supports] H → va_D A [ceX3 hp0 s_p0_size s_p0_heard s_p0_mode s_p0_cast s_p0_figures s_p0_voices s_p0_attacks s_p0_supports] → va_S A s.heap H locs → lv_has ls 7 [(0, .ref hp0), (1, .long v1), (3, .int v3)] → W p l e (headSpec wsX1_hitsIn ({ frames := 2, cells := 0, slots := 0, locals := 49 })).room s m ([.ref hp0] : List Value).toArray below meth c H locs 0 0 (MQ below (va_Ql (fun (r : Int64) (u : Unit) => post r) (hcB G A (fun u : Unit => [ceX3 hp0 s_p0_size s_p0_heard s_p0_mode s_p0_cast s_p0_figures s_p0_voices s_p0_attacks s_p0_supports])) A) ([.ref hp0] : List Value).toArray s 0 0 A) (F0 m 4 ls [])) → ∀ (n : Nat) (v1 : Int64) (v3 : Int32) (v4 : Int32) , wp_X1_hitsIn_15 post s_p0_size s_p0_heard s_p0_cast s_p0_figures s_p0_attacks K4 n v1 v3 v4 → ∀ (H : Heap) (locs : List Loc) (ls : Array Slot), va_P G.1 vwCl [ceX3 hp0 s_p0_size s_p0_heard s_p0_mode s_p0_cast s_p0_figures s_p0_voices s_p0_attacks s_p0_supports] H → va_D A [ceX3 hp0 s_p0_size s_p0_heard s_p0_mode s_p0_cast s_p0_figures s_p0_voices s_p0_attacks s_p0_supports] → va_S A s.heap H locs → lv_has ls 7 [(0, .ref hp0), (1, .long v1), (3, .int v3), (4, .int v4)] → W p l e (headSpec wsX1_hitsIn ({ frames := 2, cells := 0, slots := 0, locals := 49 })).room s m ([.ref hp0] : List Value).toArray below meth c H locs 0 0 (MQ below (va_Ql (fun (r : Int64) (u : Unit) => post r) (hcB G A (fun u : Unit => [ceX3 hp0 s_p0_size s_p0_heard s_p0_mode s_p0_cast s_p0_figures s_p0_voices s_p0_attacks s_p0_supports])) A) ([.ref hp0] : List Value).toArray s 0 0 A) (F0 m 15 ls []) := by
    intro K4 hK4 n
    induction n with
    | zero => intro v1 v3 v4 h; exact h.elim
    | succ n ih =>
      intro v1 v3 v4 h H locs ls hP hD hS hl
      unfold wp_X1_hitsIn_15 at h
      refine lv_iload hx hb dX1_hitsIn_15 (lv_at hl 3 rfl) ?_
      refine lv_aload_n hx hb dX1_hitsIn_17 rfl (lv_at hl 0 rfl) ?_
      refine va_get (D := G.1) (ci := 2) (v := .int s_p0_size) (C := RX3) (T := TX3) (N := 8) hx hb hts ki_X3 hown hK.1 hP 0 rfl rfl 0 (by decide) kf0 (fun _ h9 => h9) rfl dX1_hitsIn_18 ?_
      refine lv_icmp_ge (tgt := 89) hx hb dX1_hitsIn_21 (by decide) (fun c => ?_) (fun c => ?_)
      · replace h := h.1 c
        refine lv_aload_n hx hb dX1_hitsIn_89 rfl (lv_at hl 0 rfl) ?_
        refine lv_iload_n hx hb dX1_hitsIn_90 rfl (lv_at hl 2 rfl) ?_
        refine hc_ki (wr := []) (va_runV (As := [.int v3]) (rest := []) ⟨hx, hb, hml, hown, hts⟩ (c_X3_kindOf l G hp0 H.size s_p0_size s_p0_heard s_p0_mode s_p0_cast s_p0_figures s_p0_voices s_p0_attacks s_p0_supports v3 _ h) (cwV 1 hts gX1_hitsIn_X3_kindOf rfl rfl rfl (by decide +kernel) ⟨Nat.le_of_ble_eq_true rfl, Nat.le_of_ble_eq_true rfl⟩) (hc_pV hK hP hD [0] rfl rfl (ci := 2) 0 rfl rfl) rfl rfl hl.1 rfl (lv_room (Nat.le_of_ble_eq_true rfl)) dX1_hitsIn_91 ⟨Nat.le_refl _, Nat.le_refl _⟩) hP hD hS hA [0] [] rfl rfl rfl (by decide) (fun r91 u H locs h hP hD hS => ?_)
        try dsimp only at h
        have hP : va_P G.1 vwCl [ceX3 hp0 s_p0_size s_p0_heard s_p0_mode s_p0_cast s_p0_figures s_p0_voices s_p0_attacks s_p0_supports] H := hP
        have hD : va_D A [ceX3 hp0 s_p0_size s_p0_heard s_p0_mode s_p0_cast s_p0_figures s_p0_voices s_p0_attacks s_p0_supports] := hD
        refine lv_iconst (v := nI 4) hx hb dX1_hitsIn_94 kc_4 ?_
        refine lv_icmp_ne (tgt := 106) hx hb dX1_hitsIn_95 (by decide) (fun c => ?_) (fun c => ?_)
        · replace h := h.1 c
          refine lv_iinc (v := v3 + nI 1) (lv' := [(3, .int (v3 + nI 1)), (0, .ref hp0), (1, .long v1), (4, .int v4)]) hx hb dX1_hitsIn_106 hl (k := 2) rfl (congrArg (fun q => v3 + q) kc_1) (by decide) rfl (fun ls hl => ?_)
          refine lv_goto (tgt := 4) hx hb dX1_hitsIn_109 (by decide) ?_
          exact hK4 v1 (v3 + nI 1) h _ _ _ hP hD hS (lv_sub hl [1, 2, 0] rfl)
        · replace h := h.2 c
          refine lv_lload_n hx hb dX1_hitsIn_98 rfl (lv_at hl 1 rfl) ?_
          refine lv_iload_n hx hb dX1_hitsIn_99 rfl (lv_at hl 2 rfl) ?_
          refine lv_iload_n hx hb dX1_hitsIn_100 rfl (lv_at hl 2 rfl) ?_
          refine hc_kl (wr := [ceX3 hp0 s_p0_size s_p0_heard s_p0_mode s_p0_cast s_p0_figures s_p0_voices s_p0_attacks s_p0_supports]) (va_runS (As := [.int v3, .int v3]) (rest := [.long v1]) ⟨hx, hb, hml, hown, hts⟩ (c_X0_pair l G H.size v3 v3 _ h) (va_cwS 2 hts gX1_hitsIn_X0_pair rfl rfl rfl (by decide +kernel) ⟨Nat.le_of_ble_eq_true rfl, Nat.le_of_ble_eq_true rfl⟩) (hc_pS hK hP hD [] rfl rfl) rfl rfl hl.1 rfl (lv_room (Nat.le_of_ble_eq_true rfl)) dX1_hitsIn_101 ⟨Nat.le_refl _, Nat.le_refl _⟩) hP hD hS hA [] [0] rfl rfl rfl (by decide) (fun r101 u H locs h hP hD hS => ?_)
          try dsimp only at h
          have hP : va_P G.1 vwCl [ceX3 hp0 s_p0_size s_p0_heard s_p0_mode s_p0_cast s_p0_figures s_p0_voices s_p0_attacks s_p0_supports] H := hP
          have hD : va_D A [ceX3 hp0 s_p0_size s_p0_heard s_p0_mode s_p0_cast s_p0_figures s_p0_voices s_p0_attacks s_p0_supports] := hD
          refine lv_lor hx hb dX1_hitsIn_104 ?_
          refine lv_lstore_n (lv' := [(1, .long (v1 ||| r101)), (0, .ref hp0), (3, .int v3), (4, .int v4)]) hx hb dX1_hitsIn_105 rfl hl (by decide) rfl (fun ls hl => ?_)
          refine lv_iinc (v := v3 + nI 1) (lv' := [(3, .int (v3 + nI 1)), (1, .long (v1 ||| r101)), (0, .ref hp0), (4, .int v4)]) hx hb dX1_hitsIn_106 hl (k := 2) rfl (congrArg (fun q => v3 + q) kc_1) (by decide) rfl (fun ls hl => ?_)
          refine lv_goto (tgt := 4) hx hb dX1_hitsIn_109 (by decide) ?_
          exact hK4 (v1 ||| r101) (v3 + nI 1) h _ _ _ hP hD hS (lv_sub hl [2, 1, 0] rfl)
      · replace h := h.2 c
        refine lv_aload_n hx hb dX1_hitsIn_24 rfl (lv_at hl 0 rfl) ?_
        refine lv_iload_n hx hb dX1_hitsIn_25 rfl (lv_at hl 2 rfl) ?_
        refine hc_ki (wr := []) (va_runV (As := [.int v3]) (rest := []) ⟨hx, hb, hml, hown, hts⟩ (c_X3_figureOf l G hp0 H.size s_p0_size s_p0_heard s_p0_mode s_p0_cast s_p0_figures s_p0_voices s_p0_attacks s_p0_supports v3 _ h) (cwV 1 hts gX1_hitsIn_X3_figureOf rfl rfl rfl (by decide +kernel) ⟨Nat.le_of_ble_eq_true rfl, Nat.le_of_ble_eq_true rfl⟩) (hc_pV hK hP hD [0] rfl rfl (ci := 2) 0 rfl rfl) rfl rfl hl.1 rfl (lv_room (Nat.le_of_ble_eq_true rfl)) dX1_hitsIn_26 ⟨Nat.le_refl _, Nat.le_refl _⟩) hP hD hS hA [0] [] rfl rfl rfl (by decide) (fun r26 u H locs h hP hD hS => ?_)
        try dsimp only at h
        have hP : va_P G.1 vwCl [ceX3 hp0 s_p0_size s_p0_heard s_p0_mode s_p0_cast s_p0_figures s_p0_voices s_p0_attacks s_p0_supports] H := hP
        have hD : va_D A [ceX3 hp0 s_p0_size s_p0_heard s_p0_mode s_p0_cast s_p0_figures s_p0_voices s_p0_attacks s_p0_supports] := hD
        refine lv_aload_n hx hb dX1_hitsIn_29 rfl (lv_at hl 0 rfl) ?_
        refine lv_iload hx hb dX1_hitsIn_30 (lv_at hl 3 rfl) ?_
        refine hc_ki (wr := []) (va_runV (As := [.int v4]) (rest := [.int r26]) ⟨hx, hb, hml, hown, hts⟩ (c_X3_figureOf l G hp0 H.size s_p0_size s_p0_heard s_p0_mode s_p0_cast s_p0_figures s_p0_voices s_p0_attacks s_p0_supports v4 _ h) (cwV 1 hts gX1_hitsIn_X3_figureOf rfl rfl rfl (by decide +kernel) ⟨Nat.le_of_ble_eq_true rfl, Nat.le_of_ble_eq_true rfl⟩) (hc_pV hK hP hD [0] rfl rfl (ci := 2) 0 rfl rfl) rfl rfl hl.1 rfl (lv_room (Nat.le_of_ble_eq_true rfl)) dX1_hitsIn_32 ⟨Nat.le_refl _, Nat.le_refl _⟩) hP hD hS hA [0] [] rfl rfl rfl (by decide) (fun r32 u H locs h hP hD hS => ?_)
        try dsimp only at h
        have hP : va_P G.1 vwCl [ceX3 hp0 s_p0_size s_p0_heard s_p0_mode s_p0_cast s_p0_figures s_p0_voices s_p0_attacks s_p0_supports] H := hP
        have hD : va_D A [ceX3 hp0 s_p0_size s_p0_heard s_p0_mode s_p0_cast s_p0_figures s_p0_voices s_p0_attacks s_p0_supports] := hD
        refine lv_isub hx hb dX1_hitsIn_35 ?_
        refine lv_istore (lv' := [(5, .int (r26 - r32)), (0, .ref hp0), (1, .long v1), (3, .int v3), (4, .int v4)]) hx hb dX1_hitsIn_36 hl (by decide) rfl (fun ls hl => ?_)
        refine lv_aload_n hx hb dX1_hitsIn_38 rfl (lv_at hl 1 rfl) ?_
        refine lv_iload_n hx hb dX1_hitsIn_39 rfl (lv_at hl 3 rfl) ?_
        refine hc_ki (wr := []) (va_runV (As := [.int v3]) (rest := []) ⟨hx, hb, hml, hown, hts⟩ (c_X3_kindOf l G hp0 H.size s_p0_size s_p0_heard s_p0_mode s_p0_cast s_p0_figures s_p0_voices s_p0_attacks s_p0_supports v3 _ h) (cwV 1 hts gX1_hitsIn_X3_kindOf rfl rfl rfl (by decide +kernel) ⟨Nat.le_of_ble_eq_true rfl, Nat.le_of_ble_eq_true rfl⟩) (hc_pV hK hP hD [0] rfl rfl (ci := 2) 0 rfl rfl) rfl rfl hl.1 rfl (lv_room (Nat.le_of_ble_eq_true rfl)) dX1_hitsIn_40 ⟨Nat.le_refl _, Nat.le_refl _⟩) hP hD hS hA [0] [] rfl rfl rfl (by decide) (fun r40 u H locs h hP hD hS => ?_)
        try dsimp only at h
        have hP : va_P G.1 vwCl [ceX3 hp0 s_p0_size s_p0_heard s_p0_mode s_p0_cast s_p0_figures s_p0_voices s_p0_attacks s_p0_supports] H := hP
        have hD : va_D A [ceX3 hp0 s_p0_size s_p0_heard s_p0_mode s_p0_cast s_p0_figures s_p0_voices s_p0_attacks s_p0_supports] := hD
        refine lv_aload_n hx hb dX1_hitsIn_43 rfl (lv_at hl 1 rfl) ?_
        refine lv_iload hx hb dX1_hitsIn_44 (lv_at hl 4 rfl) ?_
        refine hc_ki (wr := []) (va_runV (As := [.int v4]) (rest := [.int r40]) ⟨hx, hb, hml, hown, hts⟩ (c_X3_kindOf l G hp0 H.size s_p0_size s_p0_heard s_p0_mode s_p0_cast s_p0_figures s_p0_voices s_p0_attacks s_p0_supports v4 _ h) (cwV 1 hts gX1_hitsIn_X3_kindOf rfl rfl rfl (by decide +kernel) ⟨Nat.le_of_ble_eq_true rfl, Nat.le_of_ble_eq_true rfl⟩) (hc_pV hK hP hD [0] rfl rfl (ci := 2) 0 rfl rfl) rfl rfl hl.1 rfl (lv_room (Nat.le_of_ble_eq_true rfl)) dX1_hitsIn_46 ⟨Nat.le_refl _, Nat.le_refl _⟩) hP hD hS hA [0] [] rfl rfl rfl (by decide) (fun r46 u H locs h hP hD hS => ?_)
        try dsimp only at h
        have hP : va_P G.1 vwCl [ceX3 hp0 s_p0_size s_p0_heard s_p0_mode s_p0_cast s_p0_figures s_p0_voices s_p0_attacks s_p0_supports] H := hP
        have hD : va_D A [ceX3 hp0 s_p0_size s_p0_heard s_p0_mode s_p0_cast s_p0_figures s_p0_voices s_p0_attacks s_p0_supports] := hD
        refine lv_iload hx hb dX1_hitsIn_49 (lv_at hl 0 rfl) ?_
        refine hc_ki (wr := [ceX3 hp0 s_p0_size s_p0_heard s_p0_mode s_p0_cast s_p0_figures s_p0_voices s_p0_attacks s_p0_supports]) (va_runS (As := [.int r40, .int r46, .int (r26 - r32)]) (rest := []) ⟨hx, hb, hml, hown, hts⟩ (c_X1_letHit l G H.size r40 r46 (r26 - r32) _ h) (va_cwS 3 hts gX1_hitsIn_X1_letHit rfl rfl rfl (by decide +kernel) ⟨Nat.le_of_ble_eq_true rfl, Nat.le_of_ble_eq_true rfl⟩) (hc_pS hK hP hD [] rfl rfl) rfl rfl hl.1 rfl (lv_room (Nat.le_of_ble_eq_true rfl)) dX1_hitsIn_51 ⟨Nat.le_refl _, Nat.le_refl _⟩) hP hD hS hA [] [0] rfl rfl rfl (by decide) (fun r51 u H locs h hP hD hS => ?_)
        try dsimp only at h
        have hP : va_P G.1 vwCl [ceX3 hp0 s_p0_size s_p0_heard s_p0_mode s_p0_cast s_p0_figures s_p0_voices s_p0_attacks s_p0_supports] H := hP
        have hD : va_D A [ceX3 hp0 s_p0_size s_p0_heard s_p0_mode s_p0_cast s_p0_figures s_p0_voices s_p0_attacks s_p0_supports] := hD
        refine lv_istore (lv' := [(6, .int r51), (5, .int (r26 - r32)), (0, .ref hp0), (1, .long v1), (3, .int v3), (4, .int v4)]) hx hb dX1_hitsIn_54 hl (by decide) rfl (fun ls hl => ?_)
        refine lv_iload hx hb dX1_hitsIn_56 (lv_at hl 0 rfl) ?_
        refine lv_if_eq (tgt := 83) hx hb dX1_hitsIn_58 (by decide) (fun c => ?_) (fun c => ?_)
        · replace h := h.1 c
          refine lv_iinc (v := v4 + nI 1) (lv' := [(4, .int (v4 + nI 1)), (6, .int r51), (5, .int (r26 - r32)), (0, .ref hp0), (1, .long v1), (3, .int v3)]) hx hb dX1_hitsIn_83 hl (k := 5) rfl (congrArg (fun q => v4 + q) kc_1) (by decide) rfl (fun ls hl => ?_)
          refine lv_goto (tgt := 15) hx hb dX1_hitsIn_86 (by decide) ?_
          exact ih v1 v3 (v4 + nI 1) h _ _ _ hP hD hS (lv_sub hl [3, 4, 5, 0] rfl)
        · replace h := h.2 c
          refine lv_aload_n hx hb dX1_hitsIn_61 rfl (lv_at hl 2 rfl) ?_
          refine va_get (D := G.1) (ci := 2) (v := .long s_p0_attacks) (C := RX3) (T := TX3) (N := 8) hx hb hts ki_X3 hown hK.1 hP 0 rfl rfl 6 (by decide) kf2 (fun _ h9 => h9) rfl dX1_hitsIn_62 ?_
          refine lv_iload_n hx hb dX1_hitsIn_65 rfl (lv_at hl 4 rfl) ?_
          refine lv_iload hx hb dX1_hitsIn_66 (lv_at hl 5 rfl) ?_
          refine hc_ki (wr := [ceX3 hp0 s_p0_size s_p0_heard s_p0_mode s_p0_cast s_p0_figures s_p0_voices s_p0_attacks s_p0_supports]) (va_runS (As := [.long s_p0_attacks, .int v3, .int v4]) (rest := []) ⟨hx, hb, hml, hown, hts⟩ (c_X0_has l G H.size s_p0_attacks v3 v4 _ h) (va_cwS 3 hts gX1_hitsIn_X0_has rfl rfl rfl (by decide +kernel) ⟨Nat.le_of_ble_eq_true rfl, Nat.le_of_ble_eq_true rfl⟩) (hc_pS hK hP hD [] rfl rfl) rfl rfl hl.1 rfl (lv_room (Nat.le_of_ble_eq_true rfl)) dX1_hitsIn_68 ⟨Nat.le_refl _, Nat.le_refl _⟩) hP hD hS hA [] [0] rfl rfl rfl (by decide) (fun r68 u H locs h hP hD hS => ?_)
          try dsimp only at h
          have hP : va_P G.1 vwCl [ceX3 hp0 s_p0_size s_p0_heard s_p0_mode s_p0_cast s_p0_figures s_p0_voices s_p0_attacks s_p0_supports] H := hP
          have hD : va_D A [ceX3 hp0 s_p0_size s_p0_heard s_p0_mode s_p0_cast s_p0_figures s_p0_voices s_p0_attacks s_p0_supports] := hD
          refine lv_if_eq (tgt := 83) hx hb dX1_hitsIn_71 (by decide) (fun c => ?_) (fun c => ?_)
          · replace h := h.1 c
            refine lv_iinc (v := v4 + nI 1) (lv' := [(4, .int (v4 + nI 1)), (6, .int r51), (5, .int (r26 - r32)), (0, .ref hp0), (1, .long v1), (3, .int v3)]) hx hb dX1_hitsIn_83 hl (k := 5) rfl (congrArg (fun q => v4 + q) kc_1) (by decide) rfl (fun ls hl => ?_)
            refine lv_goto (tgt := 15) hx hb dX1_hitsIn_86 (by decide) ?_
            exact ih v1 v3 (v4 + nI 1) h _ _ _ hP hD hS (lv_sub hl [3, 4, 5, 0] rfl)
          · replace h := h.2 c
            refine lv_lload_n hx hb dX1_hitsIn_74 rfl (lv_at hl 3 rfl) ?_
            refine lv_iload_n hx hb dX1_hitsIn_75 rfl (lv_at hl 4 rfl) ?_
            refine lv_iload hx hb dX1_hitsIn_76 (lv_at hl 5 rfl) ?_
            refine hc_kl (wr := [ceX3 hp0 s_p0_size s_p0_heard s_p0_mode s_p0_cast s_p0_figures s_p0_voices s_p0_attacks s_p0_supports]) (va_runS (As := [.int v3, .int v4]) (rest := [.long v1]) ⟨hx, hb, hml, hown, hts⟩ (c_X0_pair l G H.size v3 v4 _ h) (va_cwS 2 hts gX1_hitsIn_X0_pair rfl rfl rfl (by decide +kernel) ⟨Nat.le_of_ble_eq_true rfl, Nat.le_of_ble_eq_true rfl⟩) (hc_pS hK hP hD [] rfl rfl) rfl rfl hl.1 rfl (lv_room (Nat.le_of_ble_eq_true rfl)) dX1_hitsIn_78 ⟨Nat.le_refl _, Nat.le_refl _⟩) hP hD hS hA [] [0] rfl rfl rfl (by decide) (fun r78 u H locs h hP hD hS => ?_)
            try dsimp only at h
            have hP : va_P G.1 vwCl [ceX3 hp0 s_p0_size s_p0_heard s_p0_mode s_p0_cast s_p0_figures s_p0_voices s_p0_attacks s_p0_supports] H := hP
            have hD : va_D A [ceX3 hp0 s_p0_size s_p0_heard s_p0_mode s_p0_cast s_p0_figures s_p0_voices s_p0_attacks s_p0_supports] := hD
            refine lv_lor hx hb dX1_hitsIn_81 ?_
            refine lv_lstore_n (lv' := [(1, .long (v1 ||| r78)), (6, .int r51), (5, .int (r26 - r32)), (0, .ref hp0), (3, .int v3), (4, .int v4)]) hx hb dX1_hitsIn_82 rfl hl (by decide) rfl (fun ls hl => ?_)
            refine lv_iinc (v := v4 + nI 1) (lv' := [(4, .int (v4 + nI 1)), (1, .long (v1 ||| r78)), (6, .int r51), (5, .int (r26 - r32)), (0, .ref hp0), (3, .int v3)]) hx hb dX1_hitsIn_83 hl (k := 5) rfl (congrArg (fun q => v4 + q) kc_1) (by decide) rfl (fun ls hl => ?_)
            refine lv_goto (tgt := 15) hx hb dX1_hitsIn_86 (by decide) ?_
            exact ih (v1 ||| r78) v3 (v4 + nI 1) h _ _ _ hP hD hS (lv_sub hl [4, 1, 5, 0] rfl)
  have w4 : ∀ (n : Nat) (v1 : Int64) (v3 : Int32) , wp_X1_hitsIn_4 post s_p0_size s_p0_heard s_p0_cast s_p0_figures s_p0_attacks n v1 v3 → ∀ (H : Heap) (locs : List Loc) (ls : Array Slot), va_P G.1 vwCl [ceX3 hp0 s_p0_size s_p0_heard s_p0_mode s_p0_cast s_p0_figures s_p0_voices s_p0_attacks s_p0_supports] H → va_D A [ceX3 hp0 s_p0_size s_p0_heard s_p0_mode s_p0_cast s_p0_figures s_p0_voices s_p0_attacks s_p0_supports] → va_S A s.heap H locs → lv_has ls 7 [(0, .ref hp0), (1, .long v1), (3, .int v3)] → W p l e (headSpec wsX1_hitsIn ({ frames := 2, cells := 0, slots := 0, locals := 49 })).room s m ([.ref hp0] : List Value).toArray below meth c H locs 0 0 (MQ below (va_Ql (fun (r : Int64) (u : Unit) => post r) (hcB G A (fun u : Unit => [ceX3 hp0 s_p0_size s_p0_heard s_p0_mode s_p0_cast s_p0_figures s_p0_voices s_p0_attacks s_p0_supports])) A) ([.ref hp0] : List Value).toArray s 0 0 A) (F0 m 4 ls []) := by
    intro n
    induction n with
    | zero => intro v1 v3 h; exact h.elim
    | succ n ih =>
      intro v1 v3 h H locs ls hP hD hS hl
      unfold wp_X1_hitsIn_4 at h
      refine lv_iload_n hx hb dX1_hitsIn_4 rfl (lv_at hl 2 rfl) ?_
      refine lv_aload_n hx hb dX1_hitsIn_5 rfl (lv_at hl 0 rfl) ?_
      refine va_get (D := G.1) (ci := 2) (v := .int s_p0_size) (C := RX3) (T := TX3) (N := 8) hx hb hts ki_X3 hown hK.1 hP 0 rfl rfl 0 (by decide) kf0 (fun _ h9 => h9) rfl dX1_hitsIn_6 ?_
      refine lv_icmp_ge (tgt := 112) hx hb dX1_hitsIn_9 (by decide) (fun c => ?_) (fun c => ?_)
      · replace h := h.1 c
        refine lv_lload_n hx hb dX1_hitsIn_112 rfl (lv_at hl 1 rfl) ?_
        refine lv_aload_n hx hb dX1_hitsIn_113 rfl (lv_at hl 0 rfl) ?_
        refine va_get (D := G.1) (ci := 2) (v := .int s_p0_heard) (C := RX3) (T := TX3) (N := 8) hx hb hts ki_X3 hown hK.1 hP 0 rfl rfl 1 (by decide) kf1 (fun _ h9 => h9) rfl dX1_hitsIn_114 ?_
        refine hc_kl (wr := [ceX3 hp0 s_p0_size s_p0_heard s_p0_mode s_p0_cast s_p0_figures s_p0_voices s_p0_attacks s_p0_supports]) (va_runS (As := [.long v1, .int s_p0_heard]) (rest := []) ⟨hx, hb, hml, hown, hts⟩ (c_X0_within l G H.size v1 s_p0_heard _ h) (va_cwS 2 hts gX1_hitsIn_X0_within rfl rfl rfl (by decide +kernel) ⟨Nat.le_of_ble_eq_true rfl, Nat.le_of_ble_eq_true rfl⟩) (hc_pS hK hP hD [] rfl rfl) rfl rfl hl.1 rfl (lv_room (Nat.le_of_ble_eq_true rfl)) dX1_hitsIn_117 ⟨Nat.le_refl _, Nat.le_refl _⟩) hP hD hS hA [] [0] rfl rfl rfl (by decide) (fun r117 u H locs h hP hD hS => ?_)
        try dsimp only at h
        have hP : va_P G.1 vwCl [ceX3 hp0 s_p0_size s_p0_heard s_p0_mode s_p0_cast s_p0_figures s_p0_voices s_p0_attacks s_p0_supports] H := hP
        have hD : va_D A [ceX3 hp0 s_p0_size s_p0_heard s_p0_mode s_p0_cast s_p0_figures s_p0_voices s_p0_attacks s_p0_supports] := hD
        exact W.lret (v := r117) hx hb hr (fun t ht hW => ⟨⟨_, (), rfl, h, ⟨by rw [ht]; exact hP, hD⟩⟩, hS.F ht⟩) hS.2.2 dX1_hitsIn_120
      · replace h := h.2 c
        refine lv_iconst (v := nI 0) hx hb dX1_hitsIn_12 kc_0 ?_
        refine lv_istore (lv' := [(4, .int (nI 0)), (0, .ref hp0), (1, .long v1), (3, .int v3)]) hx hb dX1_hitsIn_13 hl (by decide) rfl (fun ls hl => ?_)
        obtain ⟨n15, h⟩ := h
        exact w15 ((wp_X1_hitsIn_4 post s_p0_size s_p0_heard s_p0_cast s_p0_figures s_p0_attacks n)) ih n15 v1 v3 (nI 0) h _ _ _ hP hD hS (lv_sub hl [1, 2, 3, 0] rfl)
  unfold wp_X1_hitsIn at h
  refine lv_lconst (v := lN 0) hx hb dX1_hitsIn_0 kl_0 ?_
  refine lv_lstore_n (lv' := [(1, .long (lN 0)), (0, .ref hp0)]) hx hb dX1_hitsIn_1 rfl hl (by decide) rfl (fun ls hl => ?_)
  refine lv_iconst (v := nI 0) hx hb dX1_hitsIn_2 kc_0 ?_
  refine lv_istore_n (lv' := [(3, .int (nI 0)), (1, .long (lN 0)), (0, .ref hp0)]) hx hb dX1_hitsIn_3 rfl hl (by decide) rfl (fun ls hl => ?_)
  obtain ⟨n4, h⟩ := h
  exact w4  n4 (lN 0) (nI 0) h _ _ _ hP hD hS (lv_sub hl [2, 1, 0] rfl)
set_option maxHeartbeats 4000000 in
set_option maxRecDepth 100000 in
theorem c_X1_reckon (l : Launch) (G : hcG) (h0 : Nat) (hp1 : Nat) (sz : Nat) (s_hits : Int64) (s_leads : Int64) (s_defeats : Int64) (s_defeaters : Int64) (s_p1_size : Int32) (s_p1_heard : Int32) (s_p1_mode : Int32) (s_p1_cast : Int64) (s_p1_figures : Int64) (s_p1_voices : Int64) (s_p1_attacks : Int64) (s_p1_supports : Int64) (post : Int64 → Int64 → Int64 → Int64 → Prop) (h : wp_X1_reckon post s_hits s_leads s_defeats s_defeaters s_p1_size s_p1_heard s_p1_mode s_p1_cast s_p1_figures s_p1_attacks s_p1_supports) : Met l yX1_reckon wsX1_reckon ({ frames := 3, cells := 0, slots := 0, locals := 75 }) (hcPc G [.ref h0, .ref hp1] [ceX1 h0 s_hits s_leads s_defeats s_defeaters, ceX3 hp1 s_p1_size s_p1_heard s_p1_mode s_p1_cast s_p1_figures s_p1_voices s_p1_attacks s_p1_supports] sz) (va_Qv (fun u : Int64 × Int64 × Int64 × Int64 => post u.1 u.2.1 u.2.2.1 u.2.2.2) (hcB G (va_A [ceX1 h0 s_hits s_leads s_defeats s_defeaters, ceX3 hp1 s_p1_size s_p1_heard s_p1_mode s_p1_cast s_p1_figures s_p1_voices s_p1_attacks s_p1_supports] sz) (fun u : Int64 × Int64 × Int64 × Int64 => [ceX1 h0 u.1 u.2.1 u.2.2.1 u.2.2.2, ceX3 hp1 s_p1_size s_p1_heard s_p1_mode s_p1_cast s_p1_figures s_p1_voices s_p1_attacks s_p1_supports])) (va_A [ceX1 h0 s_hits s_leads s_defeats s_defeaters, ceX3 hp1 s_p1_size s_p1_heard s_p1_mode s_p1_cast s_p1_figures s_p1_voices s_p1_attacks s_p1_supports] sz)) 0 0 (va_A [ceX1 h0 s_hits s_leads s_defeats s_defeaters, ceX3 hp1 s_p1_size s_p1_heard s_p1_mode s_p1_cast s_p1_figures s_p1_voices s_p1_attacks s_p1_supports] sz) := by
  refine Met.ofW (cc := cX1_reckon) (maxL := 2) (ret := none) (by decide) rfl ?_
  intro p e s m args below meth c s₁ B hml hv
  obtain ⟨rfl, hsz, hP, hK, hD0⟩ := hv
  have hx := B.exec
  have hb := B.bytes
  have hr := B.returns
  have hts := atoms_spec (ws := wsX1_reckon) B.pre
  have hown : s.vm.findClass RX1 = some m.cls := findClass_of_methodNamed B.named
  have hlocks := B.notSynchronized
  subst hsz
  have hD := hD0.self (sz := s.heap.size)
  generalize hAe : va_A [ceX1 h0 s_hits s_leads s_defeats s_defeaters, ceX3 hp1 s_p1_size s_p1_heard s_p1_mode s_p1_cast s_p1_figures s_p1_voices s_p1_attacks s_p1_supports] s.heap.size = A at hD ⊢
  have hA : ∀ q : Nat, s.heap.size ≤ q → A q := fun q h => by rw [← hAe]; exact Or.inr h
  have hS : va_S A s.heap s.heap [] := va_S.rf
  have hP : va_P G.1 vwCl [ceX1 h0 s_hits s_leads s_defeats s_defeaters, ceX3 hp1 s_p1_size s_p1_heard s_p1_mode s_p1_cast s_p1_figures s_p1_voices s_p1_attacks s_p1_supports] s.heap := hP
  have hl := lv_entry ([.ref h0, .ref hp1]) (n := 2) (Nat.le_of_ble_eq_true rfl)
  rw [lg_entry_eq]
  generalize (lg_sl ([.ref h0, .ref hp1]) ++ List.replicate (2 - (lg_sl ([.ref h0, .ref hp1])).length) Slot.unset).toArray = ls at hl ⊢
  have hl : lv_has ls 2 [(0, .ref h0), (1, .ref hp1)] := hl
  have kf0 := hts (.fieldLink RX1 9 "HallOfClaims$Defeats" "hits" "J") (List.mem_of_getElem? (i := 1) (by decide +kernel))
  have kf1 := hts (.fieldLink RX1 28 "HallOfClaims$Hall" "supports" "J") (List.mem_of_getElem? (i := 2) (by decide +kernel))
  have kf2 := hts (.fieldLink RX1 33 "HallOfClaims$Hall" "heard" "I") (List.mem_of_getElem? (i := 3) (by decide +kernel))
  have kf3 := hts (.fieldLink RX1 15 "HallOfClaims$Defeats" "leads" "J") (List.mem_of_getElem? (i := 4) (by decide +kernel))
  have kf4 := hts (.fieldLink RX1 18 "HallOfClaims$Defeats" "defeats" "J") (List.mem_of_getElem? (i := 5) (by decide +kernel))
  have kf5 := hts (.fieldLink RX1 47 "HallOfClaims$Hall" "mode" "I") (List.mem_of_getElem? (i := 6) (by decide +kernel))
  have kf6 := hts (.fieldLink RX1 21 "HallOfClaims$Defeats" "defeaters" "J") (List.mem_of_getElem? (i := 7) (by decide +kernel))
  have ki_X1 : ∀ w ∈ u_ws RX1 TX1 4, w ∈ wsX1_reckon := by decide +kernel
  have ki_X3 : ∀ w ∈ u_ws RX3 TX3 8, w ∈ wsX1_reckon := by decide +kernel
  have w86 : ∀ (s_hits : Int64) (s_leads : Int64) (s_defeats : Int64) (s_defeaters : Int64) , wp_X1_reckon_86 post s_p1_size s_p1_heard s_p1_mode s_p1_cast s_p1_figures s_p1_attacks s_p1_supports s_hits s_leads s_defeats s_defeaters → ∀ (H : Heap) (locs : List Loc) (ls : Array Slot), va_P G.1 vwCl [ceX1 h0 s_hits s_leads s_defeats s_defeaters, ceX3 hp1 s_p1_size s_p1_heard s_p1_mode s_p1_cast s_p1_figures s_p1_voices s_p1_attacks s_p1_supports] H → va_D A [ceX1 h0 s_hits s_leads s_defeats s_defeaters, ceX3 hp1 s_p1_size s_p1_heard s_p1_mode s_p1_cast s_p1_figures s_p1_voices s_p1_attacks s_p1_supports] → va_S A s.heap H locs → lv_has ls 2 [(0, .ref h0)] → W p l e (headSpec wsX1_reckon ({ frames := 3, cells := 0, slots := 0, locals := 75 })).room s m ([.ref h0, .ref hp1] : List Value).toArray below meth c H locs 0 0 (MQ below (va_Qv (fun u : Int64 × Int64 × Int64 × Int64 => post u.1 u.2.1 u.2.2.1 u.2.2.2) (hcB G A (fun u : Int64 × Int64 × Int64 × Int64 => [ceX1 h0 u.1 u.2.1 u.2.2.1 u.2.2.2, ceX3 hp1 s_p1_size s_p1_heard s_p1_mode s_p1_cast s_p1_figures s_p1_voices s_p1_attacks s_p1_supports])) A) ([.ref h0, .ref hp1] : List Value).toArray s 0 0 A) (F0 m 86 ls []) := by
    intro s_hits s_leads s_defeats s_defeaters h H locs ls hP hD hS hl
    unfold wp_X1_reckon_86 at h
    refine lv_aload_n hx hb dX1_reckon_86 rfl (lv_at hl 0 rfl) ?_
    refine lv_dup hx hb dX1_reckon_87 rfl ?_
    refine va_get (D := G.1) (ci := 0) (v := .long s_defeats) (C := RX1) (T := TX1) (N := 4) hx hb hts ki_X1 hown hK.1 hP 0 rfl rfl 2 (by decide) kf4 (fun _ h9 => h9) rfl dX1_reckon_88 ?_
    refine lv_aload_n hx hb dX1_reckon_91 rfl (lv_at hl 0 rfl) ?_
    refine va_get (D := G.1) (ci := 0) (v := .long s_hits) (C := RX1) (T := TX1) (N := 4) hx hb hts ki_X1 hown hK.1 hP 0 rfl rfl 0 (by decide) kf0 (fun _ h9 => h9) rfl dX1_reckon_92 ?_
    refine lv_aload_n hx hb dX1_reckon_95 rfl (lv_at hl 0 rfl) ?_
    refine va_get (D := G.1) (ci := 0) (v := .long s_leads) (C := RX1) (T := TX1) (N := 4) hx hb hts ki_X1 hown hK.1 hP 0 rfl rfl 1 (by decide) kf3 (fun _ h9 => h9) rfl dX1_reckon_96 ?_
    refine hc_kl (wr := [ceX1 h0 s_hits s_leads s_defeats s_defeaters, ceX3 hp1 s_p1_size s_p1_heard s_p1_mode s_p1_cast s_p1_figures s_p1_voices s_p1_attacks s_p1_supports]) (va_runS (As := [.long s_hits, .long s_leads]) (rest := [.long s_defeats, .ref h0]) ⟨hx, hb, hml, hown, hts⟩ (c_X0_joined l G H.size s_hits s_leads _ h) (va_cwS 2 hts gX1_reckon_X0_joined rfl rfl rfl (by decide +kernel) ⟨Nat.le_of_ble_eq_true rfl, Nat.le_of_ble_eq_true rfl⟩) (hc_pS hK hP hD [] rfl rfl) rfl rfl hl.1 rfl (lv_room (Nat.le_of_ble_eq_true rfl)) dX1_reckon_99 ⟨Nat.le_refl _, Nat.le_refl _⟩) hP hD hS hA [] [0, 1] rfl rfl rfl (by decide) (fun r99 u H locs h hP hD hS => ?_)
    try dsimp only at h
    have hP : va_P G.1 vwCl [ceX1 h0 s_hits s_leads s_defeats s_defeaters, ceX3 hp1 s_p1_size s_p1_heard s_p1_mode s_p1_cast s_p1_figures s_p1_voices s_p1_attacks s_p1_supports] H := hP
    have hD : va_D A [ceX1 h0 s_hits s_leads s_defeats s_defeaters, ceX3 hp1 s_p1_size s_p1_heard s_p1_mode s_p1_cast s_p1_figures s_p1_voices s_p1_attacks s_p1_supports] := hD
    refine lv_lor hx hb dX1_reckon_102 ?_
    refine va_put (D := G.1) (ci := 0) (v := .long (s_defeats ||| r99)) (ty := .long) (C := RX1) (T := TX1) (N := 4) hx hb hts ki_X1 tyX1 tyX1_ok nmX1 hown hK.1 hP hD hS 0 rfl rfl 2 (by decide) kf4 (fun _ h9 => h9) rfl (by decide +kernel) rfl rfl (Nat.le_of_ble_eq_true rfl) dX1_reckon_103 (fun H locs hP hD hS => ?_)
    have hP : va_P G.1 vwCl [ceX1 h0 s_hits s_leads (s_defeats ||| r99) s_defeaters, ceX3 hp1 s_p1_size s_p1_heard s_p1_mode s_p1_cast s_p1_figures s_p1_voices s_p1_attacks s_p1_supports] H := hP
    have hD : va_D A [ceX1 h0 s_hits s_leads (s_defeats ||| r99) s_defeaters, ceX3 hp1 s_p1_size s_p1_heard s_p1_mode s_p1_cast s_p1_figures s_p1_voices s_p1_attacks s_p1_supports] := hD
    refine lv_aload_n hx hb dX1_reckon_106 rfl (lv_at hl 0 rfl) ?_
    refine lv_aload_n hx hb dX1_reckon_107 rfl (lv_at hl 0 rfl) ?_
    refine va_get (D := G.1) (ci := 0) (v := .long (s_defeats ||| r99)) (C := RX1) (T := TX1) (N := 4) hx hb hts ki_X1 hown hK.1 hP 0 rfl rfl 2 (by decide) kf4 (fun _ h9 => h9) rfl dX1_reckon_108 ?_
    refine hc_kl (wr := [ceX1 h0 s_hits s_leads (s_defeats ||| r99) s_defeaters, ceX3 hp1 s_p1_size s_p1_heard s_p1_mode s_p1_cast s_p1_figures s_p1_voices s_p1_attacks s_p1_supports]) (va_runS (As := [.long (s_defeats ||| r99)]) (rest := [.ref h0]) ⟨hx, hb, hml, hown, hts⟩ (c_X0_turned l G H.size (s_defeats ||| r99) _ h) (va_cwS 1 hts gX1_reckon_X0_turned rfl rfl rfl (by decide +kernel) ⟨Nat.le_of_ble_eq_true rfl, Nat.le_of_ble_eq_true rfl⟩) (hc_pS hK hP hD [] rfl rfl) rfl rfl hl.1 rfl (lv_room (Nat.le_of_ble_eq_true rfl)) dX1_reckon_111 ⟨Nat.le_refl _, Nat.le_refl _⟩) hP hD hS hA [] [0, 1] rfl rfl rfl (by decide) (fun r111 u H locs h hP hD hS => ?_)
    try dsimp only at h
    have hP : va_P G.1 vwCl [ceX1 h0 s_hits s_leads (s_defeats ||| r99) s_defeaters, ceX3 hp1 s_p1_size s_p1_heard s_p1_mode s_p1_cast s_p1_figures s_p1_voices s_p1_attacks s_p1_supports] H := hP
    have hD : va_D A [ceX1 h0 s_hits s_leads (s_defeats ||| r99) s_defeaters, ceX3 hp1 s_p1_size s_p1_heard s_p1_mode s_p1_cast s_p1_figures s_p1_voices s_p1_attacks s_p1_supports] := hD
    refine va_put (D := G.1) (ci := 0) (v := .long r111) (ty := .long) (C := RX1) (T := TX1) (N := 4) hx hb hts ki_X1 tyX1 tyX1_ok nmX1 hown hK.1 hP hD hS 0 rfl rfl 3 (by decide) kf6 (fun _ h9 => h9) rfl (by decide +kernel) rfl rfl (Nat.le_of_ble_eq_true rfl) dX1_reckon_114 (fun H locs hP hD hS => ?_)
    have hP : va_P G.1 vwCl [ceX1 h0 s_hits s_leads (s_defeats ||| r99) r111, ceX3 hp1 s_p1_size s_p1_heard s_p1_mode s_p1_cast s_p1_figures s_p1_voices s_p1_attacks s_p1_supports] H := hP
    have hD : va_D A [ceX1 h0 s_hits s_leads (s_defeats ||| r99) r111, ceX3 hp1 s_p1_size s_p1_heard s_p1_mode s_p1_cast s_p1_figures s_p1_voices s_p1_attacks s_p1_supports] := hD
    exact W.vret hx hb hr (fun t ht hW => ⟨⟨⟨s_hits, s_leads, (s_defeats ||| r99), r111⟩, rfl, h, ⟨by rw [ht]; exact hP, hD⟩⟩, hS.F ht⟩) hS.2.2 dX1_reckon_117
  have w70 : ∀ (s_hits : Int64) (s_leads : Int64) (s_defeats : Int64) (s_defeaters : Int64) , wp_X1_reckon_70 post s_p1_size s_p1_heard s_p1_mode s_p1_cast s_p1_figures s_p1_attacks s_p1_supports s_hits s_leads s_defeats s_defeaters → ∀ (H : Heap) (locs : List Loc) (ls : Array Slot), va_P G.1 vwCl [ceX1 h0 s_hits s_leads s_defeats s_defeaters, ceX3 hp1 s_p1_size s_p1_heard s_p1_mode s_p1_cast s_p1_figures s_p1_voices s_p1_attacks s_p1_supports] H → va_D A [ceX1 h0 s_hits s_leads s_defeats s_defeaters, ceX3 hp1 s_p1_size s_p1_heard s_p1_mode s_p1_cast s_p1_figures s_p1_voices s_p1_attacks s_p1_supports] → va_S A s.heap H locs → lv_has ls 2 [(0, .ref h0), (1, .ref hp1)] → W p l e (headSpec wsX1_reckon ({ frames := 3, cells := 0, slots := 0, locals := 75 })).room s m ([.ref h0, .ref hp1] : List Value).toArray below meth c H locs 0 0 (MQ below (va_Qv (fun u : Int64 × Int64 × Int64 × Int64 => post u.1 u.2.1 u.2.2.1 u.2.2.2) (hcB G A (fun u : Int64 × Int64 × Int64 × Int64 => [ceX1 h0 u.1 u.2.1 u.2.2.1 u.2.2.2, ceX3 hp1 s_p1_size s_p1_heard s_p1_mode s_p1_cast s_p1_figures s_p1_voices s_p1_attacks s_p1_supports])) A) ([.ref h0, .ref hp1] : List Value).toArray s 0 0 A) (F0 m 70 ls []) := by
    intro s_hits s_leads s_defeats s_defeaters h H locs ls hP hD hS hl
    unfold wp_X1_reckon_70 at h
    refine lv_aload_n hx hb dX1_reckon_70 rfl (lv_at hl 1 rfl) ?_
    refine va_get (D := G.1) (ci := 2) (v := .int s_p1_mode) (C := RX3) (T := TX3) (N := 8) hx hb hts ki_X3 hown hK.1 hP 1 rfl rfl 2 (by decide) kf5 (fun _ h9 => h9) rfl dX1_reckon_71 ?_
    refine lv_iconst (v := nI 2) hx hb dX1_reckon_74 kc_2 ?_
    refine lv_icmp_eq (tgt := 86) hx hb dX1_reckon_75 (by decide) (fun c => ?_) (fun c => ?_)
    · replace h := h.1 c
      exact w86  s_hits s_leads s_defeats s_defeaters h _ _ _ hP hD hS (lv_sub hl [0] rfl)
    · replace h := h.2 c
      refine lv_aload_n hx hb dX1_reckon_78 rfl (lv_at hl 1 rfl) ?_
      refine va_get (D := G.1) (ci := 2) (v := .int s_p1_mode) (C := RX3) (T := TX3) (N := 8) hx hb hts ki_X3 hown hK.1 hP 1 rfl rfl 2 (by decide) kf5 (fun _ h9 => h9) rfl dX1_reckon_79 ?_
      refine lv_iconst (v := nI 3) hx hb dX1_reckon_82 kc_3 ?_
      refine lv_icmp_ne (tgt := 106) hx hb dX1_reckon_83 (by decide) (fun c => ?_) (fun c => ?_)
      · replace h := h.1 c
        refine lv_aload_n hx hb dX1_reckon_106 rfl (lv_at hl 0 rfl) ?_
        refine lv_aload_n hx hb dX1_reckon_107 rfl (lv_at hl 0 rfl) ?_
        refine va_get (D := G.1) (ci := 0) (v := .long s_defeats) (C := RX1) (T := TX1) (N := 4) hx hb hts ki_X1 hown hK.1 hP 0 rfl rfl 2 (by decide) kf4 (fun _ h9 => h9) rfl dX1_reckon_108 ?_
        refine hc_kl (wr := [ceX1 h0 s_hits s_leads s_defeats s_defeaters, ceX3 hp1 s_p1_size s_p1_heard s_p1_mode s_p1_cast s_p1_figures s_p1_voices s_p1_attacks s_p1_supports]) (va_runS (As := [.long s_defeats]) (rest := [.ref h0]) ⟨hx, hb, hml, hown, hts⟩ (c_X0_turned l G H.size s_defeats _ h) (va_cwS 1 hts gX1_reckon_X0_turned rfl rfl rfl (by decide +kernel) ⟨Nat.le_of_ble_eq_true rfl, Nat.le_of_ble_eq_true rfl⟩) (hc_pS hK hP hD [] rfl rfl) rfl rfl hl.1 rfl (lv_room (Nat.le_of_ble_eq_true rfl)) dX1_reckon_111 ⟨Nat.le_refl _, Nat.le_refl _⟩) hP hD hS hA [] [0, 1] rfl rfl rfl (by decide) (fun r111 u H locs h hP hD hS => ?_)
        try dsimp only at h
        have hP : va_P G.1 vwCl [ceX1 h0 s_hits s_leads s_defeats s_defeaters, ceX3 hp1 s_p1_size s_p1_heard s_p1_mode s_p1_cast s_p1_figures s_p1_voices s_p1_attacks s_p1_supports] H := hP
        have hD : va_D A [ceX1 h0 s_hits s_leads s_defeats s_defeaters, ceX3 hp1 s_p1_size s_p1_heard s_p1_mode s_p1_cast s_p1_figures s_p1_voices s_p1_attacks s_p1_supports] := hD
        refine va_put (D := G.1) (ci := 0) (v := .long r111) (ty := .long) (C := RX1) (T := TX1) (N := 4) hx hb hts ki_X1 tyX1 tyX1_ok nmX1 hown hK.1 hP hD hS 0 rfl rfl 3 (by decide) kf6 (fun _ h9 => h9) rfl (by decide +kernel) rfl rfl (Nat.le_of_ble_eq_true rfl) dX1_reckon_114 (fun H locs hP hD hS => ?_)
        have hP : va_P G.1 vwCl [ceX1 h0 s_hits s_leads s_defeats r111, ceX3 hp1 s_p1_size s_p1_heard s_p1_mode s_p1_cast s_p1_figures s_p1_voices s_p1_attacks s_p1_supports] H := hP
        have hD : va_D A [ceX1 h0 s_hits s_leads s_defeats r111, ceX3 hp1 s_p1_size s_p1_heard s_p1_mode s_p1_cast s_p1_figures s_p1_voices s_p1_attacks s_p1_supports] := hD
        exact W.vret hx hb hr (fun t ht hW => ⟨⟨⟨s_hits, s_leads, s_defeats, r111⟩, rfl, h, ⟨by rw [ht]; exact hP, hD⟩⟩, hS.F ht⟩) hS.2.2 dX1_reckon_117
      · replace h := h.2 c
        exact w86  s_hits s_leads s_defeats s_defeaters h _ _ _ hP hD hS (lv_sub hl [0] rfl)
  have w50 : ∀ (s_hits : Int64) (s_leads : Int64) (s_defeats : Int64) (s_defeaters : Int64) , wp_X1_reckon_50 post s_p1_size s_p1_heard s_p1_mode s_p1_cast s_p1_figures s_p1_attacks s_p1_supports s_hits s_leads s_defeats s_defeaters → ∀ (H : Heap) (locs : List Loc) (ls : Array Slot), va_P G.1 vwCl [ceX1 h0 s_hits s_leads s_defeats s_defeaters, ceX3 hp1 s_p1_size s_p1_heard s_p1_mode s_p1_cast s_p1_figures s_p1_voices s_p1_attacks s_p1_supports] H → va_D A [ceX1 h0 s_hits s_leads s_defeats s_defeaters, ceX3 hp1 s_p1_size s_p1_heard s_p1_mode s_p1_cast s_p1_figures s_p1_voices s_p1_attacks s_p1_supports] → va_S A s.heap H locs → lv_has ls 2 [(0, .ref h0), (1, .ref hp1)] → W p l e (headSpec wsX1_reckon ({ frames := 3, cells := 0, slots := 0, locals := 75 })).room s m ([.ref h0, .ref hp1] : List Value).toArray below meth c H locs 0 0 (MQ below (va_Qv (fun u : Int64 × Int64 × Int64 × Int64 => post u.1 u.2.1 u.2.2.1 u.2.2.2) (hcB G A (fun u : Int64 × Int64 × Int64 × Int64 => [ceX1 h0 u.1 u.2.1 u.2.2.1 u.2.2.2, ceX3 hp1 s_p1_size s_p1_heard s_p1_mode s_p1_cast s_p1_figures s_p1_voices s_p1_attacks s_p1_supports])) A) ([.ref h0, .ref hp1] : List Value).toArray s 0 0 A) (F0 m 50 ls []) := by
    intro s_hits s_leads s_defeats s_defeaters h H locs ls hP hD hS hl
    unfold wp_X1_reckon_50 at h
    refine lv_aload_n hx hb dX1_reckon_50 rfl (lv_at hl 0 rfl) ?_
    refine lv_dup hx hb dX1_reckon_51 rfl ?_
    refine va_get (D := G.1) (ci := 0) (v := .long s_defeats) (C := RX1) (T := TX1) (N := 4) hx hb hts ki_X1 hown hK.1 hP 0 rfl rfl 2 (by decide) kf4 (fun _ h9 => h9) rfl dX1_reckon_52 ?_
    refine lv_aload_n hx hb dX1_reckon_55 rfl (lv_at hl 0 rfl) ?_
    refine va_get (D := G.1) (ci := 0) (v := .long s_leads) (C := RX1) (T := TX1) (N := 4) hx hb hts ki_X1 hown hK.1 hP 0 rfl rfl 1 (by decide) kf3 (fun _ h9 => h9) rfl dX1_reckon_56 ?_
    refine lv_aload_n hx hb dX1_reckon_59 rfl (lv_at hl 0 rfl) ?_
    refine va_get (D := G.1) (ci := 0) (v := .long s_hits) (C := RX1) (T := TX1) (N := 4) hx hb hts ki_X1 hown hK.1 hP 0 rfl rfl 0 (by decide) kf0 (fun _ h9 => h9) rfl dX1_reckon_60 ?_
    refine hc_kl (wr := [ceX1 h0 s_hits s_leads s_defeats s_defeaters, ceX3 hp1 s_p1_size s_p1_heard s_p1_mode s_p1_cast s_p1_figures s_p1_voices s_p1_attacks s_p1_supports]) (va_runS (As := [.long s_leads, .long s_hits]) (rest := [.long s_defeats, .ref h0]) ⟨hx, hb, hml, hown, hts⟩ (c_X0_joined l G H.size s_leads s_hits _ h) (va_cwS 2 hts gX1_reckon_X0_joined rfl rfl rfl (by decide +kernel) ⟨Nat.le_of_ble_eq_true rfl, Nat.le_of_ble_eq_true rfl⟩) (hc_pS hK hP hD [] rfl rfl) rfl rfl hl.1 rfl (lv_room (Nat.le_of_ble_eq_true rfl)) dX1_reckon_63 ⟨Nat.le_refl _, Nat.le_refl _⟩) hP hD hS hA [] [0, 1] rfl rfl rfl (by decide) (fun r63 u H locs h hP hD hS => ?_)
    try dsimp only at h
    have hP : va_P G.1 vwCl [ceX1 h0 s_hits s_leads s_defeats s_defeaters, ceX3 hp1 s_p1_size s_p1_heard s_p1_mode s_p1_cast s_p1_figures s_p1_voices s_p1_attacks s_p1_supports] H := hP
    have hD : va_D A [ceX1 h0 s_hits s_leads s_defeats s_defeaters, ceX3 hp1 s_p1_size s_p1_heard s_p1_mode s_p1_cast s_p1_figures s_p1_voices s_p1_attacks s_p1_supports] := hD
    refine lv_lor hx hb dX1_reckon_66 ?_
    refine va_put (D := G.1) (ci := 0) (v := .long (s_defeats ||| r63)) (ty := .long) (C := RX1) (T := TX1) (N := 4) hx hb hts ki_X1 tyX1 tyX1_ok nmX1 hown hK.1 hP hD hS 0 rfl rfl 2 (by decide) kf4 (fun _ h9 => h9) rfl (by decide +kernel) rfl rfl (Nat.le_of_ble_eq_true rfl) dX1_reckon_67 (fun H locs hP hD hS => ?_)
    have hP : va_P G.1 vwCl [ceX1 h0 s_hits s_leads (s_defeats ||| r63) s_defeaters, ceX3 hp1 s_p1_size s_p1_heard s_p1_mode s_p1_cast s_p1_figures s_p1_voices s_p1_attacks s_p1_supports] H := hP
    have hD : va_D A [ceX1 h0 s_hits s_leads (s_defeats ||| r63) s_defeaters, ceX3 hp1 s_p1_size s_p1_heard s_p1_mode s_p1_cast s_p1_figures s_p1_voices s_p1_attacks s_p1_supports] := hD
    exact w70  s_hits s_leads (s_defeats ||| r63) s_defeaters h _ _ _ hP hD hS (lv_sub hl [0, 1] rfl)
  unfold wp_X1_reckon at h
  refine lv_aload_n hx hb dX1_reckon_0 rfl (lv_at hl 0 rfl) ?_
  refine lv_aload_n hx hb dX1_reckon_1 rfl (lv_at hl 1 rfl) ?_
  refine hc_kl (wr := [ceX1 h0 s_hits s_leads s_defeats s_defeaters]) (va_runS (As := [.ref hp1]) (rest := [.ref h0]) ⟨hx, hb, hml, hown, hts⟩ (c_X1_hitsIn l G hp1 s.heap.size s_p1_size s_p1_heard s_p1_mode s_p1_cast s_p1_figures s_p1_voices s_p1_attacks s_p1_supports _ h) (va_cwS 1 hts gX1_reckon_X1_hitsIn rfl rfl rfl (by decide +kernel) ⟨Nat.le_of_ble_eq_true rfl, Nat.le_of_ble_eq_true rfl⟩) (hc_pS hK hP hD [1] rfl rfl) rfl rfl hl.1 rfl (lv_room (Nat.le_of_ble_eq_true rfl)) dX1_reckon_2 ⟨Nat.le_refl _, Nat.le_refl _⟩) hP hD hS hA [1] [0] rfl rfl rfl (by decide) (fun r2 u H locs h hP hD hS => ?_)
  try dsimp only at h
  have hP : va_P G.1 vwCl [ceX1 h0 s_hits s_leads s_defeats s_defeaters, ceX3 hp1 s_p1_size s_p1_heard s_p1_mode s_p1_cast s_p1_figures s_p1_voices s_p1_attacks s_p1_supports] H := hP
  have hD : va_D A [ceX1 h0 s_hits s_leads s_defeats s_defeaters, ceX3 hp1 s_p1_size s_p1_heard s_p1_mode s_p1_cast s_p1_figures s_p1_voices s_p1_attacks s_p1_supports] := hD
  refine va_put (D := G.1) (ci := 0) (v := .long r2) (ty := .long) (C := RX1) (T := TX1) (N := 4) hx hb hts ki_X1 tyX1 tyX1_ok nmX1 hown hK.1 hP hD hS 0 rfl rfl 0 (by decide) kf0 (fun _ h9 => h9) rfl (by decide +kernel) rfl rfl (Nat.le_of_ble_eq_true rfl) dX1_reckon_5 (fun H locs hP hD hS => ?_)
  have hP : va_P G.1 vwCl [ceX1 h0 r2 s_leads s_defeats s_defeaters, ceX3 hp1 s_p1_size s_p1_heard s_p1_mode s_p1_cast s_p1_figures s_p1_voices s_p1_attacks s_p1_supports] H := hP
  have hD : va_D A [ceX1 h0 r2 s_leads s_defeats s_defeaters, ceX3 hp1 s_p1_size s_p1_heard s_p1_mode s_p1_cast s_p1_figures s_p1_voices s_p1_attacks s_p1_supports] := hD
  refine lv_aload_n hx hb dX1_reckon_8 rfl (lv_at hl 0 rfl) ?_
  refine lv_aload_n hx hb dX1_reckon_9 rfl (lv_at hl 1 rfl) ?_
  refine va_get (D := G.1) (ci := 2) (v := .long s_p1_supports) (C := RX3) (T := TX3) (N := 8) hx hb hts ki_X3 hown hK.1 hP 1 rfl rfl 7 (by decide) kf1 (fun _ h9 => h9) rfl dX1_reckon_10 ?_
  refine lv_aload_n hx hb dX1_reckon_13 rfl (lv_at hl 1 rfl) ?_
  refine va_get (D := G.1) (ci := 2) (v := .int s_p1_heard) (C := RX3) (T := TX3) (N := 8) hx hb hts ki_X3 hown hK.1 hP 1 rfl rfl 1 (by decide) kf2 (fun _ h9 => h9) rfl dX1_reckon_14 ?_
  refine hc_kl (wr := [ceX1 h0 r2 s_leads s_defeats s_defeaters, ceX3 hp1 s_p1_size s_p1_heard s_p1_mode s_p1_cast s_p1_figures s_p1_voices s_p1_attacks s_p1_supports]) (va_runS (As := [.long s_p1_supports, .int s_p1_heard]) (rest := [.ref h0]) ⟨hx, hb, hml, hown, hts⟩ (c_X0_within l G H.size s_p1_supports s_p1_heard _ h) (va_cwS 2 hts gX1_reckon_X0_within rfl rfl rfl (by decide +kernel) ⟨Nat.le_of_ble_eq_true rfl, Nat.le_of_ble_eq_true rfl⟩) (hc_pS hK hP hD [] rfl rfl) rfl rfl hl.1 rfl (lv_room (Nat.le_of_ble_eq_true rfl)) dX1_reckon_17 ⟨Nat.le_refl _, Nat.le_refl _⟩) hP hD hS hA [] [0, 1] rfl rfl rfl (by decide) (fun r17 u H locs h hP hD hS => ?_)
  try dsimp only at h
  have hP : va_P G.1 vwCl [ceX1 h0 r2 s_leads s_defeats s_defeaters, ceX3 hp1 s_p1_size s_p1_heard s_p1_mode s_p1_cast s_p1_figures s_p1_voices s_p1_attacks s_p1_supports] H := hP
  have hD : va_D A [ceX1 h0 r2 s_leads s_defeats s_defeaters, ceX3 hp1 s_p1_size s_p1_heard s_p1_mode s_p1_cast s_p1_figures s_p1_voices s_p1_attacks s_p1_supports] := hD
  refine hc_kl (wr := [ceX1 h0 r2 s_leads s_defeats s_defeaters, ceX3 hp1 s_p1_size s_p1_heard s_p1_mode s_p1_cast s_p1_figures s_p1_voices s_p1_attacks s_p1_supports]) (va_runS (As := [.long r17]) (rest := [.ref h0]) ⟨hx, hb, hml, hown, hts⟩ (c_X0_closed l G H.size r17 _ h) (va_cwS 1 hts gX1_reckon_X0_closed rfl rfl rfl (by decide +kernel) ⟨Nat.le_of_ble_eq_true rfl, Nat.le_of_ble_eq_true rfl⟩) (hc_pS hK hP hD [] rfl rfl) rfl rfl hl.1 rfl (lv_room (Nat.le_of_ble_eq_true rfl)) dX1_reckon_20 ⟨Nat.le_refl _, Nat.le_refl _⟩) hP hD hS hA [] [0, 1] rfl rfl rfl (by decide) (fun r20 u H locs h hP hD hS => ?_)
  try dsimp only at h
  have hP : va_P G.1 vwCl [ceX1 h0 r2 s_leads s_defeats s_defeaters, ceX3 hp1 s_p1_size s_p1_heard s_p1_mode s_p1_cast s_p1_figures s_p1_voices s_p1_attacks s_p1_supports] H := hP
  have hD : va_D A [ceX1 h0 r2 s_leads s_defeats s_defeaters, ceX3 hp1 s_p1_size s_p1_heard s_p1_mode s_p1_cast s_p1_figures s_p1_voices s_p1_attacks s_p1_supports] := hD
  refine va_put (D := G.1) (ci := 0) (v := .long r20) (ty := .long) (C := RX1) (T := TX1) (N := 4) hx hb hts ki_X1 tyX1 tyX1_ok nmX1 hown hK.1 hP hD hS 0 rfl rfl 1 (by decide) kf3 (fun _ h9 => h9) rfl (by decide +kernel) rfl rfl (Nat.le_of_ble_eq_true rfl) dX1_reckon_23 (fun H locs hP hD hS => ?_)
  have hP : va_P G.1 vwCl [ceX1 h0 r2 r20 s_defeats s_defeaters, ceX3 hp1 s_p1_size s_p1_heard s_p1_mode s_p1_cast s_p1_figures s_p1_voices s_p1_attacks s_p1_supports] H := hP
  have hD : va_D A [ceX1 h0 r2 r20 s_defeats s_defeaters, ceX3 hp1 s_p1_size s_p1_heard s_p1_mode s_p1_cast s_p1_figures s_p1_voices s_p1_attacks s_p1_supports] := hD
  refine lv_aload_n hx hb dX1_reckon_26 rfl (lv_at hl 0 rfl) ?_
  refine lv_aload_n hx hb dX1_reckon_27 rfl (lv_at hl 0 rfl) ?_
  refine va_get (D := G.1) (ci := 0) (v := .long r2) (C := RX1) (T := TX1) (N := 4) hx hb hts ki_X1 hown hK.1 hP 0 rfl rfl 0 (by decide) kf0 (fun _ h9 => h9) rfl dX1_reckon_28 ?_
  refine va_put (D := G.1) (ci := 0) (v := .long r2) (ty := .long) (C := RX1) (T := TX1) (N := 4) hx hb hts ki_X1 tyX1 tyX1_ok nmX1 hown hK.1 hP hD hS 0 rfl rfl 2 (by decide) kf4 (fun _ h9 => h9) rfl (by decide +kernel) rfl rfl (Nat.le_of_ble_eq_true rfl) dX1_reckon_31 (fun H locs hP hD hS => ?_)
  have hP : va_P G.1 vwCl [ceX1 h0 r2 r20 r2 s_defeaters, ceX3 hp1 s_p1_size s_p1_heard s_p1_mode s_p1_cast s_p1_figures s_p1_voices s_p1_attacks s_p1_supports] H := hP
  have hD : va_D A [ceX1 h0 r2 r20 r2 s_defeaters, ceX3 hp1 s_p1_size s_p1_heard s_p1_mode s_p1_cast s_p1_figures s_p1_voices s_p1_attacks s_p1_supports] := hD
  refine lv_aload_n hx hb dX1_reckon_34 rfl (lv_at hl 1 rfl) ?_
  refine va_get (D := G.1) (ci := 2) (v := .int s_p1_mode) (C := RX3) (T := TX3) (N := 8) hx hb hts ki_X3 hown hK.1 hP 1 rfl rfl 2 (by decide) kf5 (fun _ h9 => h9) rfl dX1_reckon_35 ?_
  refine lv_iconst (v := nI 1) hx hb dX1_reckon_38 kc_1 ?_
  refine lv_icmp_eq (tgt := 50) hx hb dX1_reckon_39 (by decide) (fun c => ?_) (fun c => ?_)
  · replace h := h.1 c
    exact w50  r2 r20 r2 s_defeaters h _ _ _ hP hD hS (lv_sub hl [0, 1] rfl)
  · replace h := h.2 c
    refine lv_aload_n hx hb dX1_reckon_42 rfl (lv_at hl 1 rfl) ?_
    refine va_get (D := G.1) (ci := 2) (v := .int s_p1_mode) (C := RX3) (T := TX3) (N := 8) hx hb hts ki_X3 hown hK.1 hP 1 rfl rfl 2 (by decide) kf5 (fun _ h9 => h9) rfl dX1_reckon_43 ?_
    refine lv_iconst (v := nI 3) hx hb dX1_reckon_46 kc_3 ?_
    refine lv_icmp_ne (tgt := 70) hx hb dX1_reckon_47 (by decide) (fun c => ?_) (fun c => ?_)
    · replace h := h.1 c
      exact w70  r2 r20 r2 s_defeaters h _ _ _ hP hD hS (lv_sub hl [0, 1] rfl)
    · replace h := h.2 c
      exact w50  r2 r20 r2 s_defeaters h _ _ _ hP hD hS (lv_sub hl [0, 1] rfl)
set_option maxHeartbeats 4000000 in
set_option maxRecDepth 100000 in
theorem c_X2_placeOf (l : Launch) (G : hcG) (sz : Nat) (x0 : Int32) (x1 : Int32) (post : Int32 → Prop) (h : wp_X2_placeOf post x0 x1) : Met l yX2_placeOf wsX2_placeOf ({ frames := 0, cells := 0, slots := 0, locals := 0 }) (hcPc G [.int x0, .int x1] [] sz) (va_Qi (fun (r : Int32) (u : Unit) => post r) (hcB G (va_A [] sz) (fun u : Unit => [])) (va_A [] sz)) 0 0 (va_A [] sz) := by
  refine Met.ofW (cc := cX2_placeOf) (maxL := 2) (ret := (some .int)) (by decide) rfl ?_
  intro p e s m args below meth c s₁ B hml hv
  obtain ⟨rfl, hsz, hP, hK, hD0⟩ := hv
  have hx := B.exec
  have hb := B.bytes
  have hr := B.returns
  have hts := atoms_spec (ws := wsX2_placeOf) B.pre
  have hown : s.vm.findClass RX2 = some m.cls := findClass_of_methodNamed B.named
  have hlocks := B.notSynchronized
  subst hsz
  have hD := hD0.self (sz := s.heap.size)
  generalize hAe : va_A [] s.heap.size = A at hD ⊢
  have hA : ∀ q : Nat, s.heap.size ≤ q → A q := fun q h => by rw [← hAe]; exact Or.inr h
  have hS : va_S A s.heap s.heap [] := va_S.rf
  have hP : va_P G.1 vwCl [] s.heap := hP
  have hl := lv_entry ([.int x0, .int x1]) (n := 2) (Nat.le_of_ble_eq_true rfl)
  rw [lg_entry_eq]
  generalize (lg_sl ([.int x0, .int x1]) ++ List.replicate (2 - (lg_sl ([.int x0, .int x1])).length) Slot.unset).toArray = ls at hl ⊢
  have hl : lv_has ls 2 [(0, .int x0), (1, .int x1)] := hl
  unfold wp_X2_placeOf at h
  refine lv_iload_n hx hb dX2_placeOf_0 rfl (lv_at hl 0 rfl) ?_
  refine lv_sipush (v := nI 255) hx hb dX2_placeOf_1 ks_255 ?_
  refine lv_iand hx hb dX2_placeOf_4 ?_
  refine lv_bipush (v := nI 8) hx hb dX2_placeOf_5 kb_8 ?_
  refine lv_imul hx hb dX2_placeOf_7 ?_
  refine lv_iload_n hx hb dX2_placeOf_8 rfl (lv_at hl 1 rfl) ?_
  refine lv_bipush (v := nI 7) hx hb dX2_placeOf_9 kb_7 ?_
  refine lv_iand hx hb dX2_placeOf_11 ?_
  refine lv_iadd hx hb dX2_placeOf_12 ?_
  exact W.iret (v := ((x0 &&& (nI 255)) * (nI 8)) + (x1 &&& (nI 7))) hx hb hr (fun t ht hW => ⟨⟨_, (), rfl, h, ⟨by rw [ht]; exact hP, hD⟩⟩, hS.F ht⟩) hS.2.2 dX2_placeOf_13
set_option maxHeartbeats 4000000 in
set_option maxRecDepth 100000 in
theorem c_X2_depthAt (l : Launch) (G : hcG) (h0 : Nat) (a_depths : Nat) (a_ways : Nat) (sz : Nat) (s_defeaters : Int64) (g_depths : Nat → Int32) (x1 : Int32) (x2 : Int32) (post : Int32 → Prop) (h : wp_X2_depthAt post g_depths x1 x2) : Met l yX2_depthAt wsX2_depthAt ({ frames := 1, cells := 0, slots := 0, locals := 21 }) (hcPc G [.ref h0, .int x1, .int x2] [ceX2 h0 a_depths a_ways s_defeaters, caI G a_depths 2048 g_depths] sz) (va_Qi (fun (r : Int32) (u : Unit) => post r) (hcB G (va_A [ceX2 h0 a_depths a_ways s_defeaters, caI G a_depths 2048 g_depths] sz) (fun u : Unit => [ceX2 h0 a_depths a_ways s_defeaters, caI G a_depths 2048 g_depths])) (va_A [ceX2 h0 a_depths a_ways s_defeaters, caI G a_depths 2048 g_depths] sz)) 0 0 (va_A [ceX2 h0 a_depths a_ways s_defeaters, caI G a_depths 2048 g_depths] sz) := by
  refine Met.ofW (cc := cX2_depthAt) (maxL := 4) (ret := (some .int)) (by decide) rfl ?_
  intro p e s m args below meth c s₁ B hml hv
  obtain ⟨rfl, hsz, hP, hK, hD0⟩ := hv
  have hx := B.exec
  have hb := B.bytes
  have hr := B.returns
  have hts := atoms_spec (ws := wsX2_depthAt) B.pre
  have hown : s.vm.findClass RX2 = some m.cls := findClass_of_methodNamed B.named
  have hlocks := B.notSynchronized
  subst hsz
  have hD := hD0.self (sz := s.heap.size)
  generalize hAe : va_A [ceX2 h0 a_depths a_ways s_defeaters, caI G a_depths 2048 g_depths] s.heap.size = A at hD ⊢
  have hA : ∀ q : Nat, s.heap.size ≤ q → A q := fun q h => by rw [← hAe]; exact Or.inr h
  have hS : va_S A s.heap s.heap [] := va_S.rf
  have hP : va_P G.1 vwCl [ceX2 h0 a_depths a_ways s_defeaters, caI G a_depths 2048 g_depths] s.heap := hP
  have hl := lv_entry ([.ref h0, .int x1, .int x2]) (n := 4) (Nat.le_of_ble_eq_true rfl)
  rw [lg_entry_eq]
  generalize (lg_sl ([.ref h0, .int x1, .int x2]) ++ List.replicate (4 - (lg_sl ([.ref h0, .int x1, .int x2])).length) Slot.unset).toArray = ls at hl ⊢
  have hl : lv_has ls 4 [(0, .ref h0), (1, .int x1), (2, .int x2)] := hl
  have kf0 := hts (.fieldLink RX2 9 "HallOfClaims$Game" "depths" "[I") (List.mem_of_getElem? (i := 1) (by decide +kernel))
  have ki_X2 : ∀ w ∈ u_ws RX2 TX2 3, w ∈ wsX2_depthAt := by decide +kernel
  unfold wp_X2_depthAt at h
  refine lv_iload_n hx hb dX2_depthAt_0 rfl (lv_at hl 1 rfl) ?_
  refine lv_iload_n hx hb dX2_depthAt_1 rfl (lv_at hl 2 rfl) ?_
  refine hc_ki (wr := [ceX2 h0 a_depths a_ways s_defeaters, caI G a_depths 2048 g_depths]) (va_runS (As := [.int x1, .int x2]) (rest := []) ⟨hx, hb, hml, hown, hts⟩ (c_X2_placeOf l G s.heap.size x1 x2 _ h) (va_cwS 2 hts gX2_depthAt_X2_placeOf rfl rfl rfl (by decide +kernel) ⟨Nat.le_of_ble_eq_true rfl, Nat.le_of_ble_eq_true rfl⟩) (hc_pS hK hP hD [] rfl rfl) rfl rfl hl.1 rfl (lv_room (Nat.le_of_ble_eq_true rfl)) dX2_depthAt_2 ⟨Nat.le_refl _, Nat.le_refl _⟩) hP hD hS hA [] [0, 1] rfl rfl rfl (by decide) (fun r2 u H locs h hP hD hS => ?_)
  try dsimp only at h
  have hP : va_P G.1 vwCl [ceX2 h0 a_depths a_ways s_defeaters, caI G a_depths 2048 g_depths] H := hP
  have hD : va_D A [ceX2 h0 a_depths a_ways s_defeaters, caI G a_depths 2048 g_depths] := hD
  refine lv_istore_n (lv' := [(3, .int r2), (0, .ref h0), (1, .int x1), (2, .int x2)]) hx hb dX2_depthAt_5 rfl hl (by decide) rfl (fun ls hl => ?_)
  refine lv_iload_n hx hb dX2_depthAt_6 rfl (lv_at hl 0 rfl) ?_
  refine lv_if_lt (tgt := 28) hx hb dX2_depthAt_7 (by decide) (fun c => ?_) (fun c => ?_)
  · replace h := h.1 c
    refine lv_iconst (v := nI 0) hx hb dX2_depthAt_28 kc_0 ?_
    exact W.iret (v := nI 0) hx hb hr (fun t ht hW => ⟨⟨_, (), rfl, h, ⟨by rw [ht]; exact hP, hD⟩⟩, hS.F ht⟩) hS.2.2 dX2_depthAt_29
  · replace h := h.2 c
    refine lv_iload_n hx hb dX2_depthAt_10 rfl (lv_at hl 0 rfl) ?_
    refine lv_aload_n hx hb dX2_depthAt_11 rfl (lv_at hl 1 rfl) ?_
    refine va_get (D := G.1) (ci := 1) (v := .ref a_depths) (C := RX2) (T := TX2) (N := 3) hx hb hts ki_X2 hown hK.1 hP 0 rfl rfl 0 (by decide) kf0 (fun _ h9 => h9) rfl dX2_depthAt_12 ?_
    refine va_alen hx hb hK.1 hP 1 0 rfl rfl (v := nI 2048) rfl dX2_depthAt_15 ?_
    refine lv_icmp_ge (tgt := 28) hx hb dX2_depthAt_16 (by decide) (fun c => ?_) (fun c => ?_)
    · replace h := h.1 c
      refine lv_iconst (v := nI 0) hx hb dX2_depthAt_28 kc_0 ?_
      exact W.iret (v := nI 0) hx hb hr (fun t ht hW => ⟨⟨_, (), rfl, h, ⟨by rw [ht]; exact hP, hD⟩⟩, hS.F ht⟩) hS.2.2 dX2_depthAt_29
    · replace h := h.2 c
      refine lv_aload_n hx hb dX2_depthAt_19 rfl (lv_at hl 1 rfl) ?_
      refine va_get (D := G.1) (ci := 1) (v := .ref a_depths) (C := RX2) (T := TX2) (N := 3) hx hb hts ki_X2 hown hK.1 hP 0 rfl rfl 0 (by decide) kf0 (fun _ h9 => h9) rfl dX2_depthAt_20 ?_
      refine lv_iload_n hx hb dX2_depthAt_23 rfl (lv_at hl 0 rfl) ?_
      have hin := h.1
      replace h := h.2
      refine va_iald hx hb hK.1 hP 1 0 rfl rfl hin dX2_depthAt_24 ?_
      refine lv_goto (tgt := 29) hx hb dX2_depthAt_25 (by decide) ?_
      exact W.iret (v := g_depths r2.toNatClampNeg) hx hb hr (fun t ht hW => ⟨⟨_, (), rfl, h, ⟨by rw [ht]; exact hP, hD⟩⟩, hS.F ht⟩) hS.2.2 dX2_depthAt_29
set_option maxHeartbeats 4000000 in
set_option maxRecDepth 100000 in
theorem c_X2_bestAnswer (l : Launch) (G : hcG) (h0 : Nat) (a_depths : Nat) (a_ways : Nat) (sz : Nat) (s_defeaters : Int64) (g_depths : Nat → Int32) (x1 : Int32) (x2 : Int32) (post : Int32 → Prop) (h : wp_X2_bestAnswer post g_depths s_defeaters x1 x2) : Met l yX2_bestAnswer wsX2_bestAnswer ({ frames := 2, cells := 0, slots := 0, locals := 44 }) (hcPc G [.ref h0, .int x1, .int x2] [ceX2 h0 a_depths a_ways s_defeaters, caI G a_depths 2048 g_depths] sz) (va_Qi (fun (r : Int32) (u : Unit) => post r) (hcB G (va_A [ceX2 h0 a_depths a_ways s_defeaters, caI G a_depths 2048 g_depths] sz) (fun u : Unit => [ceX2 h0 a_depths a_ways s_defeaters, caI G a_depths 2048 g_depths])) (va_A [ceX2 h0 a_depths a_ways s_defeaters, caI G a_depths 2048 g_depths] sz)) 0 0 (va_A [ceX2 h0 a_depths a_ways s_defeaters, caI G a_depths 2048 g_depths] sz) := by
  refine Met.ofW (cc := cX2_bestAnswer) (maxL := 8) (ret := (some .int)) (by decide) rfl ?_
  intro p e s m args below meth c s₁ B hml hv
  obtain ⟨rfl, hsz, hP, hK, hD0⟩ := hv
  have hx := B.exec
  have hb := B.bytes
  have hr := B.returns
  have hts := atoms_spec (ws := wsX2_bestAnswer) B.pre
  have hown : s.vm.findClass RX2 = some m.cls := findClass_of_methodNamed B.named
  have hlocks := B.notSynchronized
  subst hsz
  have hD := hD0.self (sz := s.heap.size)
  generalize hAe : va_A [ceX2 h0 a_depths a_ways s_defeaters, caI G a_depths 2048 g_depths] s.heap.size = A at hD ⊢
  have hA : ∀ q : Nat, s.heap.size ≤ q → A q := fun q h => by rw [← hAe]; exact Or.inr h
  have hS : va_S A s.heap s.heap [] := va_S.rf
  have hP : va_P G.1 vwCl [ceX2 h0 a_depths a_ways s_defeaters, caI G a_depths 2048 g_depths] s.heap := hP
  have hl := lv_entry ([.ref h0, .int x1, .int x2]) (n := 8) (Nat.le_of_ble_eq_true rfl)
  rw [lg_entry_eq]
  generalize (lg_sl ([.ref h0, .int x1, .int x2]) ++ List.replicate (8 - (lg_sl ([.ref h0, .int x1, .int x2])).length) Slot.unset).toArray = ls at hl ⊢
  have hl : lv_has ls 8 [(0, .ref h0), (1, .int x1), (2, .int x2)] := hl
  have kf0 := hts (.fieldLink RX2 18 "HallOfClaims$Game" "defeaters" "J") (List.mem_of_getElem? (i := 1) (by decide +kernel))
  have ki_X2 : ∀ w ∈ u_ws RX2 TX2 3, w ∈ wsX2_bestAnswer := by decide +kernel
  have w22 : ∀ (n : Nat) (v3 : Int32) (v4 : Int32) (v5 : Int32) (v6 : Int32) , wp_X2_bestAnswer_22 post g_depths s_defeaters x1 x2 n v3 v4 v5 v6 → ∀ (H : Heap) (locs : List Loc) (ls : Array Slot), va_P G.1 vwCl [ceX2 h0 a_depths a_ways s_defeaters, caI G a_depths 2048 g_depths] H → va_D A [ceX2 h0 a_depths a_ways s_defeaters, caI G a_depths 2048 g_depths] → va_S A s.heap H locs → lv_has ls 8 [(0, .ref h0), (1, .int x1), (3, .int v3), (4, .int v4), (5, .int v5), (6, .int v6)] → W p l e (headSpec wsX2_bestAnswer ({ frames := 2, cells := 0, slots := 0, locals := 44 })).room s m ([.ref h0, .int x1, .int x2] : List Value).toArray below meth c H locs 0 0 (MQ below (va_Qi (fun (r : Int32) (u : Unit) => post r) (hcB G A (fun u : Unit => [ceX2 h0 a_depths a_ways s_defeaters, caI G a_depths 2048 g_depths])) A) ([.ref h0, .int x1, .int x2] : List Value).toArray s 0 0 A) (F0 m 22 ls []) := by
    intro n
    induction n with
    | zero => intro v3 v4 v5 v6 h; exact h.elim
    | succ n ih =>
      intro v3 v4 v5 v6 h H locs ls hP hD hS hl
      unfold wp_X2_bestAnswer_22 at h
      refine lv_iload hx hb dX2_bestAnswer_22 (lv_at hl 5 rfl) ?_
      refine lv_bipush (v := nI 8) hx hb dX2_bestAnswer_24 kb_8 ?_
      refine lv_icmp_ge (tgt := 82) hx hb dX2_bestAnswer_26 (by decide) (fun c => ?_) (fun c => ?_)
      · replace h := h.1 c
        refine lv_iload_n hx hb dX2_bestAnswer_82 rfl (lv_at hl 2 rfl) ?_
        exact W.iret (v := v3) hx hb hr (fun t ht hW => ⟨⟨_, (), rfl, h, ⟨by rw [ht]; exact hP, hD⟩⟩, hS.F ht⟩) hS.2.2 dX2_bestAnswer_83
      · replace h := h.2 c
        refine lv_iload hx hb dX2_bestAnswer_29 (lv_at hl 4 rfl) ?_
        refine lv_iload hx hb dX2_bestAnswer_31 (lv_at hl 5 rfl) ?_
        refine hc_ki (wr := [ceX2 h0 a_depths a_ways s_defeaters, caI G a_depths 2048 g_depths]) (va_runS (As := [.int v5, .int v6]) (rest := []) ⟨hx, hb, hml, hown, hts⟩ (c_X0_contains l G H.size v5 v6 _ h) (va_cwS 2 hts gX2_bestAnswer_X0_contains rfl rfl rfl (by decide +kernel) ⟨Nat.le_of_ble_eq_true rfl, Nat.le_of_ble_eq_true rfl⟩) (hc_pS hK hP hD [] rfl rfl) rfl rfl hl.1 rfl (lv_room (Nat.le_of_ble_eq_true rfl)) dX2_bestAnswer_33 ⟨Nat.le_refl _, Nat.le_refl _⟩) hP hD hS hA [] [0, 1] rfl rfl rfl (by decide) (fun r33 u H locs h hP hD hS => ?_)
        try dsimp only at h
        have hP : va_P G.1 vwCl [ceX2 h0 a_depths a_ways s_defeaters, caI G a_depths 2048 g_depths] H := hP
        have hD : va_D A [ceX2 h0 a_depths a_ways s_defeaters, caI G a_depths 2048 g_depths] := hD
        refine lv_if_eq (tgt := 76) hx hb dX2_bestAnswer_36 (by decide) (fun c => ?_) (fun c => ?_)
        · replace h := h.1 c
          refine lv_iinc (v := v6 + nI 1) (lv' := [(6, .int (v6 + nI 1)), (0, .ref h0), (1, .int x1), (3, .int v3), (4, .int v4), (5, .int v5)]) hx hb dX2_bestAnswer_76 hl (k := 5) rfl (congrArg (fun q => v6 + q) kc_1) (by decide) rfl (fun ls hl => ?_)
          refine lv_goto (tgt := 22) hx hb dX2_bestAnswer_79 (by decide) ?_
          exact ih v3 v4 v5 (v6 + nI 1) h _ _ _ hP hD hS (lv_sub hl [1, 2, 3, 4, 5, 0] rfl)
        · replace h := h.2 c
          refine lv_aload_n hx hb dX2_bestAnswer_39 rfl (lv_at hl 0 rfl) ?_
          refine lv_iload_n hx hb dX2_bestAnswer_40 rfl (lv_at hl 1 rfl) ?_
          refine lv_iconst (v := nI 1) hx hb dX2_bestAnswer_41 kc_1 ?_
          refine lv_iload hx hb dX2_bestAnswer_42 (lv_at hl 5 rfl) ?_
          refine lv_ishl hx hb dX2_bestAnswer_44 ?_
          refine lv_ior hx hb dX2_bestAnswer_45 ?_
          refine lv_iload hx hb dX2_bestAnswer_46 (lv_at hl 5 rfl) ?_
          refine hc_ki (wr := []) (va_runV (As := [.int (x1 ||| ((nI 1) <<< (v6 &&& 31))), .int v6]) (rest := []) ⟨hx, hb, hml, hown, hts⟩ (c_X2_depthAt l G h0 a_depths a_ways H.size s_defeaters g_depths (x1 ||| ((nI 1) <<< (v6 &&& 31))) v6 _ h) (cwV 2 hts gX2_bestAnswer_X2_depthAt rfl rfl rfl (by decide +kernel) ⟨Nat.le_of_ble_eq_true rfl, Nat.le_of_ble_eq_true rfl⟩) (hc_pV hK hP hD [0, 1] rfl rfl (ci := 1) 0 rfl rfl) rfl rfl hl.1 rfl (lv_room (Nat.le_of_ble_eq_true rfl)) dX2_bestAnswer_48 ⟨Nat.le_refl _, Nat.le_refl _⟩) hP hD hS hA [0, 1] [] rfl rfl rfl (by decide) (fun r48 u H locs h hP hD hS => ?_)
          try dsimp only at h
          have hP : va_P G.1 vwCl [ceX2 h0 a_depths a_ways s_defeaters, caI G a_depths 2048 g_depths] H := hP
          have hD : va_D A [ceX2 h0 a_depths a_ways s_defeaters, caI G a_depths 2048 g_depths] := hD
          refine lv_istore (lv' := [(7, .int r48), (0, .ref h0), (1, .int x1), (3, .int v3), (4, .int v4), (5, .int v5), (6, .int v6)]) hx hb dX2_bestAnswer_51 hl (by decide) rfl (fun ls hl => ?_)
          refine lv_iload hx hb dX2_bestAnswer_53 (lv_at hl 0 rfl) ?_
          refine lv_if_le (tgt := 76) hx hb dX2_bestAnswer_55 (by decide) (fun c => ?_) (fun c => ?_)
          · replace h := h.1 c
            refine lv_iinc (v := v6 + nI 1) (lv' := [(6, .int (v6 + nI 1)), (7, .int r48), (0, .ref h0), (1, .int x1), (3, .int v3), (4, .int v4), (5, .int v5)]) hx hb dX2_bestAnswer_76 hl (k := 6) rfl (congrArg (fun q => v6 + q) kc_1) (by decide) rfl (fun ls hl => ?_)
            refine lv_goto (tgt := 22) hx hb dX2_bestAnswer_79 (by decide) ?_
            exact ih v3 v4 v5 (v6 + nI 1) h _ _ _ hP hD hS (lv_sub hl [2, 3, 4, 5, 6, 0] rfl)
          · replace h := h.2 c
            refine lv_iload_n hx hb dX2_bestAnswer_58 rfl (lv_at hl 3 rfl) ?_
            refine lv_if_lt (tgt := 69) hx hb dX2_bestAnswer_59 (by decide) (fun c => ?_) (fun c => ?_)
            · replace h := h.1 c
              refine lv_iload hx hb dX2_bestAnswer_69 (lv_at hl 6 rfl) ?_
              refine lv_istore_n (lv' := [(3, .int v6), (7, .int r48), (0, .ref h0), (1, .int x1), (4, .int v4), (5, .int v5), (6, .int v6)]) hx hb dX2_bestAnswer_71 rfl hl (by decide) rfl (fun ls hl => ?_)
              refine lv_iload hx hb dX2_bestAnswer_72 (lv_at hl 1 rfl) ?_
              refine lv_istore (lv' := [(4, .int r48), (3, .int v6), (7, .int r48), (0, .ref h0), (1, .int x1), (5, .int v5), (6, .int v6)]) hx hb dX2_bestAnswer_74 hl (by decide) rfl (fun ls hl => ?_)
              refine lv_iinc (v := v6 + nI 1) (lv' := [(6, .int (v6 + nI 1)), (4, .int r48), (3, .int v6), (7, .int r48), (0, .ref h0), (1, .int x1), (5, .int v5)]) hx hb dX2_bestAnswer_76 hl (k := 6) rfl (congrArg (fun q => v6 + q) kc_1) (by decide) rfl (fun ls hl => ?_)
              refine lv_goto (tgt := 22) hx hb dX2_bestAnswer_79 (by decide) ?_
              exact ih v6 r48 v5 (v6 + nI 1) h _ _ _ hP hD hS (lv_sub hl [4, 5, 2, 1, 6, 0] rfl)
            · replace h := h.2 c
              refine lv_iload hx hb dX2_bestAnswer_62 (lv_at hl 0 rfl) ?_
              refine lv_iload hx hb dX2_bestAnswer_64 (lv_at hl 4 rfl) ?_
              refine lv_icmp_ge (tgt := 76) hx hb dX2_bestAnswer_66 (by decide) (fun c => ?_) (fun c => ?_)
              · replace h := h.1 c
                refine lv_iinc (v := v6 + nI 1) (lv' := [(6, .int (v6 + nI 1)), (7, .int r48), (0, .ref h0), (1, .int x1), (3, .int v3), (4, .int v4), (5, .int v5)]) hx hb dX2_bestAnswer_76 hl (k := 6) rfl (congrArg (fun q => v6 + q) kc_1) (by decide) rfl (fun ls hl => ?_)
                refine lv_goto (tgt := 22) hx hb dX2_bestAnswer_79 (by decide) ?_
                exact ih v3 v4 v5 (v6 + nI 1) h _ _ _ hP hD hS (lv_sub hl [2, 3, 4, 5, 6, 0] rfl)
              · replace h := h.2 c
                refine lv_iload hx hb dX2_bestAnswer_69 (lv_at hl 6 rfl) ?_
                refine lv_istore_n (lv' := [(3, .int v6), (7, .int r48), (0, .ref h0), (1, .int x1), (4, .int v4), (5, .int v5), (6, .int v6)]) hx hb dX2_bestAnswer_71 rfl hl (by decide) rfl (fun ls hl => ?_)
                refine lv_iload hx hb dX2_bestAnswer_72 (lv_at hl 1 rfl) ?_
                refine lv_istore (lv' := [(4, .int r48), (3, .int v6), (7, .int r48), (0, .ref h0), (1, .int x1), (5, .int v5), (6, .int v6)]) hx hb dX2_bestAnswer_74 hl (by decide) rfl (fun ls hl => ?_)
                refine lv_iinc (v := v6 + nI 1) (lv' := [(6, .int (v6 + nI 1)), (4, .int r48), (3, .int v6), (7, .int r48), (0, .ref h0), (1, .int x1), (5, .int v5)]) hx hb dX2_bestAnswer_76 hl (k := 6) rfl (congrArg (fun q => v6 + q) kc_1) (by decide) rfl (fun ls hl => ?_)
                refine lv_goto (tgt := 22) hx hb dX2_bestAnswer_79 (by decide) ?_
                exact ih v6 r48 v5 (v6 + nI 1) h _ _ _ hP hD hS (lv_sub hl [4, 5, 2, 1, 6, 0] rfl)
  unfold wp_X2_bestAnswer at h
  refine lv_iconst (v := (-1 : Int32)) hx hb dX2_bestAnswer_0 kc_m1 ?_
  refine lv_istore_n (lv' := [(3, .int ((-1 : Int32))), (0, .ref h0), (1, .int x1), (2, .int x2)]) hx hb dX2_bestAnswer_1 rfl hl (by decide) rfl (fun ls hl => ?_)
  refine lv_iconst (v := nI 0) hx hb dX2_bestAnswer_2 kc_0 ?_
  refine lv_istore (lv' := [(4, .int (nI 0)), (3, .int ((-1 : Int32))), (0, .ref h0), (1, .int x1), (2, .int x2)]) hx hb dX2_bestAnswer_3 hl (by decide) rfl (fun ls hl => ?_)
  refine lv_aload_n hx hb dX2_bestAnswer_5 rfl (lv_at hl 2 rfl) ?_
  refine va_get (D := G.1) (ci := 1) (v := .long s_defeaters) (C := RX2) (T := TX2) (N := 3) hx hb hts ki_X2 hown hK.1 hP 0 rfl rfl 2 (by decide) kf0 (fun _ h9 => h9) rfl dX2_bestAnswer_6 ?_
  refine lv_iload_n hx hb dX2_bestAnswer_9 rfl (lv_at hl 4 rfl) ?_
  refine hc_ki (wr := [ceX2 h0 a_depths a_ways s_defeaters, caI G a_depths 2048 g_depths]) (va_runS (As := [.long s_defeaters, .int x2]) (rest := []) ⟨hx, hb, hml, hown, hts⟩ (c_X0_get l G s.heap.size s_defeaters x2 _ h) (va_cwS 2 hts gX2_bestAnswer_X0_get rfl rfl rfl (by decide +kernel) ⟨Nat.le_of_ble_eq_true rfl, Nat.le_of_ble_eq_true rfl⟩) (hc_pS hK hP hD [] rfl rfl) rfl rfl hl.1 rfl (lv_room (Nat.le_of_ble_eq_true rfl)) dX2_bestAnswer_10 ⟨Nat.le_refl _, Nat.le_refl _⟩) hP hD hS hA [] [0, 1] rfl rfl rfl (by decide) (fun r10 u H locs h hP hD hS => ?_)
  try dsimp only at h
  have hP : va_P G.1 vwCl [ceX2 h0 a_depths a_ways s_defeaters, caI G a_depths 2048 g_depths] H := hP
  have hD : va_D A [ceX2 h0 a_depths a_ways s_defeaters, caI G a_depths 2048 g_depths] := hD
  refine lv_iload_n hx hb dX2_bestAnswer_13 rfl (lv_at hl 3 rfl) ?_
  refine lv_iconst (v := (-1 : Int32)) hx hb dX2_bestAnswer_14 kc_m1 ?_
  refine lv_ixor hx hb dX2_bestAnswer_15 ?_
  refine lv_iand hx hb dX2_bestAnswer_16 ?_
  refine lv_istore (lv' := [(5, .int (r10 &&& (x1 ^^^ ((-1 : Int32))))), (4, .int (nI 0)), (3, .int ((-1 : Int32))), (0, .ref h0), (1, .int x1), (2, .int x2)]) hx hb dX2_bestAnswer_17 hl (by decide) rfl (fun ls hl => ?_)
  refine lv_iconst (v := nI 0) hx hb dX2_bestAnswer_19 kc_0 ?_
  refine lv_istore (lv' := [(6, .int (nI 0)), (5, .int (r10 &&& (x1 ^^^ ((-1 : Int32))))), (4, .int (nI 0)), (3, .int ((-1 : Int32))), (0, .ref h0), (1, .int x1), (2, .int x2)]) hx hb dX2_bestAnswer_20 hl (by decide) rfl (fun ls hl => ?_)
  obtain ⟨n22, h⟩ := h
  exact w22  n22 ((-1 : Int32)) (nI 0) (r10 &&& (x1 ^^^ ((-1 : Int32)))) (nI 0) h _ _ _ hP hD hS (lv_sub hl [4, 5, 3, 2, 1, 0] rfl)
set_option maxHeartbeats 4000000 in
set_option maxRecDepth 100000 in
theorem c_X2_depthBehind (l : Launch) (G : hcG) (h0 : Nat) (a_depths : Nat) (a_ways : Nat) (sz : Nat) (s_defeaters : Int64) (g_depths : Nat → Int32) (x1 : Int32) (x2 : Int32) (post : Int32 → Prop) (h : wp_X2_depthBehind post g_depths s_defeaters x1 x2) : Met l yX2_depthBehind wsX2_depthBehind ({ frames := 3, cells := 0, slots := 0, locals := 71 }) (hcPc G [.ref h0, .int x1, .int x2] [ceX2 h0 a_depths a_ways s_defeaters, caI G a_depths 2048 g_depths] sz) (va_Qi (fun (r : Int32) (u : Unit) => post r) (hcB G (va_A [ceX2 h0 a_depths a_ways s_defeaters, caI G a_depths 2048 g_depths] sz) (fun u : Unit => [ceX2 h0 a_depths a_ways s_defeaters, caI G a_depths 2048 g_depths])) (va_A [ceX2 h0 a_depths a_ways s_defeaters, caI G a_depths 2048 g_depths] sz)) 0 0 (va_A [ceX2 h0 a_depths a_ways s_defeaters, caI G a_depths 2048 g_depths] sz) := by
  refine Met.ofW (cc := cX2_depthBehind) (maxL := 7) (ret := (some .int)) (by decide) rfl ?_
  intro p e s m args below meth c s₁ B hml hv
  obtain ⟨rfl, hsz, hP, hK, hD0⟩ := hv
  have hx := B.exec
  have hb := B.bytes
  have hr := B.returns
  have hts := atoms_spec (ws := wsX2_depthBehind) B.pre
  have hown : s.vm.findClass RX2 = some m.cls := findClass_of_methodNamed B.named
  have hlocks := B.notSynchronized
  subst hsz
  have hD := hD0.self (sz := s.heap.size)
  generalize hAe : va_A [ceX2 h0 a_depths a_ways s_defeaters, caI G a_depths 2048 g_depths] s.heap.size = A at hD ⊢
  have hA : ∀ q : Nat, s.heap.size ≤ q → A q := fun q h => by rw [← hAe]; exact Or.inr h
  have hS : va_S A s.heap s.heap [] := va_S.rf
  have hP : va_P G.1 vwCl [ceX2 h0 a_depths a_ways s_defeaters, caI G a_depths 2048 g_depths] s.heap := hP
  have hl := lv_entry ([.ref h0, .int x1, .int x2]) (n := 7) (Nat.le_of_ble_eq_true rfl)
  rw [lg_entry_eq]
  generalize (lg_sl ([.ref h0, .int x1, .int x2]) ++ List.replicate (7 - (lg_sl ([.ref h0, .int x1, .int x2])).length) Slot.unset).toArray = ls at hl ⊢
  have hl : lv_has ls 7 [(0, .ref h0), (1, .int x1), (2, .int x2)] := hl
  have kf0 := hts (.fieldLink RX2 18 "HallOfClaims$Game" "defeaters" "J") (List.mem_of_getElem? (i := 1) (by decide +kernel))
  have kf1 := hts (.methodLink RX2 52 Lib.Math.max.name) (List.mem_of_getElem? (i := 2) (by decide +kernel))
  have kf2 := hts (.static Lib.Math.max.name) (List.mem_of_getElem? (i := 3) (by decide +kernel))
  have kf3 := hts (.initialized "java/lang/Math") (List.mem_of_getElem? (i := 4) (by decide +kernel))
  have kf4 := hts (.code Lib.Math.max.name Lib.Math.max.code 2 (some .int)) (List.mem_of_getElem? (i := 5) (by decide +kernel))
  have ki_X2 : ∀ w ∈ u_ws RX2 TX2 3, w ∈ wsX2_depthBehind := by decide +kernel
  have w15 : ∀ (n : Nat) (v3 : Int32) (v4 : Int32) (v5 : Int32) , wp_X2_depthBehind_15 post g_depths s_defeaters x1 x2 n v3 v4 v5 → ∀ (H : Heap) (locs : List Loc) (ls : Array Slot), va_P G.1 vwCl [ceX2 h0 a_depths a_ways s_defeaters, caI G a_depths 2048 g_depths] H → va_D A [ceX2 h0 a_depths a_ways s_defeaters, caI G a_depths 2048 g_depths] → va_S A s.heap H locs → lv_has ls 7 [(0, .ref h0), (1, .int x1), (3, .int v3), (4, .int v4), (5, .int v5)] → W p l e (headSpec wsX2_depthBehind ({ frames := 3, cells := 0, slots := 0, locals := 71 })).room s m ([.ref h0, .int x1, .int x2] : List Value).toArray below meth c H locs 0 0 (MQ below (va_Qi (fun (r : Int32) (u : Unit) => post r) (hcB G A (fun u : Unit => [ceX2 h0 a_depths a_ways s_defeaters, caI G a_depths 2048 g_depths])) A) ([.ref h0, .int x1, .int x2] : List Value).toArray s 0 0 A) (F0 m 15 ls []) := by
    intro n
    induction n with
    | zero => intro v3 v4 v5 h; exact h.elim
    | succ n ih =>
      intro v3 v4 v5 h H locs ls hP hD hS hl
      unfold wp_X2_depthBehind_15 at h
      refine lv_iload hx hb dX2_depthBehind_15 (lv_at hl 4 rfl) ?_
      refine lv_bipush (v := nI 8) hx hb dX2_depthBehind_17 kb_8 ?_
      refine lv_icmp_ge (tgt := 73) hx hb dX2_depthBehind_19 (by decide) (fun c => ?_) (fun c => ?_)
      · replace h := h.1 c
        refine lv_iconst (v := nI 1) hx hb dX2_depthBehind_73 kc_1 ?_
        refine lv_iload_n hx hb dX2_depthBehind_74 rfl (lv_at hl 2 rfl) ?_
        refine lv_iadd hx hb dX2_depthBehind_75 ?_
        exact W.iret (v := (nI 1) + v3) hx hb hr (fun t ht hW => ⟨⟨_, (), rfl, h, ⟨by rw [ht]; exact hP, hD⟩⟩, hS.F ht⟩) hS.2.2 dX2_depthBehind_76
      · replace h := h.2 c
        refine lv_iload hx hb dX2_depthBehind_22 (lv_at hl 3 rfl) ?_
        refine lv_iload hx hb dX2_depthBehind_24 (lv_at hl 4 rfl) ?_
        refine hc_ki (wr := [ceX2 h0 a_depths a_ways s_defeaters, caI G a_depths 2048 g_depths]) (va_runS (As := [.int v4, .int v5]) (rest := []) ⟨hx, hb, hml, hown, hts⟩ (c_X0_contains l G H.size v4 v5 _ h) (va_cwS 2 hts gX2_depthBehind_X0_contains rfl rfl rfl (by decide +kernel) ⟨Nat.le_of_ble_eq_true rfl, Nat.le_of_ble_eq_true rfl⟩) (hc_pS hK hP hD [] rfl rfl) rfl rfl hl.1 rfl (lv_room (Nat.le_of_ble_eq_true rfl)) dX2_depthBehind_26 ⟨Nat.le_refl _, Nat.le_refl _⟩) hP hD hS hA [] [0, 1] rfl rfl rfl (by decide) (fun r26 u H locs h hP hD hS => ?_)
        try dsimp only at h
        have hP : va_P G.1 vwCl [ceX2 h0 a_depths a_ways s_defeaters, caI G a_depths 2048 g_depths] H := hP
        have hD : va_D A [ceX2 h0 a_depths a_ways s_defeaters, caI G a_depths 2048 g_depths] := hD
        refine lv_if_eq (tgt := 67) hx hb dX2_depthBehind_29 (by decide) (fun c => ?_) (fun c => ?_)
        · replace h := h.1 c
          refine lv_iinc (v := v5 + nI 1) (lv' := [(5, .int (v5 + nI 1)), (0, .ref h0), (1, .int x1), (3, .int v3), (4, .int v4)]) hx hb dX2_depthBehind_67 hl (k := 4) rfl (congrArg (fun q => v5 + q) kc_1) (by decide) rfl (fun ls hl => ?_)
          refine lv_goto (tgt := 15) hx hb dX2_depthBehind_70 (by decide) ?_
          exact ih v3 v4 (v5 + nI 1) h _ _ _ hP hD hS (lv_sub hl [1, 2, 3, 4, 0] rfl)
        · replace h := h.2 c
          refine lv_aload_n hx hb dX2_depthBehind_32 rfl (lv_at hl 0 rfl) ?_
          refine lv_iload_n hx hb dX2_depthBehind_33 rfl (lv_at hl 1 rfl) ?_
          refine lv_iload hx hb dX2_depthBehind_34 (lv_at hl 4 rfl) ?_
          refine hc_ki (wr := []) (va_runV (As := [.int x1, .int v5]) (rest := []) ⟨hx, hb, hml, hown, hts⟩ (c_X2_bestAnswer l G h0 a_depths a_ways H.size s_defeaters g_depths x1 v5 _ h) (cwV 2 hts gX2_depthBehind_X2_bestAnswer rfl rfl rfl (by decide +kernel) ⟨Nat.le_of_ble_eq_true rfl, Nat.le_of_ble_eq_true rfl⟩) (hc_pV hK hP hD [0, 1] rfl rfl (ci := 1) 0 rfl rfl) rfl rfl hl.1 rfl (lv_room (Nat.le_of_ble_eq_true rfl)) dX2_depthBehind_36 ⟨Nat.le_refl _, Nat.le_refl _⟩) hP hD hS hA [0, 1] [] rfl rfl rfl (by decide) (fun r36 u H locs h hP hD hS => ?_)
          try dsimp only at h
          have hP : va_P G.1 vwCl [ceX2 h0 a_depths a_ways s_defeaters, caI G a_depths 2048 g_depths] H := hP
          have hD : va_D A [ceX2 h0 a_depths a_ways s_defeaters, caI G a_depths 2048 g_depths] := hD
          refine lv_istore (lv' := [(6, .int r36), (0, .ref h0), (1, .int x1), (3, .int v3), (4, .int v4), (5, .int v5)]) hx hb dX2_depthBehind_39 hl (by decide) rfl (fun ls hl => ?_)
          refine lv_iload hx hb dX2_depthBehind_41 (lv_at hl 0 rfl) ?_
          refine lv_if_ge (tgt := 48) hx hb dX2_depthBehind_43 (by decide) (fun c => ?_) (fun c => ?_)
          · replace h := h.1 c
            refine lv_iload_n hx hb dX2_depthBehind_48 rfl (lv_at hl 3 rfl) ?_
            refine lv_iconst (v := nI 1) hx hb dX2_depthBehind_49 kc_1 ?_
            refine lv_aload_n hx hb dX2_depthBehind_50 rfl (lv_at hl 1 rfl) ?_
            refine lv_iload_n hx hb dX2_depthBehind_51 rfl (lv_at hl 2 rfl) ?_
            refine lv_iconst (v := nI 1) hx hb dX2_depthBehind_52 kc_1 ?_
            refine lv_iload hx hb dX2_depthBehind_53 (lv_at hl 0 rfl) ?_
            refine lv_ishl hx hb dX2_depthBehind_55 ?_
            refine lv_ior hx hb dX2_depthBehind_56 ?_
            refine lv_iload hx hb dX2_depthBehind_57 (lv_at hl 0 rfl) ?_
            refine hc_ki (wr := []) (va_runV (As := [.int (x1 ||| ((nI 1) <<< (r36 &&& 31))), .int r36]) (rest := [.int (nI 1), .int v3]) ⟨hx, hb, hml, hown, hts⟩ (c_X2_depthAt l G h0 a_depths a_ways H.size s_defeaters g_depths (x1 ||| ((nI 1) <<< (r36 &&& 31))) r36 _ h) (cwV 2 hts gX2_depthBehind_X2_depthAt rfl rfl rfl (by decide +kernel) ⟨Nat.le_of_ble_eq_true rfl, Nat.le_of_ble_eq_true rfl⟩) (hc_pV hK hP hD [0, 1] rfl rfl (ci := 1) 0 rfl rfl) rfl rfl hl.1 rfl (lv_room (Nat.le_of_ble_eq_true rfl)) dX2_depthBehind_59 ⟨Nat.le_refl _, Nat.le_refl _⟩) hP hD hS hA [0, 1] [] rfl rfl rfl (by decide) (fun r59 u H locs h hP hD hS => ?_)
            try dsimp only at h
            have hP : va_P G.1 vwCl [ceX2 h0 a_depths a_ways s_defeaters, caI G a_depths 2048 g_depths] H := hP
            have hD : va_D A [ceX2 h0 a_depths a_ways s_defeaters, caI G a_depths 2048 g_depths] := hD
            refine lv_iadd hx hb dX2_depthBehind_62 ?_
            refine va_mmax hx hb (hml.trans hl.1.symm) hown kf1 kf2 kf3 kf4 (Nat.le_of_ble_eq_true rfl) (Nat.le_of_ble_eq_true rfl) (Nat.le_of_ble_eq_true rfl) (Nat.le_of_ble_eq_true rfl) dX2_depthBehind_63 ?_
            refine lv_istore_n (lv' := [(3, .int ((if v3 < (nI 1) + r59 then (nI 1) + r59 else v3))), (6, .int r36), (0, .ref h0), (1, .int x1), (4, .int v4), (5, .int v5)]) hx hb dX2_depthBehind_66 rfl hl (by decide) rfl (fun ls hl => ?_)
            refine lv_iinc (v := v5 + nI 1) (lv' := [(5, .int (v5 + nI 1)), (3, .int ((if v3 < (nI 1) + r59 then (nI 1) + r59 else v3))), (6, .int r36), (0, .ref h0), (1, .int x1), (4, .int v4)]) hx hb dX2_depthBehind_67 hl (k := 5) rfl (congrArg (fun q => v5 + q) kc_1) (by decide) rfl (fun ls hl => ?_)
            refine lv_goto (tgt := 15) hx hb dX2_depthBehind_70 (by decide) ?_
            exact ih ((if v3 < (nI 1) + r59 then (nI 1) + r59 else v3)) v4 (v5 + nI 1) h _ _ _ hP hD hS (lv_sub hl [3, 4, 1, 5, 0] rfl)
          · replace h := h.2 c
            refine lv_iconst (v := nI 0) hx hb dX2_depthBehind_46 kc_0 ?_
            exact W.iret (v := nI 0) hx hb hr (fun t ht hW => ⟨⟨_, (), rfl, h, ⟨by rw [ht]; exact hP, hD⟩⟩, hS.F ht⟩) hS.2.2 dX2_depthBehind_47
  unfold wp_X2_depthBehind at h
  refine lv_iconst (v := nI 0) hx hb dX2_depthBehind_0 kc_0 ?_
  refine lv_istore_n (lv' := [(3, .int (nI 0)), (0, .ref h0), (1, .int x1), (2, .int x2)]) hx hb dX2_depthBehind_1 rfl hl (by decide) rfl (fun ls hl => ?_)
  refine lv_aload_n hx hb dX2_depthBehind_2 rfl (lv_at hl 1 rfl) ?_
  refine va_get (D := G.1) (ci := 1) (v := .long s_defeaters) (C := RX2) (T := TX2) (N := 3) hx hb hts ki_X2 hown hK.1 hP 0 rfl rfl 2 (by decide) kf0 (fun _ h9 => h9) rfl dX2_depthBehind_3 ?_
  refine lv_iload_n hx hb dX2_depthBehind_6 rfl (lv_at hl 3 rfl) ?_
  refine hc_ki (wr := [ceX2 h0 a_depths a_ways s_defeaters, caI G a_depths 2048 g_depths]) (va_runS (As := [.long s_defeaters, .int x2]) (rest := []) ⟨hx, hb, hml, hown, hts⟩ (c_X0_get l G s.heap.size s_defeaters x2 _ h) (va_cwS 2 hts gX2_depthBehind_X0_get rfl rfl rfl (by decide +kernel) ⟨Nat.le_of_ble_eq_true rfl, Nat.le_of_ble_eq_true rfl⟩) (hc_pS hK hP hD [] rfl rfl) rfl rfl hl.1 rfl (lv_room (Nat.le_of_ble_eq_true rfl)) dX2_depthBehind_7 ⟨Nat.le_refl _, Nat.le_refl _⟩) hP hD hS hA [] [0, 1] rfl rfl rfl (by decide) (fun r7 u H locs h hP hD hS => ?_)
  try dsimp only at h
  have hP : va_P G.1 vwCl [ceX2 h0 a_depths a_ways s_defeaters, caI G a_depths 2048 g_depths] H := hP
  have hD : va_D A [ceX2 h0 a_depths a_ways s_defeaters, caI G a_depths 2048 g_depths] := hD
  refine lv_istore (lv' := [(4, .int r7), (3, .int (nI 0)), (0, .ref h0), (1, .int x1), (2, .int x2)]) hx hb dX2_depthBehind_10 hl (by decide) rfl (fun ls hl => ?_)
  refine lv_iconst (v := nI 0) hx hb dX2_depthBehind_12 kc_0 ?_
  refine lv_istore (lv' := [(5, .int (nI 0)), (4, .int r7), (3, .int (nI 0)), (0, .ref h0), (1, .int x1), (2, .int x2)]) hx hb dX2_depthBehind_13 hl (by decide) rfl (fun ls hl => ?_)
  obtain ⟨n15, h⟩ := h
  exact w15  n15 (nI 0) r7 (nI 0) h _ _ _ hP hD hS (lv_sub hl [3, 4, 2, 1, 0] rfl)
set_option maxHeartbeats 4000000 in
set_option maxRecDepth 100000 in
theorem c_X2_waysAt (l : Launch) (G : hcG) (h0 : Nat) (a_depths : Nat) (a_ways : Nat) (sz : Nat) (s_defeaters : Int64) (g_ways : Nat → Int32) (x1 : Int32) (x2 : Int32) (post : Int32 → Prop) (h : wp_X2_waysAt post g_ways x1 x2) : Met l yX2_waysAt wsX2_waysAt ({ frames := 1, cells := 0, slots := 0, locals := 21 }) (hcPc G [.ref h0, .int x1, .int x2] [ceX2 h0 a_depths a_ways s_defeaters, caI G a_ways 2048 g_ways] sz) (va_Qi (fun (r : Int32) (u : Unit) => post r) (hcB G (va_A [ceX2 h0 a_depths a_ways s_defeaters, caI G a_ways 2048 g_ways] sz) (fun u : Unit => [ceX2 h0 a_depths a_ways s_defeaters, caI G a_ways 2048 g_ways])) (va_A [ceX2 h0 a_depths a_ways s_defeaters, caI G a_ways 2048 g_ways] sz)) 0 0 (va_A [ceX2 h0 a_depths a_ways s_defeaters, caI G a_ways 2048 g_ways] sz) := by
  refine Met.ofW (cc := cX2_waysAt) (maxL := 4) (ret := (some .int)) (by decide) rfl ?_
  intro p e s m args below meth c s₁ B hml hv
  obtain ⟨rfl, hsz, hP, hK, hD0⟩ := hv
  have hx := B.exec
  have hb := B.bytes
  have hr := B.returns
  have hts := atoms_spec (ws := wsX2_waysAt) B.pre
  have hown : s.vm.findClass RX2 = some m.cls := findClass_of_methodNamed B.named
  have hlocks := B.notSynchronized
  subst hsz
  have hD := hD0.self (sz := s.heap.size)
  generalize hAe : va_A [ceX2 h0 a_depths a_ways s_defeaters, caI G a_ways 2048 g_ways] s.heap.size = A at hD ⊢
  have hA : ∀ q : Nat, s.heap.size ≤ q → A q := fun q h => by rw [← hAe]; exact Or.inr h
  have hS : va_S A s.heap s.heap [] := va_S.rf
  have hP : va_P G.1 vwCl [ceX2 h0 a_depths a_ways s_defeaters, caI G a_ways 2048 g_ways] s.heap := hP
  have hl := lv_entry ([.ref h0, .int x1, .int x2]) (n := 4) (Nat.le_of_ble_eq_true rfl)
  rw [lg_entry_eq]
  generalize (lg_sl ([.ref h0, .int x1, .int x2]) ++ List.replicate (4 - (lg_sl ([.ref h0, .int x1, .int x2])).length) Slot.unset).toArray = ls at hl ⊢
  have hl : lv_has ls 4 [(0, .ref h0), (1, .int x1), (2, .int x2)] := hl
  have kf0 := hts (.fieldLink RX2 15 "HallOfClaims$Game" "ways" "[I") (List.mem_of_getElem? (i := 1) (by decide +kernel))
  have ki_X2 : ∀ w ∈ u_ws RX2 TX2 3, w ∈ wsX2_waysAt := by decide +kernel
  unfold wp_X2_waysAt at h
  refine lv_iload_n hx hb dX2_waysAt_0 rfl (lv_at hl 1 rfl) ?_
  refine lv_iload_n hx hb dX2_waysAt_1 rfl (lv_at hl 2 rfl) ?_
  refine hc_ki (wr := [ceX2 h0 a_depths a_ways s_defeaters, caI G a_ways 2048 g_ways]) (va_runS (As := [.int x1, .int x2]) (rest := []) ⟨hx, hb, hml, hown, hts⟩ (c_X2_placeOf l G s.heap.size x1 x2 _ h) (va_cwS 2 hts gX2_waysAt_X2_placeOf rfl rfl rfl (by decide +kernel) ⟨Nat.le_of_ble_eq_true rfl, Nat.le_of_ble_eq_true rfl⟩) (hc_pS hK hP hD [] rfl rfl) rfl rfl hl.1 rfl (lv_room (Nat.le_of_ble_eq_true rfl)) dX2_waysAt_2 ⟨Nat.le_refl _, Nat.le_refl _⟩) hP hD hS hA [] [0, 1] rfl rfl rfl (by decide) (fun r2 u H locs h hP hD hS => ?_)
  try dsimp only at h
  have hP : va_P G.1 vwCl [ceX2 h0 a_depths a_ways s_defeaters, caI G a_ways 2048 g_ways] H := hP
  have hD : va_D A [ceX2 h0 a_depths a_ways s_defeaters, caI G a_ways 2048 g_ways] := hD
  refine lv_istore_n (lv' := [(3, .int r2), (0, .ref h0), (1, .int x1), (2, .int x2)]) hx hb dX2_waysAt_5 rfl hl (by decide) rfl (fun ls hl => ?_)
  refine lv_iload_n hx hb dX2_waysAt_6 rfl (lv_at hl 0 rfl) ?_
  refine lv_if_lt (tgt := 28) hx hb dX2_waysAt_7 (by decide) (fun c => ?_) (fun c => ?_)
  · replace h := h.1 c
    refine lv_iconst (v := nI 0) hx hb dX2_waysAt_28 kc_0 ?_
    exact W.iret (v := nI 0) hx hb hr (fun t ht hW => ⟨⟨_, (), rfl, h, ⟨by rw [ht]; exact hP, hD⟩⟩, hS.F ht⟩) hS.2.2 dX2_waysAt_29
  · replace h := h.2 c
    refine lv_iload_n hx hb dX2_waysAt_10 rfl (lv_at hl 0 rfl) ?_
    refine lv_aload_n hx hb dX2_waysAt_11 rfl (lv_at hl 1 rfl) ?_
    refine va_get (D := G.1) (ci := 1) (v := .ref a_ways) (C := RX2) (T := TX2) (N := 3) hx hb hts ki_X2 hown hK.1 hP 0 rfl rfl 1 (by decide) kf0 (fun _ h9 => h9) rfl dX2_waysAt_12 ?_
    refine va_alen hx hb hK.1 hP 1 0 rfl rfl (v := nI 2048) rfl dX2_waysAt_15 ?_
    refine lv_icmp_ge (tgt := 28) hx hb dX2_waysAt_16 (by decide) (fun c => ?_) (fun c => ?_)
    · replace h := h.1 c
      refine lv_iconst (v := nI 0) hx hb dX2_waysAt_28 kc_0 ?_
      exact W.iret (v := nI 0) hx hb hr (fun t ht hW => ⟨⟨_, (), rfl, h, ⟨by rw [ht]; exact hP, hD⟩⟩, hS.F ht⟩) hS.2.2 dX2_waysAt_29
    · replace h := h.2 c
      refine lv_aload_n hx hb dX2_waysAt_19 rfl (lv_at hl 1 rfl) ?_
      refine va_get (D := G.1) (ci := 1) (v := .ref a_ways) (C := RX2) (T := TX2) (N := 3) hx hb hts ki_X2 hown hK.1 hP 0 rfl rfl 1 (by decide) kf0 (fun _ h9 => h9) rfl dX2_waysAt_20 ?_
      refine lv_iload_n hx hb dX2_waysAt_23 rfl (lv_at hl 0 rfl) ?_
      have hin := h.1
      replace h := h.2
      refine va_iald hx hb hK.1 hP 1 0 rfl rfl hin dX2_waysAt_24 ?_
      refine lv_goto (tgt := 29) hx hb dX2_waysAt_25 (by decide) ?_
      exact W.iret (v := g_ways r2.toNatClampNeg) hx hb hr (fun t ht hW => ⟨⟨_, (), rfl, h, ⟨by rw [ht]; exact hP, hD⟩⟩, hS.F ht⟩) hS.2.2 dX2_waysAt_29
set_option maxHeartbeats 4000000 in
set_option maxRecDepth 100000 in
theorem c_X2_waysToAnswer (l : Launch) (G : hcG) (h0 : Nat) (a_depths : Nat) (a_ways : Nat) (sz : Nat) (s_defeaters : Int64) (g_ways : Nat → Int32) (x1 : Int32) (x2 : Int32) (post : Int64 → Prop) (h : wp_X2_waysToAnswer post g_ways s_defeaters x1 x2) : Met l yX2_waysToAnswer wsX2_waysToAnswer ({ frames := 2, cells := 0, slots := 0, locals := 44 }) (hcPc G [.ref h0, .int x1, .int x2] [ceX2 h0 a_depths a_ways s_defeaters, caI G a_ways 2048 g_ways] sz) (va_Ql (fun (r : Int64) (u : Unit) => post r) (hcB G (va_A [ceX2 h0 a_depths a_ways s_defeaters, caI G a_ways 2048 g_ways] sz) (fun u : Unit => [ceX2 h0 a_depths a_ways s_defeaters, caI G a_ways 2048 g_ways])) (va_A [ceX2 h0 a_depths a_ways s_defeaters, caI G a_ways 2048 g_ways] sz)) 0 0 (va_A [ceX2 h0 a_depths a_ways s_defeaters, caI G a_ways 2048 g_ways] sz) := by
  refine Met.ofW (cc := cX2_waysToAnswer) (maxL := 7) (ret := (some .long)) (by decide) rfl ?_
  intro p e s m args below meth c s₁ B hml hv
  obtain ⟨rfl, hsz, hP, hK, hD0⟩ := hv
  have hx := B.exec
  have hb := B.bytes
  have hr := B.returns
  have hts := atoms_spec (ws := wsX2_waysToAnswer) B.pre
  have hown : s.vm.findClass RX2 = some m.cls := findClass_of_methodNamed B.named
  have hlocks := B.notSynchronized
  subst hsz
  have hD := hD0.self (sz := s.heap.size)
  generalize hAe : va_A [ceX2 h0 a_depths a_ways s_defeaters, caI G a_ways 2048 g_ways] s.heap.size = A at hD ⊢
  have hA : ∀ q : Nat, s.heap.size ≤ q → A q := fun q h => by rw [← hAe]; exact Or.inr h
  have hS : va_S A s.heap s.heap [] := va_S.rf
  have hP : va_P G.1 vwCl [ceX2 h0 a_depths a_ways s_defeaters, caI G a_ways 2048 g_ways] s.heap := hP
  have hl := lv_entry ([.ref h0, .int x1, .int x2]) (n := 7) (Nat.le_of_ble_eq_true rfl)
  rw [lg_entry_eq]
  generalize (lg_sl ([.ref h0, .int x1, .int x2]) ++ List.replicate (7 - (lg_sl ([.ref h0, .int x1, .int x2])).length) Slot.unset).toArray = ls at hl ⊢
  have hl : lv_has ls 7 [(0, .ref h0), (1, .int x1), (2, .int x2)] := hl
  have kf0 := hts (.fieldLink RX2 18 "HallOfClaims$Game" "defeaters" "J") (List.mem_of_getElem? (i := 1) (by decide +kernel))
  have kf1 := hts (.constantLong RX2 61 (1000000007)) (List.mem_of_getElem? (i := 2) (by decide +kernel))
  have ki_X2 : ∀ w ∈ u_ws RX2 TX2 3, w ∈ wsX2_waysToAnswer := by decide +kernel
  have w19 : ∀ (n : Nat) (v3 : Int64) (v5 : Int32) (v6 : Int32) , wp_X2_waysToAnswer_19 post g_ways s_defeaters x1 x2 n v3 v5 v6 → ∀ (H : Heap) (locs : List Loc) (ls : Array Slot), va_P G.1 vwCl [ceX2 h0 a_depths a_ways s_defeaters, caI G a_ways 2048 g_ways] H → va_D A [ceX2 h0 a_depths a_ways s_defeaters, caI G a_ways 2048 g_ways] → va_S A s.heap H locs → lv_has ls 7 [(0, .ref h0), (1, .int x1), (3, .long v3), (5, .int v5), (6, .int v6)] → W p l e (headSpec wsX2_waysToAnswer ({ frames := 2, cells := 0, slots := 0, locals := 44 })).room s m ([.ref h0, .int x1, .int x2] : List Value).toArray below meth c H locs 0 0 (MQ below (va_Ql (fun (r : Int64) (u : Unit) => post r) (hcB G A (fun u : Unit => [ceX2 h0 a_depths a_ways s_defeaters, caI G a_ways 2048 g_ways])) A) ([.ref h0, .int x1, .int x2] : List Value).toArray s 0 0 A) (F0 m 19 ls []) := by
    intro n
    induction n with
    | zero => intro v3 v5 v6 h; exact h.elim
    | succ n ih =>
      intro v3 v5 v6 h H locs ls hP hD hS hl
      unfold wp_X2_waysToAnswer_19 at h
      refine lv_iload hx hb dX2_waysToAnswer_19 (lv_at hl 4 rfl) ?_
      refine lv_bipush (v := nI 8) hx hb dX2_waysToAnswer_21 kb_8 ?_
      refine lv_icmp_ge (tgt := 58) hx hb dX2_waysToAnswer_23 (by decide) (fun c => ?_) (fun c => ?_)
      · replace h := h.1 c
        refine lv_lload_n hx hb dX2_waysToAnswer_58 rfl (lv_at hl 2 rfl) ?_
        refine lv_ldc2 (own := RX2) (v := 1000000007) hx hb hown kf1 dX2_waysToAnswer_59 ?_
        have hne := h.1
        replace h := h.2
        refine lv_lrem hx hb dX2_waysToAnswer_62 hne ?_
        exact W.lret (v := v3 - v3 / ((1000000007 : Int64)) * ((1000000007 : Int64))) hx hb hr (fun t ht hW => ⟨⟨_, (), rfl, h, ⟨by rw [ht]; exact hP, hD⟩⟩, hS.F ht⟩) hS.2.2 dX2_waysToAnswer_63
      · replace h := h.2 c
        refine lv_iload hx hb dX2_waysToAnswer_26 (lv_at hl 3 rfl) ?_
        refine lv_iload hx hb dX2_waysToAnswer_28 (lv_at hl 4 rfl) ?_
        refine hc_ki (wr := [ceX2 h0 a_depths a_ways s_defeaters, caI G a_ways 2048 g_ways]) (va_runS (As := [.int v5, .int v6]) (rest := []) ⟨hx, hb, hml, hown, hts⟩ (c_X0_contains l G H.size v5 v6 _ h) (va_cwS 2 hts gX2_waysToAnswer_X0_contains rfl rfl rfl (by decide +kernel) ⟨Nat.le_of_ble_eq_true rfl, Nat.le_of_ble_eq_true rfl⟩) (hc_pS hK hP hD [] rfl rfl) rfl rfl hl.1 rfl (lv_room (Nat.le_of_ble_eq_true rfl)) dX2_waysToAnswer_30 ⟨Nat.le_refl _, Nat.le_refl _⟩) hP hD hS hA [] [0, 1] rfl rfl rfl (by decide) (fun r30 u H locs h hP hD hS => ?_)
        try dsimp only at h
        have hP : va_P G.1 vwCl [ceX2 h0 a_depths a_ways s_defeaters, caI G a_ways 2048 g_ways] H := hP
        have hD : va_D A [ceX2 h0 a_depths a_ways s_defeaters, caI G a_ways 2048 g_ways] := hD
        refine lv_if_eq (tgt := 52) hx hb dX2_waysToAnswer_33 (by decide) (fun c => ?_) (fun c => ?_)
        · replace h := h.1 c
          refine lv_iinc (v := v6 + nI 1) (lv' := [(6, .int (v6 + nI 1)), (0, .ref h0), (1, .int x1), (3, .long v3), (5, .int v5)]) hx hb dX2_waysToAnswer_52 hl (k := 4) rfl (congrArg (fun q => v6 + q) kc_1) (by decide) rfl (fun ls hl => ?_)
          refine lv_goto (tgt := 19) hx hb dX2_waysToAnswer_55 (by decide) ?_
          exact ih v3 v5 (v6 + nI 1) h _ _ _ hP hD hS (lv_sub hl [1, 2, 3, 4, 0] rfl)
        · replace h := h.2 c
          refine lv_lload_n hx hb dX2_waysToAnswer_36 rfl (lv_at hl 2 rfl) ?_
          refine lv_aload_n hx hb dX2_waysToAnswer_37 rfl (lv_at hl 0 rfl) ?_
          refine lv_iload_n hx hb dX2_waysToAnswer_38 rfl (lv_at hl 1 rfl) ?_
          refine lv_iconst (v := nI 1) hx hb dX2_waysToAnswer_39 kc_1 ?_
          refine lv_iload hx hb dX2_waysToAnswer_40 (lv_at hl 4 rfl) ?_
          refine lv_ishl hx hb dX2_waysToAnswer_42 ?_
          refine lv_ior hx hb dX2_waysToAnswer_43 ?_
          refine lv_iload hx hb dX2_waysToAnswer_44 (lv_at hl 4 rfl) ?_
          refine hc_ki (wr := []) (va_runV (As := [.int (x1 ||| ((nI 1) <<< (v6 &&& 31))), .int v6]) (rest := [.long v3]) ⟨hx, hb, hml, hown, hts⟩ (c_X2_waysAt l G h0 a_depths a_ways H.size s_defeaters g_ways (x1 ||| ((nI 1) <<< (v6 &&& 31))) v6 _ h) (cwV 2 hts gX2_waysToAnswer_X2_waysAt rfl rfl rfl (by decide +kernel) ⟨Nat.le_of_ble_eq_true rfl, Nat.le_of_ble_eq_true rfl⟩) (hc_pV hK hP hD [0, 1] rfl rfl (ci := 1) 0 rfl rfl) rfl rfl hl.1 rfl (lv_room (Nat.le_of_ble_eq_true rfl)) dX2_waysToAnswer_46 ⟨Nat.le_refl _, Nat.le_refl _⟩) hP hD hS hA [0, 1] [] rfl rfl rfl (by decide) (fun r46 u H locs h hP hD hS => ?_)
          try dsimp only at h
          have hP : va_P G.1 vwCl [ceX2 h0 a_depths a_ways s_defeaters, caI G a_ways 2048 g_ways] H := hP
          have hD : va_D A [ceX2 h0 a_depths a_ways s_defeaters, caI G a_ways 2048 g_ways] := hD
          refine lv_i2l (v := r46.toInt64) hx hb dX2_waysToAnswer_49 rfl ?_
          refine lv_ladd hx hb dX2_waysToAnswer_50 ?_
          refine lv_lstore_n (lv' := [(3, .long (v3 + r46.toInt64)), (0, .ref h0), (1, .int x1), (5, .int v5), (6, .int v6)]) hx hb dX2_waysToAnswer_51 rfl hl (by decide) rfl (fun ls hl => ?_)
          refine lv_iinc (v := v6 + nI 1) (lv' := [(6, .int (v6 + nI 1)), (3, .long (v3 + r46.toInt64)), (0, .ref h0), (1, .int x1), (5, .int v5)]) hx hb dX2_waysToAnswer_52 hl (k := 4) rfl (congrArg (fun q => v6 + q) kc_1) (by decide) rfl (fun ls hl => ?_)
          refine lv_goto (tgt := 19) hx hb dX2_waysToAnswer_55 (by decide) ?_
          exact ih (v3 + r46.toInt64) v5 (v6 + nI 1) h _ _ _ hP hD hS (lv_sub hl [2, 3, 1, 4, 0] rfl)
  unfold wp_X2_waysToAnswer at h
  refine lv_lconst (v := lN 0) hx hb dX2_waysToAnswer_0 kl_0 ?_
  refine lv_lstore_n (lv' := [(3, .long (lN 0)), (0, .ref h0), (1, .int x1), (2, .int x2)]) hx hb dX2_waysToAnswer_1 rfl hl (by decide) rfl (fun ls hl => ?_)
  refine lv_aload_n hx hb dX2_waysToAnswer_2 rfl (lv_at hl 1 rfl) ?_
  refine va_get (D := G.1) (ci := 1) (v := .long s_defeaters) (C := RX2) (T := TX2) (N := 3) hx hb hts ki_X2 hown hK.1 hP 0 rfl rfl 2 (by decide) kf0 (fun _ h9 => h9) rfl dX2_waysToAnswer_3 ?_
  refine lv_iload_n hx hb dX2_waysToAnswer_6 rfl (lv_at hl 3 rfl) ?_
  refine hc_ki (wr := [ceX2 h0 a_depths a_ways s_defeaters, caI G a_ways 2048 g_ways]) (va_runS (As := [.long s_defeaters, .int x2]) (rest := []) ⟨hx, hb, hml, hown, hts⟩ (c_X0_get l G s.heap.size s_defeaters x2 _ h) (va_cwS 2 hts gX2_waysToAnswer_X0_get rfl rfl rfl (by decide +kernel) ⟨Nat.le_of_ble_eq_true rfl, Nat.le_of_ble_eq_true rfl⟩) (hc_pS hK hP hD [] rfl rfl) rfl rfl hl.1 rfl (lv_room (Nat.le_of_ble_eq_true rfl)) dX2_waysToAnswer_7 ⟨Nat.le_refl _, Nat.le_refl _⟩) hP hD hS hA [] [0, 1] rfl rfl rfl (by decide) (fun r7 u H locs h hP hD hS => ?_)
  try dsimp only at h
  have hP : va_P G.1 vwCl [ceX2 h0 a_depths a_ways s_defeaters, caI G a_ways 2048 g_ways] H := hP
  have hD : va_D A [ceX2 h0 a_depths a_ways s_defeaters, caI G a_ways 2048 g_ways] := hD
  refine lv_iload_n hx hb dX2_waysToAnswer_10 rfl (lv_at hl 2 rfl) ?_
  refine lv_iconst (v := (-1 : Int32)) hx hb dX2_waysToAnswer_11 kc_m1 ?_
  refine lv_ixor hx hb dX2_waysToAnswer_12 ?_
  refine lv_iand hx hb dX2_waysToAnswer_13 ?_
  refine lv_istore (lv' := [(5, .int (r7 &&& (x1 ^^^ ((-1 : Int32))))), (3, .long (lN 0)), (0, .ref h0), (1, .int x1), (2, .int x2)]) hx hb dX2_waysToAnswer_14 hl (by decide) rfl (fun ls hl => ?_)
  refine lv_iconst (v := nI 0) hx hb dX2_waysToAnswer_16 kc_0 ?_
  refine lv_istore (lv' := [(6, .int (nI 0)), (5, .int (r7 &&& (x1 ^^^ ((-1 : Int32))))), (3, .long (lN 0)), (0, .ref h0), (1, .int x1), (2, .int x2)]) hx hb dX2_waysToAnswer_17 hl (by decide) rfl (fun ls hl => ?_)
  obtain ⟨n19, h⟩ := h
  exact w19  n19 (lN 0) (r7 &&& (x1 ^^^ ((-1 : Int32)))) (nI 0) h _ _ _ hP hD hS (lv_sub hl [3, 4, 2, 1, 0] rfl)
set_option maxHeartbeats 4000000 in
set_option maxRecDepth 100000 in
theorem c_X2_waysBehind (l : Launch) (G : hcG) (h0 : Nat) (a_depths : Nat) (a_ways : Nat) (sz : Nat) (s_defeaters : Int64) (g_ways : Nat → Int32) (x1 : Int32) (x2 : Int32) (post : Int32 → Prop) (h : wp_X2_waysBehind post g_ways s_defeaters x1 x2) : Met l yX2_waysBehind wsX2_waysBehind ({ frames := 3, cells := 0, slots := 0, locals := 70 }) (hcPc G [.ref h0, .int x1, .int x2] [ceX2 h0 a_depths a_ways s_defeaters, caI G a_ways 2048 g_ways] sz) (va_Qi (fun (r : Int32) (u : Unit) => post r) (hcB G (va_A [ceX2 h0 a_depths a_ways s_defeaters, caI G a_ways 2048 g_ways] sz) (fun u : Unit => [ceX2 h0 a_depths a_ways s_defeaters, caI G a_ways 2048 g_ways])) (va_A [ceX2 h0 a_depths a_ways s_defeaters, caI G a_ways 2048 g_ways] sz)) 0 0 (va_A [ceX2 h0 a_depths a_ways s_defeaters, caI G a_ways 2048 g_ways] sz) := by
  refine Met.ofW (cc := cX2_waysBehind) (maxL := 7) (ret := (some .int)) (by decide) rfl ?_
  intro p e s m args below meth c s₁ B hml hv
  obtain ⟨rfl, hsz, hP, hK, hD0⟩ := hv
  have hx := B.exec
  have hb := B.bytes
  have hr := B.returns
  have hts := atoms_spec (ws := wsX2_waysBehind) B.pre
  have hown : s.vm.findClass RX2 = some m.cls := findClass_of_methodNamed B.named
  have hlocks := B.notSynchronized
  subst hsz
  have hD := hD0.self (sz := s.heap.size)
  generalize hAe : va_A [ceX2 h0 a_depths a_ways s_defeaters, caI G a_ways 2048 g_ways] s.heap.size = A at hD ⊢
  have hA : ∀ q : Nat, s.heap.size ≤ q → A q := fun q h => by rw [← hAe]; exact Or.inr h
  have hS : va_S A s.heap s.heap [] := va_S.rf
  have hP : va_P G.1 vwCl [ceX2 h0 a_depths a_ways s_defeaters, caI G a_ways 2048 g_ways] s.heap := hP
  have hl := lv_entry ([.ref h0, .int x1, .int x2]) (n := 7) (Nat.le_of_ble_eq_true rfl)
  rw [lg_entry_eq]
  generalize (lg_sl ([.ref h0, .int x1, .int x2]) ++ List.replicate (7 - (lg_sl ([.ref h0, .int x1, .int x2])).length) Slot.unset).toArray = ls at hl ⊢
  have hl : lv_has ls 7 [(0, .ref h0), (1, .int x1), (2, .int x2)] := hl
  have kf0 := hts (.fieldLink RX2 18 "HallOfClaims$Game" "defeaters" "J") (List.mem_of_getElem? (i := 1) (by decide +kernel))
  have kf1 := hts (.constantLong RX2 61 (1000000007)) (List.mem_of_getElem? (i := 2) (by decide +kernel))
  have ki_X2 : ∀ w ∈ u_ws RX2 TX2 3, w ∈ wsX2_waysBehind := by decide +kernel
  have w15 : ∀ (n : Nat) (v3 : Int64) (v5 : Int32) (v6 : Int32) , wp_X2_waysBehind_15 post g_ways s_defeaters x1 x2 n v3 v5 v6 → ∀ (H : Heap) (locs : List Loc) (ls : Array Slot), va_P G.1 vwCl [ceX2 h0 a_depths a_ways s_defeaters, caI G a_ways 2048 g_ways] H → va_D A [ceX2 h0 a_depths a_ways s_defeaters, caI G a_ways 2048 g_ways] → va_S A s.heap H locs → lv_has ls 7 [(0, .ref h0), (1, .int x1), (3, .long v3), (5, .int v5), (6, .int v6)] → W p l e (headSpec wsX2_waysBehind ({ frames := 3, cells := 0, slots := 0, locals := 70 })).room s m ([.ref h0, .int x1, .int x2] : List Value).toArray below meth c H locs 0 0 (MQ below (va_Qi (fun (r : Int32) (u : Unit) => post r) (hcB G A (fun u : Unit => [ceX2 h0 a_depths a_ways s_defeaters, caI G a_ways 2048 g_ways])) A) ([.ref h0, .int x1, .int x2] : List Value).toArray s 0 0 A) (F0 m 15 ls []) := by
    intro n
    induction n with
    | zero => intro v3 v5 v6 h; exact h.elim
    | succ n ih =>
      intro v3 v5 v6 h H locs ls hP hD hS hl
      unfold wp_X2_waysBehind_15 at h
      refine lv_iload hx hb dX2_waysBehind_15 (lv_at hl 4 rfl) ?_
      refine lv_bipush (v := nI 8) hx hb dX2_waysBehind_17 kb_8 ?_
      refine lv_icmp_ge (tgt := 52) hx hb dX2_waysBehind_19 (by decide) (fun c => ?_) (fun c => ?_)
      · replace h := h.1 c
        refine lv_lload_n hx hb dX2_waysBehind_52 rfl (lv_at hl 2 rfl) ?_
        refine lv_l2i (v := v3.toInt32) hx hb dX2_waysBehind_53 rfl ?_
        exact W.iret (v := v3.toInt32) hx hb hr (fun t ht hW => ⟨⟨_, (), rfl, h, ⟨by rw [ht]; exact hP, hD⟩⟩, hS.F ht⟩) hS.2.2 dX2_waysBehind_54
      · replace h := h.2 c
        refine lv_iload hx hb dX2_waysBehind_22 (lv_at hl 3 rfl) ?_
        refine lv_iload hx hb dX2_waysBehind_24 (lv_at hl 4 rfl) ?_
        refine hc_ki (wr := [ceX2 h0 a_depths a_ways s_defeaters, caI G a_ways 2048 g_ways]) (va_runS (As := [.int v5, .int v6]) (rest := []) ⟨hx, hb, hml, hown, hts⟩ (c_X0_contains l G H.size v5 v6 _ h) (va_cwS 2 hts gX2_waysBehind_X0_contains rfl rfl rfl (by decide +kernel) ⟨Nat.le_of_ble_eq_true rfl, Nat.le_of_ble_eq_true rfl⟩) (hc_pS hK hP hD [] rfl rfl) rfl rfl hl.1 rfl (lv_room (Nat.le_of_ble_eq_true rfl)) dX2_waysBehind_26 ⟨Nat.le_refl _, Nat.le_refl _⟩) hP hD hS hA [] [0, 1] rfl rfl rfl (by decide) (fun r26 u H locs h hP hD hS => ?_)
        try dsimp only at h
        have hP : va_P G.1 vwCl [ceX2 h0 a_depths a_ways s_defeaters, caI G a_ways 2048 g_ways] H := hP
        have hD : va_D A [ceX2 h0 a_depths a_ways s_defeaters, caI G a_ways 2048 g_ways] := hD
        refine lv_if_eq (tgt := 46) hx hb dX2_waysBehind_29 (by decide) (fun c => ?_) (fun c => ?_)
        · replace h := h.1 c
          refine lv_iinc (v := v6 + nI 1) (lv' := [(6, .int (v6 + nI 1)), (0, .ref h0), (1, .int x1), (3, .long v3), (5, .int v5)]) hx hb dX2_waysBehind_46 hl (k := 4) rfl (congrArg (fun q => v6 + q) kc_1) (by decide) rfl (fun ls hl => ?_)
          refine lv_goto (tgt := 15) hx hb dX2_waysBehind_49 (by decide) ?_
          exact ih v3 v5 (v6 + nI 1) h _ _ _ hP hD hS (lv_sub hl [1, 2, 3, 4, 0] rfl)
        · replace h := h.2 c
          refine lv_lload_n hx hb dX2_waysBehind_32 rfl (lv_at hl 2 rfl) ?_
          refine lv_aload_n hx hb dX2_waysBehind_33 rfl (lv_at hl 0 rfl) ?_
          refine lv_iload_n hx hb dX2_waysBehind_34 rfl (lv_at hl 1 rfl) ?_
          refine lv_iload hx hb dX2_waysBehind_35 (lv_at hl 4 rfl) ?_
          refine hc_kl (wr := []) (va_runV (As := [.int x1, .int v6]) (rest := [.long v3]) ⟨hx, hb, hml, hown, hts⟩ (c_X2_waysToAnswer l G h0 a_depths a_ways H.size s_defeaters g_ways x1 v6 _ h) (cwV 2 hts gX2_waysBehind_X2_waysToAnswer rfl rfl rfl (by decide +kernel) ⟨Nat.le_of_ble_eq_true rfl, Nat.le_of_ble_eq_true rfl⟩) (hc_pV hK hP hD [0, 1] rfl rfl (ci := 1) 0 rfl rfl) rfl rfl hl.1 rfl (lv_room (Nat.le_of_ble_eq_true rfl)) dX2_waysBehind_37 ⟨Nat.le_refl _, Nat.le_refl _⟩) hP hD hS hA [0, 1] [] rfl rfl rfl (by decide) (fun r37 u H locs h hP hD hS => ?_)
          try dsimp only at h
          have hP : va_P G.1 vwCl [ceX2 h0 a_depths a_ways s_defeaters, caI G a_ways 2048 g_ways] H := hP
          have hD : va_D A [ceX2 h0 a_depths a_ways s_defeaters, caI G a_ways 2048 g_ways] := hD
          refine lv_lmul hx hb dX2_waysBehind_40 ?_
          refine lv_ldc2 (own := RX2) (v := 1000000007) hx hb hown kf1 dX2_waysBehind_41 ?_
          have hne := h.1
          replace h := h.2
          refine lv_lrem hx hb dX2_waysBehind_44 hne ?_
          refine lv_topl (fun y45 ey45 => ?_)
          replace h := h _ ey45
          refine lv_lstore_n (lv' := [(3, .long y45), (0, .ref h0), (1, .int x1), (5, .int v5), (6, .int v6)]) hx hb dX2_waysBehind_45 rfl hl (by decide) rfl (fun ls hl => ?_)
          refine lv_iinc (v := v6 + nI 1) (lv' := [(6, .int (v6 + nI 1)), (3, .long y45), (0, .ref h0), (1, .int x1), (5, .int v5)]) hx hb dX2_waysBehind_46 hl (k := 4) rfl (congrArg (fun q => v6 + q) kc_1) (by decide) rfl (fun ls hl => ?_)
          refine lv_goto (tgt := 15) hx hb dX2_waysBehind_49 (by decide) ?_
          exact ih y45 v5 (v6 + nI 1) h _ _ _ hP hD hS (lv_sub hl [2, 3, 1, 4, 0] rfl)
  unfold wp_X2_waysBehind at h
  refine lv_lconst (v := lN 1) hx hb dX2_waysBehind_0 kl_1 ?_
  refine lv_lstore_n (lv' := [(3, .long (lN 1)), (0, .ref h0), (1, .int x1), (2, .int x2)]) hx hb dX2_waysBehind_1 rfl hl (by decide) rfl (fun ls hl => ?_)
  refine lv_aload_n hx hb dX2_waysBehind_2 rfl (lv_at hl 1 rfl) ?_
  refine va_get (D := G.1) (ci := 1) (v := .long s_defeaters) (C := RX2) (T := TX2) (N := 3) hx hb hts ki_X2 hown hK.1 hP 0 rfl rfl 2 (by decide) kf0 (fun _ h9 => h9) rfl dX2_waysBehind_3 ?_
  refine lv_iload_n hx hb dX2_waysBehind_6 rfl (lv_at hl 3 rfl) ?_
  refine hc_ki (wr := [ceX2 h0 a_depths a_ways s_defeaters, caI G a_ways 2048 g_ways]) (va_runS (As := [.long s_defeaters, .int x2]) (rest := []) ⟨hx, hb, hml, hown, hts⟩ (c_X0_get l G s.heap.size s_defeaters x2 _ h) (va_cwS 2 hts gX2_waysBehind_X0_get rfl rfl rfl (by decide +kernel) ⟨Nat.le_of_ble_eq_true rfl, Nat.le_of_ble_eq_true rfl⟩) (hc_pS hK hP hD [] rfl rfl) rfl rfl hl.1 rfl (lv_room (Nat.le_of_ble_eq_true rfl)) dX2_waysBehind_7 ⟨Nat.le_refl _, Nat.le_refl _⟩) hP hD hS hA [] [0, 1] rfl rfl rfl (by decide) (fun r7 u H locs h hP hD hS => ?_)
  try dsimp only at h
  have hP : va_P G.1 vwCl [ceX2 h0 a_depths a_ways s_defeaters, caI G a_ways 2048 g_ways] H := hP
  have hD : va_D A [ceX2 h0 a_depths a_ways s_defeaters, caI G a_ways 2048 g_ways] := hD
  refine lv_istore (lv' := [(5, .int r7), (3, .long (lN 1)), (0, .ref h0), (1, .int x1), (2, .int x2)]) hx hb dX2_waysBehind_10 hl (by decide) rfl (fun ls hl => ?_)
  refine lv_iconst (v := nI 0) hx hb dX2_waysBehind_12 kc_0 ?_
  refine lv_istore (lv' := [(6, .int (nI 0)), (5, .int r7), (3, .long (lN 1)), (0, .ref h0), (1, .int x1), (2, .int x2)]) hx hb dX2_waysBehind_13 hl (by decide) rfl (fun ls hl => ?_)
  obtain ⟨n15, h⟩ := h
  exact w15  n15 (lN 1) r7 (nI 0) h _ _ _ hP hD hS (lv_sub hl [3, 4, 2, 1, 0] rfl)
set_option maxHeartbeats 4000000 in
set_option maxRecDepth 100000 in
theorem c_X2_reckon (l : Launch) (G : hcG) (h0 : Nat) (a_depths : Nat) (a_ways : Nat) (sz : Nat) (s_defeaters : Int64) (g_depths : Nat → Int32) (g_ways : Nat → Int32) (x1 : Int32) (post : (Nat → Int32) → (Nat → Int32) → Prop) (h : wp_X2_reckon post g_depths g_ways s_defeaters x1) : Met l yX2_reckon wsX2_reckon ({ frames := 4, cells := 0, slots := 0, locals := 97 }) (hcPc G [.ref h0, .int x1] [ceX2 h0 a_depths a_ways s_defeaters, caI G a_depths 2048 g_depths, caI G a_ways 2048 g_ways] sz) (va_Qv (fun u : (Nat → Int32) × (Nat → Int32) => post u.1 u.2) (hcB G (va_A [ceX2 h0 a_depths a_ways s_defeaters, caI G a_depths 2048 g_depths, caI G a_ways 2048 g_ways] sz) (fun u : (Nat → Int32) × (Nat → Int32) => [ceX2 h0 a_depths a_ways s_defeaters, caI G a_depths 2048 u.1, caI G a_ways 2048 u.2])) (va_A [ceX2 h0 a_depths a_ways s_defeaters, caI G a_depths 2048 g_depths, caI G a_ways 2048 g_ways] sz)) 0 0 (va_A [ceX2 h0 a_depths a_ways s_defeaters, caI G a_depths 2048 g_depths, caI G a_ways 2048 g_ways] sz) := by
  refine Met.ofW (cc := cX2_reckon) (maxL := 5) (ret := none) (by decide) rfl ?_
  intro p e s m args below meth c s₁ B hml hv
  obtain ⟨rfl, hsz, hP, hK, hD0⟩ := hv
  have hx := B.exec
  have hb := B.bytes
  have hr := B.returns
  have hts := atoms_spec (ws := wsX2_reckon) B.pre
  have hown : s.vm.findClass RX2 = some m.cls := findClass_of_methodNamed B.named
  have hlocks := B.notSynchronized
  subst hsz
  have hD := hD0.self (sz := s.heap.size)
  generalize hAe : va_A [ceX2 h0 a_depths a_ways s_defeaters, caI G a_depths 2048 g_depths, caI G a_ways 2048 g_ways] s.heap.size = A at hD ⊢
  have hA : ∀ q : Nat, s.heap.size ≤ q → A q := fun q h => by rw [← hAe]; exact Or.inr h
  have hS : va_S A s.heap s.heap [] := va_S.rf
  have hP : va_P G.1 vwCl [ceX2 h0 a_depths a_ways s_defeaters, caI G a_depths 2048 g_depths, caI G a_ways 2048 g_ways] s.heap := hP
  have hl := lv_entry ([.ref h0, .int x1]) (n := 5) (Nat.le_of_ble_eq_true rfl)
  rw [lg_entry_eq]
  generalize (lg_sl ([.ref h0, .int x1]) ++ List.replicate (5 - (lg_sl ([.ref h0, .int x1])).length) Slot.unset).toArray = ls at hl ⊢
  have hl : lv_has ls 5 [(0, .ref h0), (1, .int x1)] := hl
  have kf0 := hts (.fieldLink RX2 9 "HallOfClaims$Game" "depths" "[I") (List.mem_of_getElem? (i := 1) (by decide +kernel))
  have kf1 := hts (.fieldLink RX2 15 "HallOfClaims$Game" "ways" "[I") (List.mem_of_getElem? (i := 2) (by decide +kernel))
  have ki_X2 : ∀ w ∈ u_ws RX2 TX2 3, w ∈ wsX2_reckon := by decide +kernel
  have w41 : ∀ (K2 : Int32 → (Nat → Int32) → (Nat → Int32) → Prop), (∀ (v2 : Int32) (g_depths : Nat → Int32) (g_ways : Nat → Int32) , K2 v2 g_depths g_ways → ∀ (H : Heap) (locs : List Loc) (ls : Array Slot), va_P G.1 vwCl [ceX2 h0 a_depths a_ways s_defeaters, caI G a_depths 2048 g_depths, caI G a_ways 2048 g_ways] H → va_D A [ceX2 h0 a_depths a_ways s_defeaters, caI G a_depths 2048 g_depths, caI G a_ways 2048 g_ways] → va_S A s.heap H locs → lv_has ls 5 [(0, .ref h0), (1, .int x1), (2, .int v2)] → W p l e (headSpec wsX2_reckon ({ frames := 4, cells := 0, slots := 0, locals := 97 })).room s m ([.ref h0, .int x1] : List Value).toArray below meth c H locs 0 0 (MQ below (va_Qv (fun u : (Nat → Int32) × (Nat → Int32) => post u.1 u.2) (hcB G A (fun u : (Nat → Int32) × (Nat → Int32) => [ceX2 h0 a_depths a_ways s_defeaters, caI G a_depths 2048 u.1, caI G a_ways 2048 u.2])) A) ([.ref h0, .int x1] : List Value).toArray s 0 0 A) (F0 m 2 ls [])) → ∀ (v2 : Int32) (v3 : Int32) (g_depths : Nat → Int32) (g_ways : Nat → Int32) (t0 : Int32) , wp_X2_reckon_41 post s_defeaters x1 K2 v2 v3 g_depths g_ways t0 → ∀ (H : Heap) (locs : List Loc) (ls : Array Slot), va_P G.1 vwCl [ceX2 h0 a_depths a_ways s_defeaters, caI G a_depths 2048 g_depths, caI G a_ways 2048 g_ways] H → va_D A [ceX2 h0 a_depths a_ways s_defeaters, caI G a_depths 2048 g_depths, caI G a_ways 2048 g_ways] → va_S A s.heap H locs → lv_has ls 5 [(0, .ref h0), (1, .int x1), (2, .int v2), (3, .int v3)] → W p l e (headSpec wsX2_reckon ({ frames := 4, cells := 0, slots := 0, locals := 97 })).room s m ([.ref h0, .int x1] : List Value).toArray below meth c H locs 0 0 (MQ below (va_Qv (fun u : (Nat → Int32) × (Nat → Int32) => post u.1 u.2) (hcB G A (fun u : (Nat → Int32) × (Nat → Int32) => [ceX2 h0 a_depths a_ways s_defeaters, caI G a_depths 2048 u.1, caI G a_ways 2048 u.2])) A) ([.ref h0, .int x1] : List Value).toArray s 0 0 A) (F0 m 41 ls [.int t0]) := by
    intro K2 hK2 v2 v3 g_depths g_ways t0 h H locs ls hP hD hS hl
    unfold wp_X2_reckon_41 at h
    refine lv_istore (lv' := [(4, .int t0), (0, .ref h0), (1, .int x1), (2, .int v2), (3, .int v3)]) hx hb dX2_reckon_41 hl (by decide) rfl (fun ls hl => ?_)
    refine lv_iload hx hb dX2_reckon_43 (lv_at hl 0 rfl) ?_
    refine lv_if_eq (tgt := 80) hx hb dX2_reckon_45 (by decide) (fun c => ?_) (fun c => ?_)
    · replace h := h.1 c
      refine lv_iinc (v := v2 + nI 1) (lv' := [(2, .int (v2 + nI 1)), (4, .int t0), (0, .ref h0), (1, .int x1), (3, .int v3)]) hx hb dX2_reckon_80 hl (k := 3) rfl (congrArg (fun q => v2 + q) kc_1) (by decide) rfl (fun ls hl => ?_)
      refine lv_goto (tgt := 2) hx hb dX2_reckon_83 (by decide) ?_
      exact hK2 (v2 + nI 1) g_depths g_ways h _ _ _ hP hD hS (lv_sub hl [2, 3, 0] rfl)
    · replace h := h.2 c
      refine lv_iload_n hx hb dX2_reckon_48 rfl (lv_at hl 2 rfl) ?_
      refine lv_iload_n hx hb dX2_reckon_49 rfl (lv_at hl 3 rfl) ?_
      refine hc_ki (wr := [ceX2 h0 a_depths a_ways s_defeaters, caI G a_depths 2048 g_depths, caI G a_ways 2048 g_ways]) (va_runS (As := [.int x1, .int v2]) (rest := []) ⟨hx, hb, hml, hown, hts⟩ (c_X0_contains l G H.size x1 v2 _ h) (va_cwS 2 hts gX2_reckon_X0_contains rfl rfl rfl (by decide +kernel) ⟨Nat.le_of_ble_eq_true rfl, Nat.le_of_ble_eq_true rfl⟩) (hc_pS hK hP hD [] rfl rfl) rfl rfl hl.1 rfl (lv_room (Nat.le_of_ble_eq_true rfl)) dX2_reckon_50 ⟨Nat.le_refl _, Nat.le_refl _⟩) hP hD hS hA [] [0, 1, 2] rfl rfl rfl (by decide) (fun r50 u H locs h hP hD hS => ?_)
      try dsimp only at h
      have hP : va_P G.1 vwCl [ceX2 h0 a_depths a_ways s_defeaters, caI G a_depths 2048 g_depths, caI G a_ways 2048 g_ways] H := hP
      have hD : va_D A [ceX2 h0 a_depths a_ways s_defeaters, caI G a_depths 2048 g_depths, caI G a_ways 2048 g_ways] := hD
      refine lv_if_eq (tgt := 80) hx hb dX2_reckon_53 (by decide) (fun c => ?_) (fun c => ?_)
      · replace h := h.1 c
        refine lv_iinc (v := v2 + nI 1) (lv' := [(2, .int (v2 + nI 1)), (4, .int t0), (0, .ref h0), (1, .int x1), (3, .int v3)]) hx hb dX2_reckon_80 hl (k := 3) rfl (congrArg (fun q => v2 + q) kc_1) (by decide) rfl (fun ls hl => ?_)
        refine lv_goto (tgt := 2) hx hb dX2_reckon_83 (by decide) ?_
        exact hK2 (v2 + nI 1) g_depths g_ways h _ _ _ hP hD hS (lv_sub hl [2, 3, 0] rfl)
      · replace h := h.2 c
        refine lv_aload_n hx hb dX2_reckon_56 rfl (lv_at hl 1 rfl) ?_
        refine va_get (D := G.1) (ci := 1) (v := .ref a_depths) (C := RX2) (T := TX2) (N := 3) hx hb hts ki_X2 hown hK.1 hP 0 rfl rfl 0 (by decide) kf0 (fun _ h9 => h9) rfl dX2_reckon_57 ?_
        refine lv_iload_n hx hb dX2_reckon_60 rfl (lv_at hl 4 rfl) ?_
        refine lv_aload_n hx hb dX2_reckon_61 rfl (lv_at hl 1 rfl) ?_
        refine lv_iload_n hx hb dX2_reckon_62 rfl (lv_at hl 2 rfl) ?_
        refine lv_iload_n hx hb dX2_reckon_63 rfl (lv_at hl 3 rfl) ?_
        refine hc_ki (wr := [caI G a_ways 2048 g_ways]) (va_runV (As := [.int x1, .int v2]) (rest := [.int v3, .ref a_depths]) ⟨hx, hb, hml, hown, hts⟩ (c_X2_depthBehind l G h0 a_depths a_ways H.size s_defeaters g_depths x1 v2 _ h) (cwV 2 hts gX2_reckon_X2_depthBehind rfl rfl rfl (by decide +kernel) ⟨Nat.le_of_ble_eq_true rfl, Nat.le_of_ble_eq_true rfl⟩) (hc_pV hK hP hD [0, 1] rfl rfl (ci := 1) 0 rfl rfl) rfl rfl hl.1 rfl (lv_room (Nat.le_of_ble_eq_true rfl)) dX2_reckon_64 ⟨Nat.le_refl _, Nat.le_refl _⟩) hP hD hS hA [0, 1] [2] rfl rfl rfl (by decide) (fun r64 u H locs h hP hD hS => ?_)
        try dsimp only at h
        have hP : va_P G.1 vwCl [caI G a_ways 2048 g_ways, ceX2 h0 a_depths a_ways s_defeaters, caI G a_depths 2048 g_depths] H := hP
        have hD : va_D A [caI G a_ways 2048 g_ways, ceX2 h0 a_depths a_ways s_defeaters, caI G a_depths 2048 g_depths] := hD
        have hin := h.1
        replace h := h.2
        refine va_iast hx hb hK.1 hP hD hS 2 0 rfl rfl hin dX2_reckon_67 (fun H locs hP hD hS => ?_)
        have hP : va_P G.1 vwCl [caI G a_ways 2048 g_ways, ceX2 h0 a_depths a_ways s_defeaters, caI G a_depths 2048 (upd g_depths v3.toNatClampNeg r64)] H := hP
        have hD : va_D A [caI G a_ways 2048 g_ways, ceX2 h0 a_depths a_ways s_defeaters, caI G a_depths 2048 (upd g_depths v3.toNatClampNeg r64)] := hD
        refine lv_aload_n hx hb dX2_reckon_68 rfl (lv_at hl 1 rfl) ?_
        refine va_get (D := G.1) (ci := 1) (v := .ref a_ways) (C := RX2) (T := TX2) (N := 3) hx hb hts ki_X2 hown hK.1 hP 1 rfl rfl 1 (by decide) kf1 (fun _ h9 => h9) rfl dX2_reckon_69 ?_
        refine lv_iload_n hx hb dX2_reckon_72 rfl (lv_at hl 4 rfl) ?_
        refine lv_aload_n hx hb dX2_reckon_73 rfl (lv_at hl 1 rfl) ?_
        refine lv_iload_n hx hb dX2_reckon_74 rfl (lv_at hl 2 rfl) ?_
        refine lv_iload_n hx hb dX2_reckon_75 rfl (lv_at hl 3 rfl) ?_
        refine hc_ki (wr := [caI G a_depths 2048 (upd g_depths v3.toNatClampNeg r64)]) (va_runV (As := [.int x1, .int v2]) (rest := [.int v3, .ref a_ways]) ⟨hx, hb, hml, hown, hts⟩ (c_X2_waysBehind l G h0 a_depths a_ways H.size s_defeaters g_ways x1 v2 _ h) (cwV 2 hts gX2_reckon_X2_waysBehind rfl rfl rfl (by decide +kernel) ⟨Nat.le_of_ble_eq_true rfl, Nat.le_of_ble_eq_true rfl⟩) (hc_pV hK hP hD [1, 0] rfl rfl (ci := 1) 1 rfl rfl) rfl rfl hl.1 rfl (lv_room (Nat.le_of_ble_eq_true rfl)) dX2_reckon_76 ⟨Nat.le_refl _, Nat.le_refl _⟩) hP hD hS hA [1, 0] [2] rfl rfl rfl (by decide) (fun r76 u H locs h hP hD hS => ?_)
        try dsimp only at h
        have hP : va_P G.1 vwCl [caI G a_depths 2048 (upd g_depths v3.toNatClampNeg r64), ceX2 h0 a_depths a_ways s_defeaters, caI G a_ways 2048 g_ways] H := hP
        have hD : va_D A [caI G a_depths 2048 (upd g_depths v3.toNatClampNeg r64), ceX2 h0 a_depths a_ways s_defeaters, caI G a_ways 2048 g_ways] := hD
        have hin := h.1
        replace h := h.2
        refine va_iast hx hb hK.1 hP hD hS 2 0 rfl rfl hin dX2_reckon_79 (fun H locs hP hD hS => ?_)
        have hP : va_P G.1 vwCl [caI G a_depths 2048 (upd g_depths v3.toNatClampNeg r64), ceX2 h0 a_depths a_ways s_defeaters, caI G a_ways 2048 (upd g_ways v3.toNatClampNeg r76)] H := hP
        have hD : va_D A [caI G a_depths 2048 (upd g_depths v3.toNatClampNeg r64), ceX2 h0 a_depths a_ways s_defeaters, caI G a_ways 2048 (upd g_ways v3.toNatClampNeg r76)] := hD
        refine lv_iinc (v := v2 + nI 1) (lv' := [(2, .int (v2 + nI 1)), (4, .int t0), (0, .ref h0), (1, .int x1), (3, .int v3)]) hx hb dX2_reckon_80 hl (k := 3) rfl (congrArg (fun q => v2 + q) kc_1) (by decide) rfl (fun ls hl => ?_)
        refine lv_goto (tgt := 2) hx hb dX2_reckon_83 (by decide) ?_
        exact hK2 (v2 + nI 1) (upd g_depths v3.toNatClampNeg r64) (upd g_ways v3.toNatClampNeg r76) h _ _ _ (hP.sub [1, 0, 2] rfl) (hD.sub [1, 0, 2] (by decide) rfl) hS (lv_sub hl [2, 3, 0] rfl)
  have w2 : ∀ (n : Nat) (v2 : Int32) (g_depths : Nat → Int32) (g_ways : Nat → Int32) , wp_X2_reckon_2 post s_defeaters x1 n v2 g_depths g_ways → ∀ (H : Heap) (locs : List Loc) (ls : Array Slot), va_P G.1 vwCl [ceX2 h0 a_depths a_ways s_defeaters, caI G a_depths 2048 g_depths, caI G a_ways 2048 g_ways] H → va_D A [ceX2 h0 a_depths a_ways s_defeaters, caI G a_depths 2048 g_depths, caI G a_ways 2048 g_ways] → va_S A s.heap H locs → lv_has ls 5 [(0, .ref h0), (1, .int x1), (2, .int v2)] → W p l e (headSpec wsX2_reckon ({ frames := 4, cells := 0, slots := 0, locals := 97 })).room s m ([.ref h0, .int x1] : List Value).toArray below meth c H locs 0 0 (MQ below (va_Qv (fun u : (Nat → Int32) × (Nat → Int32) => post u.1 u.2) (hcB G A (fun u : (Nat → Int32) × (Nat → Int32) => [ceX2 h0 a_depths a_ways s_defeaters, caI G a_depths 2048 u.1, caI G a_ways 2048 u.2])) A) ([.ref h0, .int x1] : List Value).toArray s 0 0 A) (F0 m 2 ls []) := by
    intro n
    induction n with
    | zero => intro v2 g_depths g_ways h; exact h.elim
    | succ n ih =>
      intro v2 g_depths g_ways h H locs ls hP hD hS hl
      unfold wp_X2_reckon_2 at h
      refine lv_iload_n hx hb dX2_reckon_2 rfl (lv_at hl 2 rfl) ?_
      refine lv_bipush (v := nI 8) hx hb dX2_reckon_3 kb_8 ?_
      refine lv_icmp_ge (tgt := 86) hx hb dX2_reckon_5 (by decide) (fun c => ?_) (fun c => ?_)
      · replace h := h.1 c
        exact W.vret hx hb hr (fun t ht hW => ⟨⟨⟨g_depths, g_ways⟩, rfl, h, ⟨by rw [ht]; exact hP, hD⟩⟩, hS.F ht⟩) hS.2.2 dX2_reckon_86
      · replace h := h.2 c
        refine lv_iload_n hx hb dX2_reckon_8 rfl (lv_at hl 1 rfl) ?_
        refine lv_iload_n hx hb dX2_reckon_9 rfl (lv_at hl 2 rfl) ?_
        refine hc_ki (wr := [ceX2 h0 a_depths a_ways s_defeaters, caI G a_depths 2048 g_depths, caI G a_ways 2048 g_ways]) (va_runS (As := [.int x1, .int v2]) (rest := []) ⟨hx, hb, hml, hown, hts⟩ (c_X2_placeOf l G H.size x1 v2 _ h) (va_cwS 2 hts gX2_reckon_X2_placeOf rfl rfl rfl (by decide +kernel) ⟨Nat.le_of_ble_eq_true rfl, Nat.le_of_ble_eq_true rfl⟩) (hc_pS hK hP hD [] rfl rfl) rfl rfl hl.1 rfl (lv_room (Nat.le_of_ble_eq_true rfl)) dX2_reckon_10 ⟨Nat.le_refl _, Nat.le_refl _⟩) hP hD hS hA [] [0, 1, 2] rfl rfl rfl (by decide) (fun r10 u H locs h hP hD hS => ?_)
        try dsimp only at h
        have hP : va_P G.1 vwCl [ceX2 h0 a_depths a_ways s_defeaters, caI G a_depths 2048 g_depths, caI G a_ways 2048 g_ways] H := hP
        have hD : va_D A [ceX2 h0 a_depths a_ways s_defeaters, caI G a_depths 2048 g_depths, caI G a_ways 2048 g_ways] := hD
        refine lv_istore_n (lv' := [(3, .int r10), (0, .ref h0), (1, .int x1), (2, .int v2)]) hx hb dX2_reckon_13 rfl hl (by decide) rfl (fun ls hl => ?_)
        refine lv_iload_n hx hb dX2_reckon_14 rfl (lv_at hl 0 rfl) ?_
        refine lv_if_lt (tgt := 40) hx hb dX2_reckon_15 (by decide) (fun c => ?_) (fun c => ?_)
        · replace h := h.1 c
          refine lv_iconst (v := nI 0) hx hb dX2_reckon_40 kc_0 ?_
          exact w41 ((wp_X2_reckon_2 post s_defeaters x1 n)) ih v2 r10 g_depths g_ways (nI 0) h _ _ _ hP hD hS (lv_sub hl [1, 2, 3, 0] rfl)
        · replace h := h.2 c
          refine lv_iload_n hx hb dX2_reckon_18 rfl (lv_at hl 0 rfl) ?_
          refine lv_aload_n hx hb dX2_reckon_19 rfl (lv_at hl 1 rfl) ?_
          refine va_get (D := G.1) (ci := 1) (v := .ref a_depths) (C := RX2) (T := TX2) (N := 3) hx hb hts ki_X2 hown hK.1 hP 0 rfl rfl 0 (by decide) kf0 (fun _ h9 => h9) rfl dX2_reckon_20 ?_
          refine va_alen hx hb hK.1 hP 1 0 rfl rfl (v := nI 2048) rfl dX2_reckon_23 ?_
          refine lv_icmp_ge (tgt := 40) hx hb dX2_reckon_24 (by decide) (fun c => ?_) (fun c => ?_)
          · replace h := h.1 c
            refine lv_iconst (v := nI 0) hx hb dX2_reckon_40 kc_0 ?_
            exact w41 ((wp_X2_reckon_2 post s_defeaters x1 n)) ih v2 r10 g_depths g_ways (nI 0) h _ _ _ hP hD hS (lv_sub hl [1, 2, 3, 0] rfl)
          · replace h := h.2 c
            refine lv_iload_n hx hb dX2_reckon_27 rfl (lv_at hl 0 rfl) ?_
            refine lv_aload_n hx hb dX2_reckon_28 rfl (lv_at hl 1 rfl) ?_
            refine va_get (D := G.1) (ci := 1) (v := .ref a_ways) (C := RX2) (T := TX2) (N := 3) hx hb hts ki_X2 hown hK.1 hP 0 rfl rfl 1 (by decide) kf1 (fun _ h9 => h9) rfl dX2_reckon_29 ?_
            refine va_alen hx hb hK.1 hP 2 0 rfl rfl (v := nI 2048) rfl dX2_reckon_32 ?_
            refine lv_icmp_ge (tgt := 40) hx hb dX2_reckon_33 (by decide) (fun c => ?_) (fun c => ?_)
            · replace h := h.1 c
              refine lv_iconst (v := nI 0) hx hb dX2_reckon_40 kc_0 ?_
              exact w41 ((wp_X2_reckon_2 post s_defeaters x1 n)) ih v2 r10 g_depths g_ways (nI 0) h _ _ _ hP hD hS (lv_sub hl [1, 2, 3, 0] rfl)
            · replace h := h.2 c
              refine lv_iconst (v := nI 1) hx hb dX2_reckon_36 kc_1 ?_
              refine lv_goto (tgt := 41) hx hb dX2_reckon_37 (by decide) ?_
              exact w41 ((wp_X2_reckon_2 post s_defeaters x1 n)) ih v2 r10 g_depths g_ways (nI 1) h _ _ _ hP hD hS (lv_sub hl [1, 2, 3, 0] rfl)
  unfold wp_X2_reckon at h
  refine lv_iconst (v := nI 0) hx hb dX2_reckon_0 kc_0 ?_
  refine lv_istore_n (lv' := [(2, .int (nI 0)), (0, .ref h0), (1, .int x1)]) hx hb dX2_reckon_1 rfl hl (by decide) rfl (fun ls hl => ?_)
  obtain ⟨n2, h⟩ := h
  exact w2  n2 (nI 0) g_depths g_ways h _ _ _ hP hD hS (lv_sub hl [1, 2, 0] rfl)
set_option maxHeartbeats 4000000 in
set_option maxRecDepth 100000 in
theorem c_X2_play (l : Launch) (G : hcG) (h0 : Nat) (a_depths : Nat) (a_ways : Nat) (sz : Nat) (s_defeaters : Int64) (g_depths : Nat → Int32) (g_ways : Nat → Int32) (x1 : Int32) (x2 : Int32) (x3 : Int64) (post : (Nat → Int32) → (Nat → Int32) → Int64 → Prop) (h : wp_X2_play post g_depths g_ways s_defeaters x1 x2 x3) : Met l yX2_play wsX2_play ({ frames := 5, cells := 0, slots := 0, locals := 121 }) (hcPc G [.ref h0, .int x1, .int x2, .long x3] [ceX2 h0 a_depths a_ways s_defeaters, caI G a_depths 2048 g_depths, caI G a_ways 2048 g_ways] sz) (va_Qv (fun u : (Nat → Int32) × (Nat → Int32) × Int64 => post u.1 u.2.1 u.2.2) (hcB G (va_A [ceX2 h0 a_depths a_ways s_defeaters, caI G a_depths 2048 g_depths, caI G a_ways 2048 g_ways] sz) (fun u : (Nat → Int32) × (Nat → Int32) × Int64 => [ceX2 h0 a_depths a_ways u.2.2, caI G a_depths 2048 u.1, caI G a_ways 2048 u.2.1])) (va_A [ceX2 h0 a_depths a_ways s_defeaters, caI G a_depths 2048 g_depths, caI G a_ways 2048 g_ways] sz)) 0 0 (va_A [ceX2 h0 a_depths a_ways s_defeaters, caI G a_depths 2048 g_depths, caI G a_ways 2048 g_ways] sz) := by
  refine Met.ofW (cc := cX2_play) (maxL := 6) (ret := none) (by decide) rfl ?_
  intro p e s m args below meth c s₁ B hml hv
  obtain ⟨rfl, hsz, hP, hK, hD0⟩ := hv
  have hx := B.exec
  have hb := B.bytes
  have hr := B.returns
  have hts := atoms_spec (ws := wsX2_play) B.pre
  have hown : s.vm.findClass RX2 = some m.cls := findClass_of_methodNamed B.named
  have hlocks := B.notSynchronized
  subst hsz
  have hD := hD0.self (sz := s.heap.size)
  generalize hAe : va_A [ceX2 h0 a_depths a_ways s_defeaters, caI G a_depths 2048 g_depths, caI G a_ways 2048 g_ways] s.heap.size = A at hD ⊢
  have hA : ∀ q : Nat, s.heap.size ≤ q → A q := fun q h => by rw [← hAe]; exact Or.inr h
  have hS : va_S A s.heap s.heap [] := va_S.rf
  have hP : va_P G.1 vwCl [ceX2 h0 a_depths a_ways s_defeaters, caI G a_depths 2048 g_depths, caI G a_ways 2048 g_ways] s.heap := hP
  have hl := lv_entry ([.ref h0, .int x1, .int x2, .long x3]) (n := 6) (Nat.le_of_ble_eq_true rfl)
  rw [lg_entry_eq]
  generalize (lg_sl ([.ref h0, .int x1, .int x2, .long x3]) ++ List.replicate (6 - (lg_sl ([.ref h0, .int x1, .int x2, .long x3])).length) Slot.unset).toArray = ls at hl ⊢
  have hl : lv_has ls 6 [(0, .ref h0), (1, .int x1), (2, .int x2), (3, .long x3)] := hl
  have kf0 := hts (.fieldLink RX2 18 "HallOfClaims$Game" "defeaters" "J") (List.mem_of_getElem? (i := 1) (by decide +kernel))
  have ki_X2 : ∀ w ∈ u_ws RX2 TX2 3, w ∈ wsX2_play := by decide +kernel
  have w10 : ∀ (n : Nat) (v5 : Int32) (g_depths : Nat → Int32) (g_ways : Nat → Int32) (s_defeaters : Int64) , wp_X2_play_10 post x1 x2 x3 n v5 g_depths g_ways s_defeaters → ∀ (H : Heap) (locs : List Loc) (ls : Array Slot), va_P G.1 vwCl [ceX2 h0 a_depths a_ways s_defeaters, caI G a_depths 2048 g_depths, caI G a_ways 2048 g_ways] H → va_D A [ceX2 h0 a_depths a_ways s_defeaters, caI G a_depths 2048 g_depths, caI G a_ways 2048 g_ways] → va_S A s.heap H locs → lv_has ls 6 [(0, .ref h0), (1, .int x1), (2, .int x2), (5, .int v5)] → W p l e (headSpec wsX2_play ({ frames := 5, cells := 0, slots := 0, locals := 121 })).room s m ([.ref h0, .int x1, .int x2, .long x3] : List Value).toArray below meth c H locs 0 0 (MQ below (va_Qv (fun u : (Nat → Int32) × (Nat → Int32) × Int64 => post u.1 u.2.1 u.2.2) (hcB G A (fun u : (Nat → Int32) × (Nat → Int32) × Int64 => [ceX2 h0 a_depths a_ways u.2.2, caI G a_depths 2048 u.1, caI G a_ways 2048 u.2.1])) A) ([.ref h0, .int x1, .int x2, .long x3] : List Value).toArray s 0 0 A) (F0 m 10 ls []) := by
    intro n
    induction n with
    | zero => intro v5 g_depths g_ways s_defeaters h; exact h.elim
    | succ n ih =>
      intro v5 g_depths g_ways s_defeaters h H locs ls hP hD hS hl
      unfold wp_X2_play_10 at h
      refine lv_iload hx hb dX2_play_10 (lv_at hl 3 rfl) ?_
      refine lv_if_lt (tgt := 45) hx hb dX2_play_12 (by decide) (fun c => ?_) (fun c => ?_)
      · replace h := h.1 c
        exact W.vret hx hb hr (fun t ht hW => ⟨⟨⟨g_depths, g_ways, s_defeaters⟩, rfl, h, ⟨by rw [ht]; exact hP, hD⟩⟩, hS.F ht⟩) hS.2.2 dX2_play_45
      · replace h := h.2 c
        refine lv_iload hx hb dX2_play_15 (lv_at hl 3 rfl) ?_
        refine lv_iload_n hx hb dX2_play_17 rfl (lv_at hl 1 rfl) ?_
        refine hc_ki (wr := [ceX2 h0 a_depths a_ways s_defeaters, caI G a_depths 2048 g_depths, caI G a_ways 2048 g_ways]) (va_runS (As := [.int v5, .int x1]) (rest := []) ⟨hx, hb, hml, hown, hts⟩ (c_X0_contains l G H.size v5 x1 _ h) (va_cwS 2 hts gX2_play_X0_contains rfl rfl rfl (by decide +kernel) ⟨Nat.le_of_ble_eq_true rfl, Nat.le_of_ble_eq_true rfl⟩) (hc_pS hK hP hD [] rfl rfl) rfl rfl hl.1 rfl (lv_room (Nat.le_of_ble_eq_true rfl)) dX2_play_18 ⟨Nat.le_refl _, Nat.le_refl _⟩) hP hD hS hA [] [0, 1, 2] rfl rfl rfl (by decide) (fun r18 u H locs h hP hD hS => ?_)
        try dsimp only at h
        have hP : va_P G.1 vwCl [ceX2 h0 a_depths a_ways s_defeaters, caI G a_depths 2048 g_depths, caI G a_ways 2048 g_ways] H := hP
        have hD : va_D A [ceX2 h0 a_depths a_ways s_defeaters, caI G a_depths 2048 g_depths, caI G a_ways 2048 g_ways] := hD
        refine lv_if_eq (tgt := 39) hx hb dX2_play_21 (by decide) (fun c => ?_) (fun c => ?_)
        · replace h := h.1 c
          refine lv_iinc (v := v5 + (-1 : Int32)) (lv' := [(5, .int (v5 + (-1 : Int32))), (0, .ref h0), (1, .int x1), (2, .int x2)]) hx hb dX2_play_39 hl (k := 3) rfl (congrArg (fun q => v5 + q) kc_m1) (by decide) rfl (fun ls hl => ?_)
          refine lv_goto (tgt := 10) hx hb dX2_play_42 (by decide) ?_
          exact ih (v5 + (-1 : Int32)) g_depths g_ways s_defeaters h _ _ _ hP hD hS (lv_sub hl [1, 2, 3, 0] rfl)
        · replace h := h.2 c
          refine lv_iload hx hb dX2_play_24 (lv_at hl 3 rfl) ?_
          refine lv_iload_n hx hb dX2_play_26 rfl (lv_at hl 2 rfl) ?_
          refine lv_iconst (v := (-1 : Int32)) hx hb dX2_play_27 kc_m1 ?_
          refine lv_ixor hx hb dX2_play_28 ?_
          refine lv_iand hx hb dX2_play_29 ?_
          refine lv_if_ne (tgt := 39) hx hb dX2_play_30 (by decide) (fun c => ?_) (fun c => ?_)
          · replace h := h.1 c
            refine lv_iinc (v := v5 + (-1 : Int32)) (lv' := [(5, .int (v5 + (-1 : Int32))), (0, .ref h0), (1, .int x1), (2, .int x2)]) hx hb dX2_play_39 hl (k := 3) rfl (congrArg (fun q => v5 + q) kc_m1) (by decide) rfl (fun ls hl => ?_)
            refine lv_goto (tgt := 10) hx hb dX2_play_42 (by decide) ?_
            exact ih (v5 + (-1 : Int32)) g_depths g_ways s_defeaters h _ _ _ hP hD hS (lv_sub hl [1, 2, 3, 0] rfl)
          · replace h := h.2 c
            refine lv_aload_n hx hb dX2_play_33 rfl (lv_at hl 0 rfl) ?_
            refine lv_iload hx hb dX2_play_34 (lv_at hl 3 rfl) ?_
            refine hc_kv (wr := []) (va_runV (As := [.int v5]) (rest := []) ⟨hx, hb, hml, hown, hts⟩ (c_X2_reckon l G h0 a_depths a_ways H.size s_defeaters g_depths g_ways v5 _ h) (cwV 1 hts gX2_play_X2_reckon rfl rfl rfl (by decide +kernel) ⟨Nat.le_of_ble_eq_true rfl, Nat.le_of_ble_eq_true rfl⟩) (hc_pV hK hP hD [0, 1, 2] rfl rfl (ci := 1) 0 rfl rfl) rfl rfl hl.1 rfl (lv_room (Nat.le_of_ble_eq_true rfl)) dX2_play_36 ⟨Nat.le_refl _, Nat.le_refl _⟩) hP hD hS hA [0, 1, 2] [] rfl rfl rfl (by decide) (fun u H locs h hP hD hS => ?_)
            obtain ⟨g_depths_36, g_ways_36⟩ := u
            try dsimp only at h
            have hP : va_P G.1 vwCl [ceX2 h0 a_depths a_ways s_defeaters, caI G a_depths 2048 g_depths_36, caI G a_ways 2048 g_ways_36] H := hP
            have hD : va_D A [ceX2 h0 a_depths a_ways s_defeaters, caI G a_depths 2048 g_depths_36, caI G a_ways 2048 g_ways_36] := hD
            refine lv_iinc (v := v5 + (-1 : Int32)) (lv' := [(5, .int (v5 + (-1 : Int32))), (0, .ref h0), (1, .int x1), (2, .int x2)]) hx hb dX2_play_39 hl (k := 3) rfl (congrArg (fun q => v5 + q) kc_m1) (by decide) rfl (fun ls hl => ?_)
            refine lv_goto (tgt := 10) hx hb dX2_play_42 (by decide) ?_
            exact ih (v5 + (-1 : Int32)) g_depths_36 g_ways_36 s_defeaters h _ _ _ hP hD hS (lv_sub hl [1, 2, 3, 0] rfl)
  unfold wp_X2_play at h
  refine lv_aload_n hx hb dX2_play_0 rfl (lv_at hl 0 rfl) ?_
  refine lv_lload_n hx hb dX2_play_1 rfl (lv_at hl 3 rfl) ?_
  refine va_put (D := G.1) (ci := 1) (v := .long x3) (ty := .long) (C := RX2) (T := TX2) (N := 3) hx hb hts ki_X2 tyX2 tyX2_ok nmX2 hown hK.1 hP hD hS 0 rfl rfl 2 (by decide) kf0 (fun _ h9 => h9) rfl (by decide +kernel) rfl rfl (Nat.le_of_ble_eq_true rfl) dX2_play_2 (fun H locs hP hD hS => ?_)
  have hP : va_P G.1 vwCl [ceX2 h0 a_depths a_ways x3, caI G a_depths 2048 g_depths, caI G a_ways 2048 g_ways] H := hP
  have hD : va_D A [ceX2 h0 a_depths a_ways x3, caI G a_depths 2048 g_depths, caI G a_ways 2048 g_ways] := hD
  refine lv_sipush (v := nI 255) hx hb dX2_play_5 ks_255 ?_
  refine lv_istore (lv' := [(5, .int (nI 255)), (0, .ref h0), (1, .int x1), (2, .int x2), (3, .long x3)]) hx hb dX2_play_8 hl (by decide) rfl (fun ls hl => ?_)
  obtain ⟨n10, h⟩ := h
  exact w10  n10 (nI 255) g_depths g_ways x3 h _ _ _ hP hD hS (lv_sub hl [1, 2, 3, 0] rfl)
set_option maxHeartbeats 4000000 in
set_option maxRecDepth 100000 in
theorem c_X2_depth (l : Launch) (G : hcG) (h0 : Nat) (a_depths : Nat) (a_ways : Nat) (sz : Nat) (s_defeaters : Int64) (g_depths : Nat → Int32) (x1 : Int32) (post : Int32 → Prop) (h : wp_X2_depth post g_depths x1) : Met l yX2_depth wsX2_depth ({ frames := 2, cells := 0, slots := 0, locals := 44 }) (hcPc G [.ref h0, .int x1] [ceX2 h0 a_depths a_ways s_defeaters, caI G a_depths 2048 g_depths] sz) (va_Qi (fun (r : Int32) (u : Unit) => post r) (hcB G (va_A [ceX2 h0 a_depths a_ways s_defeaters, caI G a_depths 2048 g_depths] sz) (fun u : Unit => [ceX2 h0 a_depths a_ways s_defeaters, caI G a_depths 2048 g_depths])) (va_A [ceX2 h0 a_depths a_ways s_defeaters, caI G a_depths 2048 g_depths] sz)) 0 0 (va_A [ceX2 h0 a_depths a_ways s_defeaters, caI G a_depths 2048 g_depths] sz) := by
  refine Met.ofW (cc := cX2_depth) (maxL := 2) (ret := (some .int)) (by decide) rfl ?_
  intro p e s m args below meth c s₁ B hml hv
  obtain ⟨rfl, hsz, hP, hK, hD0⟩ := hv
  have hx := B.exec
  have hb := B.bytes
  have hr := B.returns
  have hts := atoms_spec (ws := wsX2_depth) B.pre
  have hown : s.vm.findClass RX2 = some m.cls := findClass_of_methodNamed B.named
  have hlocks := B.notSynchronized
  subst hsz
  have hD := hD0.self (sz := s.heap.size)
  generalize hAe : va_A [ceX2 h0 a_depths a_ways s_defeaters, caI G a_depths 2048 g_depths] s.heap.size = A at hD ⊢
  have hA : ∀ q : Nat, s.heap.size ≤ q → A q := fun q h => by rw [← hAe]; exact Or.inr h
  have hS : va_S A s.heap s.heap [] := va_S.rf
  have hP : va_P G.1 vwCl [ceX2 h0 a_depths a_ways s_defeaters, caI G a_depths 2048 g_depths] s.heap := hP
  have hl := lv_entry ([.ref h0, .int x1]) (n := 2) (Nat.le_of_ble_eq_true rfl)
  rw [lg_entry_eq]
  generalize (lg_sl ([.ref h0, .int x1]) ++ List.replicate (2 - (lg_sl ([.ref h0, .int x1])).length) Slot.unset).toArray = ls at hl ⊢
  have hl : lv_has ls 2 [(0, .ref h0), (1, .int x1)] := hl
  unfold wp_X2_depth at h
  refine lv_aload_n hx hb dX2_depth_0 rfl (lv_at hl 0 rfl) ?_
  refine lv_iconst (v := nI 1) hx hb dX2_depth_1 kc_1 ?_
  refine lv_iload_n hx hb dX2_depth_2 rfl (lv_at hl 1 rfl) ?_
  refine lv_ishl hx hb dX2_depth_3 ?_
  refine lv_iload_n hx hb dX2_depth_4 rfl (lv_at hl 1 rfl) ?_
  refine hc_ki (wr := []) (va_runV (As := [.int ((nI 1) <<< (x1 &&& 31)), .int x1]) (rest := []) ⟨hx, hb, hml, hown, hts⟩ (c_X2_depthAt l G h0 a_depths a_ways s.heap.size s_defeaters g_depths ((nI 1) <<< (x1 &&& 31)) x1 _ h) (cwV 2 hts gX2_depth_X2_depthAt rfl rfl rfl (by decide +kernel) ⟨Nat.le_of_ble_eq_true rfl, Nat.le_of_ble_eq_true rfl⟩) (hc_pV hK hP hD [0, 1] rfl rfl (ci := 1) 0 rfl rfl) rfl rfl hl.1 rfl (lv_room (Nat.le_of_ble_eq_true rfl)) dX2_depth_5 ⟨Nat.le_refl _, Nat.le_refl _⟩) hP hD hS hA [0, 1] [] rfl rfl rfl (by decide) (fun r5 u H locs h hP hD hS => ?_)
  try dsimp only at h
  have hP : va_P G.1 vwCl [ceX2 h0 a_depths a_ways s_defeaters, caI G a_depths 2048 g_depths] H := hP
  have hD : va_D A [ceX2 h0 a_depths a_ways s_defeaters, caI G a_depths 2048 g_depths] := hD
  exact W.iret (v := r5) hx hb hr (fun t ht hW => ⟨⟨_, (), rfl, h, ⟨by rw [ht]; exact hP, hD⟩⟩, hS.F ht⟩) hS.2.2 dX2_depth_8
set_option maxHeartbeats 4000000 in
set_option maxRecDepth 100000 in
theorem c_X2_isWon (l : Launch) (G : hcG) (h0 : Nat) (a_depths : Nat) (a_ways : Nat) (sz : Nat) (s_defeaters : Int64) (g_depths : Nat → Int32) (x1 : Int32) (post : Int32 → Prop) (h : wp_X2_isWon post g_depths x1) : Met l yX2_isWon wsX2_isWon ({ frames := 3, cells := 0, slots := 0, locals := 65 }) (hcPc G [.ref h0, .int x1] [ceX2 h0 a_depths a_ways s_defeaters, caI G a_depths 2048 g_depths] sz) (va_Qi (fun (r : Int32) (u : Unit) => post r) (hcB G (va_A [ceX2 h0 a_depths a_ways s_defeaters, caI G a_depths 2048 g_depths] sz) (fun u : Unit => [ceX2 h0 a_depths a_ways s_defeaters, caI G a_depths 2048 g_depths])) (va_A [ceX2 h0 a_depths a_ways s_defeaters, caI G a_depths 2048 g_depths] sz)) 0 0 (va_A [ceX2 h0 a_depths a_ways s_defeaters, caI G a_depths 2048 g_depths] sz) := by
  refine Met.ofW (cc := cX2_isWon) (maxL := 2) (ret := (some .boolean)) (by decide) rfl ?_
  intro p e s m args below meth c s₁ B hml hv
  obtain ⟨rfl, hsz, hP, hK, hD0⟩ := hv
  have hx := B.exec
  have hb := B.bytes
  have hr := B.returns
  have hts := atoms_spec (ws := wsX2_isWon) B.pre
  have hown : s.vm.findClass RX2 = some m.cls := findClass_of_methodNamed B.named
  have hlocks := B.notSynchronized
  subst hsz
  have hD := hD0.self (sz := s.heap.size)
  generalize hAe : va_A [ceX2 h0 a_depths a_ways s_defeaters, caI G a_depths 2048 g_depths] s.heap.size = A at hD ⊢
  have hA : ∀ q : Nat, s.heap.size ≤ q → A q := fun q h => by rw [← hAe]; exact Or.inr h
  have hS : va_S A s.heap s.heap [] := va_S.rf
  have hP : va_P G.1 vwCl [ceX2 h0 a_depths a_ways s_defeaters, caI G a_depths 2048 g_depths] s.heap := hP
  have hl := lv_entry ([.ref h0, .int x1]) (n := 2) (Nat.le_of_ble_eq_true rfl)
  rw [lg_entry_eq]
  generalize (lg_sl ([.ref h0, .int x1]) ++ List.replicate (2 - (lg_sl ([.ref h0, .int x1])).length) Slot.unset).toArray = ls at hl ⊢
  have hl : lv_has ls 2 [(0, .ref h0), (1, .int x1)] := hl
  unfold wp_X2_isWon at h
  refine lv_aload_n hx hb dX2_isWon_0 rfl (lv_at hl 0 rfl) ?_
  refine lv_iload_n hx hb dX2_isWon_1 rfl (lv_at hl 1 rfl) ?_
  refine hc_ki (wr := []) (va_runV (As := [.int x1]) (rest := []) ⟨hx, hb, hml, hown, hts⟩ (c_X2_depth l G h0 a_depths a_ways s.heap.size s_defeaters g_depths x1 _ h) (cwV 1 hts gX2_isWon_X2_depth rfl rfl rfl (by decide +kernel) ⟨Nat.le_of_ble_eq_true rfl, Nat.le_of_ble_eq_true rfl⟩) (hc_pV hK hP hD [0, 1] rfl rfl (ci := 1) 0 rfl rfl) rfl rfl hl.1 rfl (lv_room (Nat.le_of_ble_eq_true rfl)) dX2_isWon_2 ⟨Nat.le_refl _, Nat.le_refl _⟩) hP hD hS hA [0, 1] [] rfl rfl rfl (by decide) (fun r2 u H locs h hP hD hS => ?_)
  try dsimp only at h
  have hP : va_P G.1 vwCl [ceX2 h0 a_depths a_ways s_defeaters, caI G a_depths 2048 g_depths] H := hP
  have hD : va_D A [ceX2 h0 a_depths a_ways s_defeaters, caI G a_depths 2048 g_depths] := hD
  refine lv_if_le (tgt := 12) hx hb dX2_isWon_5 (by decide) (fun c => ?_) (fun c => ?_)
  · replace h := h.1 c
    refine lv_iconst (v := nI 0) hx hb dX2_isWon_12 kc_0 ?_
    exact W.zret (v := nI 0) hx hb hr rfl (fun t ht hW => ⟨⟨_, (), rfl, h, ⟨by rw [ht]; exact hP, hD⟩⟩, hS.F ht⟩) hS.2.2 dX2_isWon_13
  · replace h := h.2 c
    refine lv_iconst (v := nI 1) hx hb dX2_isWon_8 kc_1 ?_
    refine lv_goto (tgt := 13) hx hb dX2_isWon_9 (by decide) ?_
    exact W.zret (v := nI 1) hx hb hr rfl (fun t ht hW => ⟨⟨_, (), rfl, h, ⟨by rw [ht]; exact hP, hD⟩⟩, hS.F ht⟩) hS.2.2 dX2_isWon_13
set_option maxHeartbeats 4000000 in
set_option maxRecDepth 100000 in
theorem c_X2_trees (l : Launch) (G : hcG) (h0 : Nat) (a_depths : Nat) (a_ways : Nat) (sz : Nat) (s_defeaters : Int64) (g_ways : Nat → Int32) (x1 : Int32) (post : Int32 → Prop) (h : wp_X2_trees post g_ways x1) : Met l yX2_trees wsX2_trees ({ frames := 2, cells := 0, slots := 0, locals := 44 }) (hcPc G [.ref h0, .int x1] [ceX2 h0 a_depths a_ways s_defeaters, caI G a_ways 2048 g_ways] sz) (va_Qi (fun (r : Int32) (u : Unit) => post r) (hcB G (va_A [ceX2 h0 a_depths a_ways s_defeaters, caI G a_ways 2048 g_ways] sz) (fun u : Unit => [ceX2 h0 a_depths a_ways s_defeaters, caI G a_ways 2048 g_ways])) (va_A [ceX2 h0 a_depths a_ways s_defeaters, caI G a_ways 2048 g_ways] sz)) 0 0 (va_A [ceX2 h0 a_depths a_ways s_defeaters, caI G a_ways 2048 g_ways] sz) := by
  refine Met.ofW (cc := cX2_trees) (maxL := 2) (ret := (some .int)) (by decide) rfl ?_
  intro p e s m args below meth c s₁ B hml hv
  obtain ⟨rfl, hsz, hP, hK, hD0⟩ := hv
  have hx := B.exec
  have hb := B.bytes
  have hr := B.returns
  have hts := atoms_spec (ws := wsX2_trees) B.pre
  have hown : s.vm.findClass RX2 = some m.cls := findClass_of_methodNamed B.named
  have hlocks := B.notSynchronized
  subst hsz
  have hD := hD0.self (sz := s.heap.size)
  generalize hAe : va_A [ceX2 h0 a_depths a_ways s_defeaters, caI G a_ways 2048 g_ways] s.heap.size = A at hD ⊢
  have hA : ∀ q : Nat, s.heap.size ≤ q → A q := fun q h => by rw [← hAe]; exact Or.inr h
  have hS : va_S A s.heap s.heap [] := va_S.rf
  have hP : va_P G.1 vwCl [ceX2 h0 a_depths a_ways s_defeaters, caI G a_ways 2048 g_ways] s.heap := hP
  have hl := lv_entry ([.ref h0, .int x1]) (n := 2) (Nat.le_of_ble_eq_true rfl)
  rw [lg_entry_eq]
  generalize (lg_sl ([.ref h0, .int x1]) ++ List.replicate (2 - (lg_sl ([.ref h0, .int x1])).length) Slot.unset).toArray = ls at hl ⊢
  have hl : lv_has ls 2 [(0, .ref h0), (1, .int x1)] := hl
  unfold wp_X2_trees at h
  refine lv_aload_n hx hb dX2_trees_0 rfl (lv_at hl 0 rfl) ?_
  refine lv_iconst (v := nI 1) hx hb dX2_trees_1 kc_1 ?_
  refine lv_iload_n hx hb dX2_trees_2 rfl (lv_at hl 1 rfl) ?_
  refine lv_ishl hx hb dX2_trees_3 ?_
  refine lv_iload_n hx hb dX2_trees_4 rfl (lv_at hl 1 rfl) ?_
  refine hc_ki (wr := []) (va_runV (As := [.int ((nI 1) <<< (x1 &&& 31)), .int x1]) (rest := []) ⟨hx, hb, hml, hown, hts⟩ (c_X2_waysAt l G h0 a_depths a_ways s.heap.size s_defeaters g_ways ((nI 1) <<< (x1 &&& 31)) x1 _ h) (cwV 2 hts gX2_trees_X2_waysAt rfl rfl rfl (by decide +kernel) ⟨Nat.le_of_ble_eq_true rfl, Nat.le_of_ble_eq_true rfl⟩) (hc_pV hK hP hD [0, 1] rfl rfl (ci := 1) 0 rfl rfl) rfl rfl hl.1 rfl (lv_room (Nat.le_of_ble_eq_true rfl)) dX2_trees_5 ⟨Nat.le_refl _, Nat.le_refl _⟩) hP hD hS hA [0, 1] [] rfl rfl rfl (by decide) (fun r5 u H locs h hP hD hS => ?_)
  try dsimp only at h
  have hP : va_P G.1 vwCl [ceX2 h0 a_depths a_ways s_defeaters, caI G a_ways 2048 g_ways] H := hP
  have hD : va_D A [ceX2 h0 a_depths a_ways s_defeaters, caI G a_ways 2048 g_ways] := hD
  exact W.iret (v := r5) hx hb hr (fun t ht hW => ⟨⟨_, (), rfl, h, ⟨by rw [ht]; exact hP, hD⟩⟩, hS.F ht⟩) hS.2.2 dX2_trees_8
set_option maxHeartbeats 4000000 in
set_option maxRecDepth 100000 in
theorem c_X2_answerTo (l : Launch) (G : hcG) (h0 : Nat) (a_depths : Nat) (a_ways : Nat) (sz : Nat) (s_defeaters : Int64) (g_depths : Nat → Int32) (x1 : Int32) (x2 : Int32) (post : Int32 → Prop) (h : wp_X2_answerTo post g_depths s_defeaters x1 x2) : Met l yX2_answerTo wsX2_answerTo ({ frames := 3, cells := 0, slots := 0, locals := 71 }) (hcPc G [.ref h0, .int x1, .int x2] [ceX2 h0 a_depths a_ways s_defeaters, caI G a_depths 2048 g_depths] sz) (va_Qi (fun (r : Int32) (u : Unit) => post r) (hcB G (va_A [ceX2 h0 a_depths a_ways s_defeaters, caI G a_depths 2048 g_depths] sz) (fun u : Unit => [ceX2 h0 a_depths a_ways s_defeaters, caI G a_depths 2048 g_depths])) (va_A [ceX2 h0 a_depths a_ways s_defeaters, caI G a_depths 2048 g_depths] sz)) 0 0 (va_A [ceX2 h0 a_depths a_ways s_defeaters, caI G a_depths 2048 g_depths] sz) := by
  refine Met.ofW (cc := cX2_answerTo) (maxL := 4) (ret := (some .int)) (by decide) rfl ?_
  intro p e s m args below meth c s₁ B hml hv
  obtain ⟨rfl, hsz, hP, hK, hD0⟩ := hv
  have hx := B.exec
  have hb := B.bytes
  have hr := B.returns
  have hts := atoms_spec (ws := wsX2_answerTo) B.pre
  have hown : s.vm.findClass RX2 = some m.cls := findClass_of_methodNamed B.named
  have hlocks := B.notSynchronized
  subst hsz
  have hD := hD0.self (sz := s.heap.size)
  generalize hAe : va_A [ceX2 h0 a_depths a_ways s_defeaters, caI G a_depths 2048 g_depths] s.heap.size = A at hD ⊢
  have hA : ∀ q : Nat, s.heap.size ≤ q → A q := fun q h => by rw [← hAe]; exact Or.inr h
  have hS : va_S A s.heap s.heap [] := va_S.rf
  have hP : va_P G.1 vwCl [ceX2 h0 a_depths a_ways s_defeaters, caI G a_depths 2048 g_depths] s.heap := hP
  have hl := lv_entry ([.ref h0, .int x1, .int x2]) (n := 4) (Nat.le_of_ble_eq_true rfl)
  rw [lg_entry_eq]
  generalize (lg_sl ([.ref h0, .int x1, .int x2]) ++ List.replicate (4 - (lg_sl ([.ref h0, .int x1, .int x2])).length) Slot.unset).toArray = ls at hl ⊢
  have hl : lv_has ls 4 [(0, .ref h0), (1, .int x1), (2, .int x2)] := hl
  unfold wp_X2_answerTo at h
  refine lv_aload_n hx hb dX2_answerTo_0 rfl (lv_at hl 0 rfl) ?_
  refine lv_iconst (v := nI 1) hx hb dX2_answerTo_1 kc_1 ?_
  refine lv_iload_n hx hb dX2_answerTo_2 rfl (lv_at hl 1 rfl) ?_
  refine lv_ishl hx hb dX2_answerTo_3 ?_
  refine lv_iload_n hx hb dX2_answerTo_4 rfl (lv_at hl 2 rfl) ?_
  refine hc_ki (wr := []) (va_runV (As := [.int ((nI 1) <<< (x1 &&& 31)), .int x2]) (rest := []) ⟨hx, hb, hml, hown, hts⟩ (c_X2_bestAnswer l G h0 a_depths a_ways s.heap.size s_defeaters g_depths ((nI 1) <<< (x1 &&& 31)) x2 _ h) (cwV 2 hts gX2_answerTo_X2_bestAnswer rfl rfl rfl (by decide +kernel) ⟨Nat.le_of_ble_eq_true rfl, Nat.le_of_ble_eq_true rfl⟩) (hc_pV hK hP hD [0, 1] rfl rfl (ci := 1) 0 rfl rfl) rfl rfl hl.1 rfl (lv_room (Nat.le_of_ble_eq_true rfl)) dX2_answerTo_5 ⟨Nat.le_refl _, Nat.le_refl _⟩) hP hD hS hA [0, 1] [] rfl rfl rfl (by decide) (fun r5 u H locs h hP hD hS => ?_)
  try dsimp only at h
  have hP : va_P G.1 vwCl [ceX2 h0 a_depths a_ways s_defeaters, caI G a_depths 2048 g_depths] H := hP
  have hD : va_D A [ceX2 h0 a_depths a_ways s_defeaters, caI G a_depths 2048 g_depths] := hD
  refine lv_istore_n (lv' := [(3, .int r5), (0, .ref h0), (1, .int x1), (2, .int x2)]) hx hb dX2_answerTo_8 rfl hl (by decide) rfl (fun ls hl => ?_)
  refine lv_iload_n hx hb dX2_answerTo_9 rfl (lv_at hl 0 rfl) ?_
  refine lv_if_ge (tgt := 18) hx hb dX2_answerTo_10 (by decide) (fun c => ?_) (fun c => ?_)
  · replace h := h.1 c
    refine lv_iload_n hx hb dX2_answerTo_18 rfl (lv_at hl 0 rfl) ?_
    exact W.iret (v := r5) hx hb hr (fun t ht hW => ⟨⟨_, (), rfl, h, ⟨by rw [ht]; exact hP, hD⟩⟩, hS.F ht⟩) hS.2.2 dX2_answerTo_19
  · replace h := h.2 c
    refine lv_bipush (v := (-9 : Int32)) hx hb dX2_answerTo_13 kb_m9 ?_
    refine lv_goto (tgt := 19) hx hb dX2_answerTo_15 (by decide) ?_
    exact W.iret (v := (-9 : Int32)) hx hb hr (fun t ht hW => ⟨⟨_, (), rfl, h, ⟨by rw [ht]; exact hP, hD⟩⟩, hS.F ht⟩) hS.2.2 dX2_answerTo_19
set_option maxHeartbeats 4000000 in
set_option maxRecDepth 100000 in
theorem c_X3_take (l : Launch) (G : hcG) (h0 : Nat) (hp1 : Nat) (sz : Nat) (s_size : Int32) (s_heard : Int32) (s_mode : Int32) (s_cast : Int64) (s_figures : Int64) (s_voices : Int64) (s_attacks : Int64) (s_supports : Int64) (s_p1_size : Int32) (s_p1_heard : Int32) (s_p1_mode : Int32) (s_p1_cast : Int64) (s_p1_figures : Int64) (s_p1_voices : Int64) (s_p1_attacks : Int64) (s_p1_supports : Int64) (post : Int32 → Int32 → Int32 → Int64 → Int64 → Int64 → Int64 → Int64 → Prop) (h : wp_X3_take post s_size s_heard s_mode s_cast s_figures s_voices s_attacks s_supports s_p1_size s_p1_heard s_p1_mode s_p1_cast s_p1_figures s_p1_voices s_p1_attacks s_p1_supports) : Met l yX3_take wsX3_take ({ frames := 0, cells := 0, slots := 0, locals := 0 }) (hcPc G [.ref h0, .ref hp1] [ceX3 h0 s_size s_heard s_mode s_cast s_figures s_voices s_attacks s_supports, ceX3 hp1 s_p1_size s_p1_heard s_p1_mode s_p1_cast s_p1_figures s_p1_voices s_p1_attacks s_p1_supports] sz) (va_Qv (fun u : Int32 × Int32 × Int32 × Int64 × Int64 × Int64 × Int64 × Int64 => post u.1 u.2.1 u.2.2.1 u.2.2.2.1 u.2.2.2.2.1 u.2.2.2.2.2.1 u.2.2.2.2.2.2.1 u.2.2.2.2.2.2.2) (hcB G (va_A [ceX3 h0 s_size s_heard s_mode s_cast s_figures s_voices s_attacks s_supports, ceX3 hp1 s_p1_size s_p1_heard s_p1_mode s_p1_cast s_p1_figures s_p1_voices s_p1_attacks s_p1_supports] sz) (fun u : Int32 × Int32 × Int32 × Int64 × Int64 × Int64 × Int64 × Int64 => [ceX3 h0 u.1 u.2.1 u.2.2.1 u.2.2.2.1 u.2.2.2.2.1 u.2.2.2.2.2.1 u.2.2.2.2.2.2.1 u.2.2.2.2.2.2.2, ceX3 hp1 s_p1_size s_p1_heard s_p1_mode s_p1_cast s_p1_figures s_p1_voices s_p1_attacks s_p1_supports])) (va_A [ceX3 h0 s_size s_heard s_mode s_cast s_figures s_voices s_attacks s_supports, ceX3 hp1 s_p1_size s_p1_heard s_p1_mode s_p1_cast s_p1_figures s_p1_voices s_p1_attacks s_p1_supports] sz)) 0 0 (va_A [ceX3 h0 s_size s_heard s_mode s_cast s_figures s_voices s_attacks s_supports, ceX3 hp1 s_p1_size s_p1_heard s_p1_mode s_p1_cast s_p1_figures s_p1_voices s_p1_attacks s_p1_supports] sz) := by
  refine Met.ofW (cc := cX3_take) (maxL := 2) (ret := none) (by decide) rfl ?_
  intro p e s m args below meth c s₁ B hml hv
  obtain ⟨rfl, hsz, hP, hK, hD0⟩ := hv
  have hx := B.exec
  have hb := B.bytes
  have hr := B.returns
  have hts := atoms_spec (ws := wsX3_take) B.pre
  have hown : s.vm.findClass RX3 = some m.cls := findClass_of_methodNamed B.named
  have hlocks := B.notSynchronized
  subst hsz
  have hD := hD0.self (sz := s.heap.size)
  generalize hAe : va_A [ceX3 h0 s_size s_heard s_mode s_cast s_figures s_voices s_attacks s_supports, ceX3 hp1 s_p1_size s_p1_heard s_p1_mode s_p1_cast s_p1_figures s_p1_voices s_p1_attacks s_p1_supports] s.heap.size = A at hD ⊢
  have hA : ∀ q : Nat, s.heap.size ≤ q → A q := fun q h => by rw [← hAe]; exact Or.inr h
  have hS : va_S A s.heap s.heap [] := va_S.rf
  have hP : va_P G.1 vwCl [ceX3 h0 s_size s_heard s_mode s_cast s_figures s_voices s_attacks s_supports, ceX3 hp1 s_p1_size s_p1_heard s_p1_mode s_p1_cast s_p1_figures s_p1_voices s_p1_attacks s_p1_supports] s.heap := hP
  have hl := lv_entry ([.ref h0, .ref hp1]) (n := 2) (Nat.le_of_ble_eq_true rfl)
  rw [lg_entry_eq]
  generalize (lg_sl ([.ref h0, .ref hp1]) ++ List.replicate (2 - (lg_sl ([.ref h0, .ref hp1])).length) Slot.unset).toArray = ls at hl ⊢
  have hl : lv_has ls 2 [(0, .ref h0), (1, .ref hp1)] := hl
  have kf0 := hts (.fieldLink RX3 9 "HallOfClaims$Hall" "size" "I") (List.mem_of_getElem? (i := 1) (by decide +kernel))
  have kf1 := hts (.fieldLink RX3 15 "HallOfClaims$Hall" "heard" "I") (List.mem_of_getElem? (i := 2) (by decide +kernel))
  have kf2 := hts (.fieldLink RX3 18 "HallOfClaims$Hall" "mode" "I") (List.mem_of_getElem? (i := 3) (by decide +kernel))
  have kf3 := hts (.fieldLink RX3 21 "HallOfClaims$Hall" "cast" "J") (List.mem_of_getElem? (i := 4) (by decide +kernel))
  have kf4 := hts (.fieldLink RX3 25 "HallOfClaims$Hall" "figures" "J") (List.mem_of_getElem? (i := 5) (by decide +kernel))
  have kf5 := hts (.fieldLink RX3 28 "HallOfClaims$Hall" "voices" "J") (List.mem_of_getElem? (i := 6) (by decide +kernel))
  have kf6 := hts (.fieldLink RX3 31 "HallOfClaims$Hall" "attacks" "J") (List.mem_of_getElem? (i := 7) (by decide +kernel))
  have kf7 := hts (.fieldLink RX3 34 "HallOfClaims$Hall" "supports" "J") (List.mem_of_getElem? (i := 8) (by decide +kernel))
  have ki_X3 : ∀ w ∈ u_ws RX3 TX3 8, w ∈ wsX3_take := by decide +kernel
  unfold wp_X3_take at h
  refine lv_aload_n hx hb dX3_take_0 rfl (lv_at hl 0 rfl) ?_
  refine lv_aload_n hx hb dX3_take_1 rfl (lv_at hl 1 rfl) ?_
  refine va_get (D := G.1) (ci := 2) (v := .int s_p1_size) (C := RX3) (T := TX3) (N := 8) hx hb hts ki_X3 hown hK.1 hP 1 rfl rfl 0 (by decide) kf0 (fun _ h9 => h9) rfl dX3_take_2 ?_
  refine va_put (D := G.1) (ci := 2) (v := .int s_p1_size) (ty := .int) (C := RX3) (T := TX3) (N := 8) hx hb hts ki_X3 tyX3 tyX3_ok nmX3 hown hK.1 hP hD hS 0 rfl rfl 0 (by decide) kf0 (fun _ h9 => h9) rfl (by decide +kernel) rfl rfl (Nat.le_of_ble_eq_true rfl) dX3_take_5 (fun H locs hP hD hS => ?_)
  have hP : va_P G.1 vwCl [ceX3 h0 s_p1_size s_heard s_mode s_cast s_figures s_voices s_attacks s_supports, ceX3 hp1 s_p1_size s_p1_heard s_p1_mode s_p1_cast s_p1_figures s_p1_voices s_p1_attacks s_p1_supports] H := hP
  have hD : va_D A [ceX3 h0 s_p1_size s_heard s_mode s_cast s_figures s_voices s_attacks s_supports, ceX3 hp1 s_p1_size s_p1_heard s_p1_mode s_p1_cast s_p1_figures s_p1_voices s_p1_attacks s_p1_supports] := hD
  refine lv_aload_n hx hb dX3_take_8 rfl (lv_at hl 0 rfl) ?_
  refine lv_aload_n hx hb dX3_take_9 rfl (lv_at hl 1 rfl) ?_
  refine va_get (D := G.1) (ci := 2) (v := .int s_p1_heard) (C := RX3) (T := TX3) (N := 8) hx hb hts ki_X3 hown hK.1 hP 1 rfl rfl 1 (by decide) kf1 (fun _ h9 => h9) rfl dX3_take_10 ?_
  refine va_put (D := G.1) (ci := 2) (v := .int s_p1_heard) (ty := .int) (C := RX3) (T := TX3) (N := 8) hx hb hts ki_X3 tyX3 tyX3_ok nmX3 hown hK.1 hP hD hS 0 rfl rfl 1 (by decide) kf1 (fun _ h9 => h9) rfl (by decide +kernel) rfl rfl (Nat.le_of_ble_eq_true rfl) dX3_take_13 (fun H locs hP hD hS => ?_)
  have hP : va_P G.1 vwCl [ceX3 h0 s_p1_size s_p1_heard s_mode s_cast s_figures s_voices s_attacks s_supports, ceX3 hp1 s_p1_size s_p1_heard s_p1_mode s_p1_cast s_p1_figures s_p1_voices s_p1_attacks s_p1_supports] H := hP
  have hD : va_D A [ceX3 h0 s_p1_size s_p1_heard s_mode s_cast s_figures s_voices s_attacks s_supports, ceX3 hp1 s_p1_size s_p1_heard s_p1_mode s_p1_cast s_p1_figures s_p1_voices s_p1_attacks s_p1_supports] := hD
  refine lv_aload_n hx hb dX3_take_16 rfl (lv_at hl 0 rfl) ?_
  refine lv_aload_n hx hb dX3_take_17 rfl (lv_at hl 1 rfl) ?_
  refine va_get (D := G.1) (ci := 2) (v := .int s_p1_mode) (C := RX3) (T := TX3) (N := 8) hx hb hts ki_X3 hown hK.1 hP 1 rfl rfl 2 (by decide) kf2 (fun _ h9 => h9) rfl dX3_take_18 ?_
  refine va_put (D := G.1) (ci := 2) (v := .int s_p1_mode) (ty := .int) (C := RX3) (T := TX3) (N := 8) hx hb hts ki_X3 tyX3 tyX3_ok nmX3 hown hK.1 hP hD hS 0 rfl rfl 2 (by decide) kf2 (fun _ h9 => h9) rfl (by decide +kernel) rfl rfl (Nat.le_of_ble_eq_true rfl) dX3_take_21 (fun H locs hP hD hS => ?_)
  have hP : va_P G.1 vwCl [ceX3 h0 s_p1_size s_p1_heard s_p1_mode s_cast s_figures s_voices s_attacks s_supports, ceX3 hp1 s_p1_size s_p1_heard s_p1_mode s_p1_cast s_p1_figures s_p1_voices s_p1_attacks s_p1_supports] H := hP
  have hD : va_D A [ceX3 h0 s_p1_size s_p1_heard s_p1_mode s_cast s_figures s_voices s_attacks s_supports, ceX3 hp1 s_p1_size s_p1_heard s_p1_mode s_p1_cast s_p1_figures s_p1_voices s_p1_attacks s_p1_supports] := hD
  refine lv_aload_n hx hb dX3_take_24 rfl (lv_at hl 0 rfl) ?_
  refine lv_aload_n hx hb dX3_take_25 rfl (lv_at hl 1 rfl) ?_
  refine va_get (D := G.1) (ci := 2) (v := .long s_p1_cast) (C := RX3) (T := TX3) (N := 8) hx hb hts ki_X3 hown hK.1 hP 1 rfl rfl 3 (by decide) kf3 (fun _ h9 => h9) rfl dX3_take_26 ?_
  refine va_put (D := G.1) (ci := 2) (v := .long s_p1_cast) (ty := .long) (C := RX3) (T := TX3) (N := 8) hx hb hts ki_X3 tyX3 tyX3_ok nmX3 hown hK.1 hP hD hS 0 rfl rfl 3 (by decide) kf3 (fun _ h9 => h9) rfl (by decide +kernel) rfl rfl (Nat.le_of_ble_eq_true rfl) dX3_take_29 (fun H locs hP hD hS => ?_)
  have hP : va_P G.1 vwCl [ceX3 h0 s_p1_size s_p1_heard s_p1_mode s_p1_cast s_figures s_voices s_attacks s_supports, ceX3 hp1 s_p1_size s_p1_heard s_p1_mode s_p1_cast s_p1_figures s_p1_voices s_p1_attacks s_p1_supports] H := hP
  have hD : va_D A [ceX3 h0 s_p1_size s_p1_heard s_p1_mode s_p1_cast s_figures s_voices s_attacks s_supports, ceX3 hp1 s_p1_size s_p1_heard s_p1_mode s_p1_cast s_p1_figures s_p1_voices s_p1_attacks s_p1_supports] := hD
  refine lv_aload_n hx hb dX3_take_32 rfl (lv_at hl 0 rfl) ?_
  refine lv_aload_n hx hb dX3_take_33 rfl (lv_at hl 1 rfl) ?_
  refine va_get (D := G.1) (ci := 2) (v := .long s_p1_figures) (C := RX3) (T := TX3) (N := 8) hx hb hts ki_X3 hown hK.1 hP 1 rfl rfl 4 (by decide) kf4 (fun _ h9 => h9) rfl dX3_take_34 ?_
  refine va_put (D := G.1) (ci := 2) (v := .long s_p1_figures) (ty := .long) (C := RX3) (T := TX3) (N := 8) hx hb hts ki_X3 tyX3 tyX3_ok nmX3 hown hK.1 hP hD hS 0 rfl rfl 4 (by decide) kf4 (fun _ h9 => h9) rfl (by decide +kernel) rfl rfl (Nat.le_of_ble_eq_true rfl) dX3_take_37 (fun H locs hP hD hS => ?_)
  have hP : va_P G.1 vwCl [ceX3 h0 s_p1_size s_p1_heard s_p1_mode s_p1_cast s_p1_figures s_voices s_attacks s_supports, ceX3 hp1 s_p1_size s_p1_heard s_p1_mode s_p1_cast s_p1_figures s_p1_voices s_p1_attacks s_p1_supports] H := hP
  have hD : va_D A [ceX3 h0 s_p1_size s_p1_heard s_p1_mode s_p1_cast s_p1_figures s_voices s_attacks s_supports, ceX3 hp1 s_p1_size s_p1_heard s_p1_mode s_p1_cast s_p1_figures s_p1_voices s_p1_attacks s_p1_supports] := hD
  refine lv_aload_n hx hb dX3_take_40 rfl (lv_at hl 0 rfl) ?_
  refine lv_aload_n hx hb dX3_take_41 rfl (lv_at hl 1 rfl) ?_
  refine va_get (D := G.1) (ci := 2) (v := .long s_p1_voices) (C := RX3) (T := TX3) (N := 8) hx hb hts ki_X3 hown hK.1 hP 1 rfl rfl 5 (by decide) kf5 (fun _ h9 => h9) rfl dX3_take_42 ?_
  refine va_put (D := G.1) (ci := 2) (v := .long s_p1_voices) (ty := .long) (C := RX3) (T := TX3) (N := 8) hx hb hts ki_X3 tyX3 tyX3_ok nmX3 hown hK.1 hP hD hS 0 rfl rfl 5 (by decide) kf5 (fun _ h9 => h9) rfl (by decide +kernel) rfl rfl (Nat.le_of_ble_eq_true rfl) dX3_take_45 (fun H locs hP hD hS => ?_)
  have hP : va_P G.1 vwCl [ceX3 h0 s_p1_size s_p1_heard s_p1_mode s_p1_cast s_p1_figures s_p1_voices s_attacks s_supports, ceX3 hp1 s_p1_size s_p1_heard s_p1_mode s_p1_cast s_p1_figures s_p1_voices s_p1_attacks s_p1_supports] H := hP
  have hD : va_D A [ceX3 h0 s_p1_size s_p1_heard s_p1_mode s_p1_cast s_p1_figures s_p1_voices s_attacks s_supports, ceX3 hp1 s_p1_size s_p1_heard s_p1_mode s_p1_cast s_p1_figures s_p1_voices s_p1_attacks s_p1_supports] := hD
  refine lv_aload_n hx hb dX3_take_48 rfl (lv_at hl 0 rfl) ?_
  refine lv_aload_n hx hb dX3_take_49 rfl (lv_at hl 1 rfl) ?_
  refine va_get (D := G.1) (ci := 2) (v := .long s_p1_attacks) (C := RX3) (T := TX3) (N := 8) hx hb hts ki_X3 hown hK.1 hP 1 rfl rfl 6 (by decide) kf6 (fun _ h9 => h9) rfl dX3_take_50 ?_
  refine va_put (D := G.1) (ci := 2) (v := .long s_p1_attacks) (ty := .long) (C := RX3) (T := TX3) (N := 8) hx hb hts ki_X3 tyX3 tyX3_ok nmX3 hown hK.1 hP hD hS 0 rfl rfl 6 (by decide) kf6 (fun _ h9 => h9) rfl (by decide +kernel) rfl rfl (Nat.le_of_ble_eq_true rfl) dX3_take_53 (fun H locs hP hD hS => ?_)
  have hP : va_P G.1 vwCl [ceX3 h0 s_p1_size s_p1_heard s_p1_mode s_p1_cast s_p1_figures s_p1_voices s_p1_attacks s_supports, ceX3 hp1 s_p1_size s_p1_heard s_p1_mode s_p1_cast s_p1_figures s_p1_voices s_p1_attacks s_p1_supports] H := hP
  have hD : va_D A [ceX3 h0 s_p1_size s_p1_heard s_p1_mode s_p1_cast s_p1_figures s_p1_voices s_p1_attacks s_supports, ceX3 hp1 s_p1_size s_p1_heard s_p1_mode s_p1_cast s_p1_figures s_p1_voices s_p1_attacks s_p1_supports] := hD
  refine lv_aload_n hx hb dX3_take_56 rfl (lv_at hl 0 rfl) ?_
  refine lv_aload_n hx hb dX3_take_57 rfl (lv_at hl 1 rfl) ?_
  refine va_get (D := G.1) (ci := 2) (v := .long s_p1_supports) (C := RX3) (T := TX3) (N := 8) hx hb hts ki_X3 hown hK.1 hP 1 rfl rfl 7 (by decide) kf7 (fun _ h9 => h9) rfl dX3_take_58 ?_
  refine va_put (D := G.1) (ci := 2) (v := .long s_p1_supports) (ty := .long) (C := RX3) (T := TX3) (N := 8) hx hb hts ki_X3 tyX3 tyX3_ok nmX3 hown hK.1 hP hD hS 0 rfl rfl 7 (by decide) kf7 (fun _ h9 => h9) rfl (by decide +kernel) rfl rfl (Nat.le_of_ble_eq_true rfl) dX3_take_61 (fun H locs hP hD hS => ?_)
  have hP : va_P G.1 vwCl [ceX3 h0 s_p1_size s_p1_heard s_p1_mode s_p1_cast s_p1_figures s_p1_voices s_p1_attacks s_p1_supports, ceX3 hp1 s_p1_size s_p1_heard s_p1_mode s_p1_cast s_p1_figures s_p1_voices s_p1_attacks s_p1_supports] H := hP
  have hD : va_D A [ceX3 h0 s_p1_size s_p1_heard s_p1_mode s_p1_cast s_p1_figures s_p1_voices s_p1_attacks s_p1_supports, ceX3 hp1 s_p1_size s_p1_heard s_p1_mode s_p1_cast s_p1_figures s_p1_voices s_p1_attacks s_p1_supports] := hD
  exact W.vret hx hb hr (fun t ht hW => ⟨⟨⟨s_p1_size, s_p1_heard, s_p1_mode, s_p1_cast, s_p1_figures, s_p1_voices, s_p1_attacks, s_p1_supports⟩, rfl, h, ⟨by rw [ht]; exact hP, hD⟩⟩, hS.F ht⟩) hS.2.2 dX3_take_64
set_option maxHeartbeats 4000000 in
set_option maxRecDepth 100000 in
theorem c_X3_isFull (l : Launch) (G : hcG) (h0 : Nat) (sz : Nat) (s_size : Int32) (s_heard : Int32) (s_mode : Int32) (s_cast : Int64) (s_figures : Int64) (s_voices : Int64) (s_attacks : Int64) (s_supports : Int64) (post : Int32 → Prop) (h : wp_X3_isFull post s_size) : Met l yX3_isFull wsX3_isFull ({ frames := 0, cells := 0, slots := 0, locals := 0 }) (hcPc G [.ref h0] [ceX3 h0 s_size s_heard s_mode s_cast s_figures s_voices s_attacks s_supports] sz) (va_Qi (fun (r : Int32) (u : Unit) => post r) (hcB G (va_A [ceX3 h0 s_size s_heard s_mode s_cast s_figures s_voices s_attacks s_supports] sz) (fun u : Unit => [ceX3 h0 s_size s_heard s_mode s_cast s_figures s_voices s_attacks s_supports])) (va_A [ceX3 h0 s_size s_heard s_mode s_cast s_figures s_voices s_attacks s_supports] sz)) 0 0 (va_A [ceX3 h0 s_size s_heard s_mode s_cast s_figures s_voices s_attacks s_supports] sz) := by
  refine Met.ofW (cc := cX3_isFull) (maxL := 1) (ret := (some .boolean)) (by decide) rfl ?_
  intro p e s m args below meth c s₁ B hml hv
  obtain ⟨rfl, hsz, hP, hK, hD0⟩ := hv
  have hx := B.exec
  have hb := B.bytes
  have hr := B.returns
  have hts := atoms_spec (ws := wsX3_isFull) B.pre
  have hown : s.vm.findClass RX3 = some m.cls := findClass_of_methodNamed B.named
  have hlocks := B.notSynchronized
  subst hsz
  have hD := hD0.self (sz := s.heap.size)
  generalize hAe : va_A [ceX3 h0 s_size s_heard s_mode s_cast s_figures s_voices s_attacks s_supports] s.heap.size = A at hD ⊢
  have hA : ∀ q : Nat, s.heap.size ≤ q → A q := fun q h => by rw [← hAe]; exact Or.inr h
  have hS : va_S A s.heap s.heap [] := va_S.rf
  have hP : va_P G.1 vwCl [ceX3 h0 s_size s_heard s_mode s_cast s_figures s_voices s_attacks s_supports] s.heap := hP
  have hl := lv_entry ([.ref h0]) (n := 1) (Nat.le_of_ble_eq_true rfl)
  rw [lg_entry_eq]
  generalize (lg_sl ([.ref h0]) ++ List.replicate (1 - (lg_sl ([.ref h0])).length) Slot.unset).toArray = ls at hl ⊢
  have hl : lv_has ls 1 [(0, .ref h0)] := hl
  have kf0 := hts (.fieldLink RX3 9 "HallOfClaims$Hall" "size" "I") (List.mem_of_getElem? (i := 1) (by decide +kernel))
  have ki_X3 : ∀ w ∈ u_ws RX3 TX3 8, w ∈ wsX3_isFull := by decide +kernel
  unfold wp_X3_isFull at h
  refine lv_aload_n hx hb dX3_isFull_0 rfl (lv_at hl 0 rfl) ?_
  refine va_get (D := G.1) (ci := 2) (v := .int s_size) (C := RX3) (T := TX3) (N := 8) hx hb hts ki_X3 hown hK.1 hP 0 rfl rfl 0 (by decide) kf0 (fun _ h9 => h9) rfl dX3_isFull_1 ?_
  refine lv_bipush (v := nI 8) hx hb dX3_isFull_4 kb_8 ?_
  refine lv_icmp_lt (tgt := 13) hx hb dX3_isFull_6 (by decide) (fun c => ?_) (fun c => ?_)
  · replace h := h.1 c
    refine lv_iconst (v := nI 0) hx hb dX3_isFull_13 kc_0 ?_
    exact W.zret (v := nI 0) hx hb hr rfl (fun t ht hW => ⟨⟨_, (), rfl, h, ⟨by rw [ht]; exact hP, hD⟩⟩, hS.F ht⟩) hS.2.2 dX3_isFull_14
  · replace h := h.2 c
    refine lv_iconst (v := nI 1) hx hb dX3_isFull_9 kc_1 ?_
    refine lv_goto (tgt := 14) hx hb dX3_isFull_10 (by decide) ?_
    exact W.zret (v := nI 1) hx hb hr rfl (fun t ht hW => ⟨⟨_, (), rfl, h, ⟨by rw [ht]; exact hP, hD⟩⟩, hS.F ht⟩) hS.2.2 dX3_isFull_14
set_option maxHeartbeats 4000000 in
set_option maxRecDepth 100000 in
theorem c_X3_knows (l : Launch) (G : hcG) (h0 : Nat) (sz : Nat) (s_size : Int32) (s_heard : Int32) (s_mode : Int32) (s_cast : Int64) (s_figures : Int64) (s_voices : Int64) (s_attacks : Int64) (s_supports : Int64) (x1 : Int32) (post : Int32 → Prop) (h : wp_X3_knows post s_size x1) : Met l yX3_knows wsX3_knows ({ frames := 0, cells := 0, slots := 0, locals := 0 }) (hcPc G [.ref h0, .int x1] [ceX3 h0 s_size s_heard s_mode s_cast s_figures s_voices s_attacks s_supports] sz) (va_Qi (fun (r : Int32) (u : Unit) => post r) (hcB G (va_A [ceX3 h0 s_size s_heard s_mode s_cast s_figures s_voices s_attacks s_supports] sz) (fun u : Unit => [ceX3 h0 s_size s_heard s_mode s_cast s_figures s_voices s_attacks s_supports])) (va_A [ceX3 h0 s_size s_heard s_mode s_cast s_figures s_voices s_attacks s_supports] sz)) 0 0 (va_A [ceX3 h0 s_size s_heard s_mode s_cast s_figures s_voices s_attacks s_supports] sz) := by
  refine Met.ofW (cc := cX3_knows) (maxL := 2) (ret := (some .boolean)) (by decide) rfl ?_
  intro p e s m args below meth c s₁ B hml hv
  obtain ⟨rfl, hsz, hP, hK, hD0⟩ := hv
  have hx := B.exec
  have hb := B.bytes
  have hr := B.returns
  have hts := atoms_spec (ws := wsX3_knows) B.pre
  have hown : s.vm.findClass RX3 = some m.cls := findClass_of_methodNamed B.named
  have hlocks := B.notSynchronized
  subst hsz
  have hD := hD0.self (sz := s.heap.size)
  generalize hAe : va_A [ceX3 h0 s_size s_heard s_mode s_cast s_figures s_voices s_attacks s_supports] s.heap.size = A at hD ⊢
  have hA : ∀ q : Nat, s.heap.size ≤ q → A q := fun q h => by rw [← hAe]; exact Or.inr h
  have hS : va_S A s.heap s.heap [] := va_S.rf
  have hP : va_P G.1 vwCl [ceX3 h0 s_size s_heard s_mode s_cast s_figures s_voices s_attacks s_supports] s.heap := hP
  have hl := lv_entry ([.ref h0, .int x1]) (n := 2) (Nat.le_of_ble_eq_true rfl)
  rw [lg_entry_eq]
  generalize (lg_sl ([.ref h0, .int x1]) ++ List.replicate (2 - (lg_sl ([.ref h0, .int x1])).length) Slot.unset).toArray = ls at hl ⊢
  have hl : lv_has ls 2 [(0, .ref h0), (1, .int x1)] := hl
  have kf0 := hts (.fieldLink RX3 9 "HallOfClaims$Hall" "size" "I") (List.mem_of_getElem? (i := 1) (by decide +kernel))
  have ki_X3 : ∀ w ∈ u_ws RX3 TX3 8, w ∈ wsX3_knows := by decide +kernel
  unfold wp_X3_knows at h
  refine lv_iload_n hx hb dX3_knows_0 rfl (lv_at hl 1 rfl) ?_
  refine lv_if_lt (tgt := 16) hx hb dX3_knows_1 (by decide) (fun c => ?_) (fun c => ?_)
  · replace h := h.1 c
    refine lv_iconst (v := nI 0) hx hb dX3_knows_16 kc_0 ?_
    exact W.zret (v := nI 0) hx hb hr rfl (fun t ht hW => ⟨⟨_, (), rfl, h, ⟨by rw [ht]; exact hP, hD⟩⟩, hS.F ht⟩) hS.2.2 dX3_knows_17
  · replace h := h.2 c
    refine lv_iload_n hx hb dX3_knows_4 rfl (lv_at hl 1 rfl) ?_
    refine lv_aload_n hx hb dX3_knows_5 rfl (lv_at hl 0 rfl) ?_
    refine va_get (D := G.1) (ci := 2) (v := .int s_size) (C := RX3) (T := TX3) (N := 8) hx hb hts ki_X3 hown hK.1 hP 0 rfl rfl 0 (by decide) kf0 (fun _ h9 => h9) rfl dX3_knows_6 ?_
    refine lv_icmp_ge (tgt := 16) hx hb dX3_knows_9 (by decide) (fun c => ?_) (fun c => ?_)
    · replace h := h.1 c
      refine lv_iconst (v := nI 0) hx hb dX3_knows_16 kc_0 ?_
      exact W.zret (v := nI 0) hx hb hr rfl (fun t ht hW => ⟨⟨_, (), rfl, h, ⟨by rw [ht]; exact hP, hD⟩⟩, hS.F ht⟩) hS.2.2 dX3_knows_17
    · replace h := h.2 c
      refine lv_iconst (v := nI 1) hx hb dX3_knows_12 kc_1 ?_
      refine lv_goto (tgt := 17) hx hb dX3_knows_13 (by decide) ?_
      exact W.zret (v := nI 1) hx hb hr rfl (fun t ht hW => ⟨⟨_, (), rfl, h, ⟨by rw [ht]; exact hP, hD⟩⟩, hS.F ht⟩) hS.2.2 dX3_knows_17
set_option maxHeartbeats 4000000 in
set_option maxRecDepth 100000 in
theorem c_X3_hears (l : Launch) (G : hcG) (h0 : Nat) (sz : Nat) (s_size : Int32) (s_heard : Int32) (s_mode : Int32) (s_cast : Int64) (s_figures : Int64) (s_voices : Int64) (s_attacks : Int64) (s_supports : Int64) (x1 : Int32) (post : Int32 → Prop) (h : wp_X3_hears post s_size s_heard x1) : Met l yX3_hears wsX3_hears ({ frames := 1, cells := 0, slots := 0, locals := 21 }) (hcPc G [.ref h0, .int x1] [ceX3 h0 s_size s_heard s_mode s_cast s_figures s_voices s_attacks s_supports] sz) (va_Qi (fun (r : Int32) (u : Unit) => post r) (hcB G (va_A [ceX3 h0 s_size s_heard s_mode s_cast s_figures s_voices s_attacks s_supports] sz) (fun u : Unit => [ceX3 h0 s_size s_heard s_mode s_cast s_figures s_voices s_attacks s_supports])) (va_A [ceX3 h0 s_size s_heard s_mode s_cast s_figures s_voices s_attacks s_supports] sz)) 0 0 (va_A [ceX3 h0 s_size s_heard s_mode s_cast s_figures s_voices s_attacks s_supports] sz) := by
  refine Met.ofW (cc := cX3_hears) (maxL := 2) (ret := (some .boolean)) (by decide) rfl ?_
  intro p e s m args below meth c s₁ B hml hv
  obtain ⟨rfl, hsz, hP, hK, hD0⟩ := hv
  have hx := B.exec
  have hb := B.bytes
  have hr := B.returns
  have hts := atoms_spec (ws := wsX3_hears) B.pre
  have hown : s.vm.findClass RX3 = some m.cls := findClass_of_methodNamed B.named
  have hlocks := B.notSynchronized
  subst hsz
  have hD := hD0.self (sz := s.heap.size)
  generalize hAe : va_A [ceX3 h0 s_size s_heard s_mode s_cast s_figures s_voices s_attacks s_supports] s.heap.size = A at hD ⊢
  have hA : ∀ q : Nat, s.heap.size ≤ q → A q := fun q h => by rw [← hAe]; exact Or.inr h
  have hS : va_S A s.heap s.heap [] := va_S.rf
  have hP : va_P G.1 vwCl [ceX3 h0 s_size s_heard s_mode s_cast s_figures s_voices s_attacks s_supports] s.heap := hP
  have hl := lv_entry ([.ref h0, .int x1]) (n := 2) (Nat.le_of_ble_eq_true rfl)
  rw [lg_entry_eq]
  generalize (lg_sl ([.ref h0, .int x1]) ++ List.replicate (2 - (lg_sl ([.ref h0, .int x1])).length) Slot.unset).toArray = ls at hl ⊢
  have hl : lv_has ls 2 [(0, .ref h0), (1, .int x1)] := hl
  have kf0 := hts (.fieldLink RX3 15 "HallOfClaims$Hall" "heard" "I") (List.mem_of_getElem? (i := 1) (by decide +kernel))
  have ki_X3 : ∀ w ∈ u_ws RX3 TX3 8, w ∈ wsX3_hears := by decide +kernel
  unfold wp_X3_hears at h
  refine lv_aload_n hx hb dX3_hears_0 rfl (lv_at hl 0 rfl) ?_
  refine lv_iload_n hx hb dX3_hears_1 rfl (lv_at hl 1 rfl) ?_
  refine hc_ki (wr := []) (va_runV (As := [.int x1]) (rest := []) ⟨hx, hb, hml, hown, hts⟩ (c_X3_knows l G h0 s.heap.size s_size s_heard s_mode s_cast s_figures s_voices s_attacks s_supports x1 _ h) (cwV 1 hts gX3_hears_X3_knows rfl rfl rfl (by decide +kernel) ⟨Nat.le_of_ble_eq_true rfl, Nat.le_of_ble_eq_true rfl⟩) (hc_pV hK hP hD [0] rfl rfl (ci := 2) 0 rfl rfl) rfl rfl hl.1 rfl (lv_room (Nat.le_of_ble_eq_true rfl)) dX3_hears_2 ⟨Nat.le_refl _, Nat.le_refl _⟩) hP hD hS hA [0] [] rfl rfl rfl (by decide) (fun r2 u H locs h hP hD hS => ?_)
  try dsimp only at h
  have hP : va_P G.1 vwCl [ceX3 h0 s_size s_heard s_mode s_cast s_figures s_voices s_attacks s_supports] H := hP
  have hD : va_D A [ceX3 h0 s_size s_heard s_mode s_cast s_figures s_voices s_attacks s_supports] := hD
  refine lv_if_eq (tgt := 23) hx hb dX3_hears_5 (by decide) (fun c => ?_) (fun c => ?_)
  · replace h := h.1 c
    refine lv_iconst (v := nI 0) hx hb dX3_hears_23 kc_0 ?_
    exact W.zret (v := nI 0) hx hb hr rfl (fun t ht hW => ⟨⟨_, (), rfl, h, ⟨by rw [ht]; exact hP, hD⟩⟩, hS.F ht⟩) hS.2.2 dX3_hears_24
  · replace h := h.2 c
    refine lv_aload_n hx hb dX3_hears_8 rfl (lv_at hl 0 rfl) ?_
    refine va_get (D := G.1) (ci := 2) (v := .int s_heard) (C := RX3) (T := TX3) (N := 8) hx hb hts ki_X3 hown hK.1 hP 0 rfl rfl 1 (by decide) kf0 (fun _ h9 => h9) rfl dX3_hears_9 ?_
    refine lv_iload_n hx hb dX3_hears_12 rfl (lv_at hl 1 rfl) ?_
    refine hc_ki (wr := [ceX3 h0 s_size s_heard s_mode s_cast s_figures s_voices s_attacks s_supports]) (va_runS (As := [.int s_heard, .int x1]) (rest := []) ⟨hx, hb, hml, hown, hts⟩ (c_X0_contains l G H.size s_heard x1 _ h) (va_cwS 2 hts gX3_hears_X0_contains rfl rfl rfl (by decide +kernel) ⟨Nat.le_of_ble_eq_true rfl, Nat.le_of_ble_eq_true rfl⟩) (hc_pS hK hP hD [] rfl rfl) rfl rfl hl.1 rfl (lv_room (Nat.le_of_ble_eq_true rfl)) dX3_hears_13 ⟨Nat.le_refl _, Nat.le_refl _⟩) hP hD hS hA [] [0] rfl rfl rfl (by decide) (fun r13 u H locs h hP hD hS => ?_)
    try dsimp only at h
    have hP : va_P G.1 vwCl [ceX3 h0 s_size s_heard s_mode s_cast s_figures s_voices s_attacks s_supports] H := hP
    have hD : va_D A [ceX3 h0 s_size s_heard s_mode s_cast s_figures s_voices s_attacks s_supports] := hD
    refine lv_if_eq (tgt := 23) hx hb dX3_hears_16 (by decide) (fun c => ?_) (fun c => ?_)
    · replace h := h.1 c
      refine lv_iconst (v := nI 0) hx hb dX3_hears_23 kc_0 ?_
      exact W.zret (v := nI 0) hx hb hr rfl (fun t ht hW => ⟨⟨_, (), rfl, h, ⟨by rw [ht]; exact hP, hD⟩⟩, hS.F ht⟩) hS.2.2 dX3_hears_24
    · replace h := h.2 c
      refine lv_iconst (v := nI 1) hx hb dX3_hears_19 kc_1 ?_
      refine lv_goto (tgt := 24) hx hb dX3_hears_20 (by decide) ?_
      exact W.zret (v := nI 1) hx hb hr rfl (fun t ht hW => ⟨⟨_, (), rfl, h, ⟨by rw [ht]; exact hP, hD⟩⟩, hS.F ht⟩) hS.2.2 dX3_hears_24
set_option maxHeartbeats 4000000 in
set_option maxRecDepth 100000 in
theorem c_X3_speakerOf (l : Launch) (G : hcG) (h0 : Nat) (sz : Nat) (s_size : Int32) (s_heard : Int32) (s_mode : Int32) (s_cast : Int64) (s_figures : Int64) (s_voices : Int64) (s_attacks : Int64) (s_supports : Int64) (x1 : Int32) (post : Int32 → Prop) (h : wp_X3_speakerOf post s_voices x1) : Met l yX3_speakerOf wsX3_speakerOf ({ frames := 1, cells := 0, slots := 0, locals := 22 }) (hcPc G [.ref h0, .int x1] [ceX3 h0 s_size s_heard s_mode s_cast s_figures s_voices s_attacks s_supports] sz) (va_Qi (fun (r : Int32) (u : Unit) => post r) (hcB G (va_A [ceX3 h0 s_size s_heard s_mode s_cast s_figures s_voices s_attacks s_supports] sz) (fun u : Unit => [ceX3 h0 s_size s_heard s_mode s_cast s_figures s_voices s_attacks s_supports])) (va_A [ceX3 h0 s_size s_heard s_mode s_cast s_figures s_voices s_attacks s_supports] sz)) 0 0 (va_A [ceX3 h0 s_size s_heard s_mode s_cast s_figures s_voices s_attacks s_supports] sz) := by
  refine Met.ofW (cc := cX3_speakerOf) (maxL := 2) (ret := (some .int)) (by decide) rfl ?_
  intro p e s m args below meth c s₁ B hml hv
  obtain ⟨rfl, hsz, hP, hK, hD0⟩ := hv
  have hx := B.exec
  have hb := B.bytes
  have hr := B.returns
  have hts := atoms_spec (ws := wsX3_speakerOf) B.pre
  have hown : s.vm.findClass RX3 = some m.cls := findClass_of_methodNamed B.named
  have hlocks := B.notSynchronized
  subst hsz
  have hD := hD0.self (sz := s.heap.size)
  generalize hAe : va_A [ceX3 h0 s_size s_heard s_mode s_cast s_figures s_voices s_attacks s_supports] s.heap.size = A at hD ⊢
  have hA : ∀ q : Nat, s.heap.size ≤ q → A q := fun q h => by rw [← hAe]; exact Or.inr h
  have hS : va_S A s.heap s.heap [] := va_S.rf
  have hP : va_P G.1 vwCl [ceX3 h0 s_size s_heard s_mode s_cast s_figures s_voices s_attacks s_supports] s.heap := hP
  have hl := lv_entry ([.ref h0, .int x1]) (n := 2) (Nat.le_of_ble_eq_true rfl)
  rw [lg_entry_eq]
  generalize (lg_sl ([.ref h0, .int x1]) ++ List.replicate (2 - (lg_sl ([.ref h0, .int x1])).length) Slot.unset).toArray = ls at hl ⊢
  have hl : lv_has ls 2 [(0, .ref h0), (1, .int x1)] := hl
  have kf0 := hts (.fieldLink RX3 28 "HallOfClaims$Hall" "voices" "J") (List.mem_of_getElem? (i := 1) (by decide +kernel))
  have ki_X3 : ∀ w ∈ u_ws RX3 TX3 8, w ∈ wsX3_speakerOf := by decide +kernel
  unfold wp_X3_speakerOf at h
  refine lv_aload_n hx hb dX3_speakerOf_0 rfl (lv_at hl 0 rfl) ?_
  refine va_get (D := G.1) (ci := 2) (v := .long s_voices) (C := RX3) (T := TX3) (N := 8) hx hb hts ki_X3 hown hK.1 hP 0 rfl rfl 5 (by decide) kf0 (fun _ h9 => h9) rfl dX3_speakerOf_1 ?_
  refine lv_iload_n hx hb dX3_speakerOf_4 rfl (lv_at hl 1 rfl) ?_
  refine hc_ki (wr := [ceX3 h0 s_size s_heard s_mode s_cast s_figures s_voices s_attacks s_supports]) (va_runS (As := [.long s_voices, .int x1]) (rest := []) ⟨hx, hb, hml, hown, hts⟩ (c_X0_get l G s.heap.size s_voices x1 _ h) (va_cwS 2 hts gX3_speakerOf_X0_get rfl rfl rfl (by decide +kernel) ⟨Nat.le_of_ble_eq_true rfl, Nat.le_of_ble_eq_true rfl⟩) (hc_pS hK hP hD [] rfl rfl) rfl rfl hl.1 rfl (lv_room (Nat.le_of_ble_eq_true rfl)) dX3_speakerOf_5 ⟨Nat.le_refl _, Nat.le_refl _⟩) hP hD hS hA [] [0] rfl rfl rfl (by decide) (fun r5 u H locs h hP hD hS => ?_)
  try dsimp only at h
  have hP : va_P G.1 vwCl [ceX3 h0 s_size s_heard s_mode s_cast s_figures s_voices s_attacks s_supports] H := hP
  have hD : va_D A [ceX3 h0 s_size s_heard s_mode s_cast s_figures s_voices s_attacks s_supports] := hD
  exact W.iret (v := r5) hx hb hr (fun t ht hW => ⟨⟨_, (), rfl, h, ⟨by rw [ht]; exact hP, hD⟩⟩, hS.F ht⟩) hS.2.2 dX3_speakerOf_8
set_option maxHeartbeats 4000000 in
set_option maxRecDepth 100000 in
theorem c_X3_add (l : Launch) (G : hcG) (h0 : Nat) (sz : Nat) (s_size : Int32) (s_heard : Int32) (s_mode : Int32) (s_cast : Int64) (s_figures : Int64) (s_voices : Int64) (s_attacks : Int64) (s_supports : Int64) (x1 : Int32) (x2 : Int32) (x3 : Int32) (post : Int32 → Int32 → Int32 → Int64 → Int64 → Int64 → Prop) (h : wp_X3_add post s_size s_heard s_cast s_figures s_voices x1 x2 x3) : Met l yX3_add wsX3_add ({ frames := 1, cells := 0, slots := 0, locals := 24 }) (hcPc G [.ref h0, .int x1, .int x2, .int x3] [ceX3 h0 s_size s_heard s_mode s_cast s_figures s_voices s_attacks s_supports] sz) (va_Qi (fun (r : Int32) (u : Int32 × Int32 × Int64 × Int64 × Int64) => post r u.1 u.2.1 u.2.2.1 u.2.2.2.1 u.2.2.2.2) (hcB G (va_A [ceX3 h0 s_size s_heard s_mode s_cast s_figures s_voices s_attacks s_supports] sz) (fun u : Int32 × Int32 × Int64 × Int64 × Int64 => [ceX3 h0 u.1 u.2.1 s_mode u.2.2.1 u.2.2.2.1 u.2.2.2.2 s_attacks s_supports])) (va_A [ceX3 h0 s_size s_heard s_mode s_cast s_figures s_voices s_attacks s_supports] sz)) 0 0 (va_A [ceX3 h0 s_size s_heard s_mode s_cast s_figures s_voices s_attacks s_supports] sz) := by
  refine Met.ofW (cc := cX3_add) (maxL := 5) (ret := (some .int)) (by decide) rfl ?_
  intro p e s m args below meth c s₁ B hml hv
  obtain ⟨rfl, hsz, hP, hK, hD0⟩ := hv
  have hx := B.exec
  have hb := B.bytes
  have hr := B.returns
  have hts := atoms_spec (ws := wsX3_add) B.pre
  have hown : s.vm.findClass RX3 = some m.cls := findClass_of_methodNamed B.named
  have hlocks := B.notSynchronized
  subst hsz
  have hD := hD0.self (sz := s.heap.size)
  generalize hAe : va_A [ceX3 h0 s_size s_heard s_mode s_cast s_figures s_voices s_attacks s_supports] s.heap.size = A at hD ⊢
  have hA : ∀ q : Nat, s.heap.size ≤ q → A q := fun q h => by rw [← hAe]; exact Or.inr h
  have hS : va_S A s.heap s.heap [] := va_S.rf
  have hP : va_P G.1 vwCl [ceX3 h0 s_size s_heard s_mode s_cast s_figures s_voices s_attacks s_supports] s.heap := hP
  have hl := lv_entry ([.ref h0, .int x1, .int x2, .int x3]) (n := 5) (Nat.le_of_ble_eq_true rfl)
  rw [lg_entry_eq]
  generalize (lg_sl ([.ref h0, .int x1, .int x2, .int x3]) ++ List.replicate (5 - (lg_sl ([.ref h0, .int x1, .int x2, .int x3])).length) Slot.unset).toArray = ls at hl ⊢
  have hl : lv_has ls 5 [(0, .ref h0), (1, .int x1), (2, .int x2), (3, .int x3)] := hl
  have kf0 := hts (.fieldLink RX3 9 "HallOfClaims$Hall" "size" "I") (List.mem_of_getElem? (i := 1) (by decide +kernel))
  have kf1 := hts (.fieldLink RX3 15 "HallOfClaims$Hall" "heard" "I") (List.mem_of_getElem? (i := 2) (by decide +kernel))
  have kf2 := hts (.fieldLink RX3 21 "HallOfClaims$Hall" "cast" "J") (List.mem_of_getElem? (i := 3) (by decide +kernel))
  have kf3 := hts (.fieldLink RX3 25 "HallOfClaims$Hall" "figures" "J") (List.mem_of_getElem? (i := 4) (by decide +kernel))
  have kf4 := hts (.fieldLink RX3 28 "HallOfClaims$Hall" "voices" "J") (List.mem_of_getElem? (i := 5) (by decide +kernel))
  have ki_X3 : ∀ w ∈ u_ws RX3 TX3 8, w ∈ wsX3_add := by decide +kernel
  unfold wp_X3_add at h
  refine lv_aload_n hx hb dX3_add_0 rfl (lv_at hl 0 rfl) ?_
  refine va_get (D := G.1) (ci := 2) (v := .int s_size) (C := RX3) (T := TX3) (N := 8) hx hb hts ki_X3 hown hK.1 hP 0 rfl rfl 0 (by decide) kf0 (fun _ h9 => h9) rfl dX3_add_1 ?_
  refine lv_istore (lv' := [(4, .int s_size), (0, .ref h0), (1, .int x1), (2, .int x2), (3, .int x3)]) hx hb dX3_add_4 hl (by decide) rfl (fun ls hl => ?_)
  refine lv_aload_n hx hb dX3_add_6 rfl (lv_at hl 1 rfl) ?_
  refine lv_dup hx hb dX3_add_7 rfl ?_
  refine va_get (D := G.1) (ci := 2) (v := .int s_size) (C := RX3) (T := TX3) (N := 8) hx hb hts ki_X3 hown hK.1 hP 0 rfl rfl 0 (by decide) kf0 (fun _ h9 => h9) rfl dX3_add_8 ?_
  refine lv_iconst (v := nI 1) hx hb dX3_add_11 kc_1 ?_
  refine lv_iadd hx hb dX3_add_12 ?_
  refine va_put (D := G.1) (ci := 2) (v := .int (s_size + (nI 1))) (ty := .int) (C := RX3) (T := TX3) (N := 8) hx hb hts ki_X3 tyX3 tyX3_ok nmX3 hown hK.1 hP hD hS 0 rfl rfl 0 (by decide) kf0 (fun _ h9 => h9) rfl (by decide +kernel) rfl rfl (Nat.le_of_ble_eq_true rfl) dX3_add_13 (fun H locs hP hD hS => ?_)
  have hP : va_P G.1 vwCl [ceX3 h0 (s_size + (nI 1)) s_heard s_mode s_cast s_figures s_voices s_attacks s_supports] H := hP
  have hD : va_D A [ceX3 h0 (s_size + (nI 1)) s_heard s_mode s_cast s_figures s_voices s_attacks s_supports] := hD
  refine lv_aload_n hx hb dX3_add_16 rfl (lv_at hl 1 rfl) ?_
  refine lv_dup hx hb dX3_add_17 rfl ?_
  refine va_get (D := G.1) (ci := 2) (v := .int s_heard) (C := RX3) (T := TX3) (N := 8) hx hb hts ki_X3 hown hK.1 hP 0 rfl rfl 1 (by decide) kf1 (fun _ h9 => h9) rfl dX3_add_18 ?_
  refine lv_iconst (v := nI 1) hx hb dX3_add_21 kc_1 ?_
  refine lv_iload hx hb dX3_add_22 (lv_at hl 0 rfl) ?_
  refine lv_ishl hx hb dX3_add_24 ?_
  refine lv_ior hx hb dX3_add_25 ?_
  refine va_put (D := G.1) (ci := 2) (v := .int (s_heard ||| ((nI 1) <<< (s_size &&& 31)))) (ty := .int) (C := RX3) (T := TX3) (N := 8) hx hb hts ki_X3 tyX3 tyX3_ok nmX3 hown hK.1 hP hD hS 0 rfl rfl 1 (by decide) kf1 (fun _ h9 => h9) rfl (by decide +kernel) rfl rfl (Nat.le_of_ble_eq_true rfl) dX3_add_26 (fun H locs hP hD hS => ?_)
  have hP : va_P G.1 vwCl [ceX3 h0 (s_size + (nI 1)) (s_heard ||| ((nI 1) <<< (s_size &&& 31))) s_mode s_cast s_figures s_voices s_attacks s_supports] H := hP
  have hD : va_D A [ceX3 h0 (s_size + (nI 1)) (s_heard ||| ((nI 1) <<< (s_size &&& 31))) s_mode s_cast s_figures s_voices s_attacks s_supports] := hD
  refine lv_aload_n hx hb dX3_add_29 rfl (lv_at hl 1 rfl) ?_
  refine lv_aload_n hx hb dX3_add_30 rfl (lv_at hl 1 rfl) ?_
  refine va_get (D := G.1) (ci := 2) (v := .long s_cast) (C := RX3) (T := TX3) (N := 8) hx hb hts ki_X3 hown hK.1 hP 0 rfl rfl 3 (by decide) kf2 (fun _ h9 => h9) rfl dX3_add_31 ?_
  refine lv_iload hx hb dX3_add_34 (lv_at hl 0 rfl) ?_
  refine lv_iload_n hx hb dX3_add_36 rfl (lv_at hl 2 rfl) ?_
  refine hc_kl (wr := [ceX3 h0 (s_size + (nI 1)) (s_heard ||| ((nI 1) <<< (s_size &&& 31))) s_mode s_cast s_figures s_voices s_attacks s_supports]) (va_runS (As := [.long s_cast, .int s_size, .int x1]) (rest := [.ref h0]) ⟨hx, hb, hml, hown, hts⟩ (c_X0_with l G H.size s_cast s_size x1 _ h) (va_cwS 3 hts gX3_add_X0_with rfl rfl rfl (by decide +kernel) ⟨Nat.le_of_ble_eq_true rfl, Nat.le_of_ble_eq_true rfl⟩) (hc_pS hK hP hD [] rfl rfl) rfl rfl hl.1 rfl (lv_room (Nat.le_of_ble_eq_true rfl)) dX3_add_37 ⟨Nat.le_refl _, Nat.le_refl _⟩) hP hD hS hA [] [0] rfl rfl rfl (by decide) (fun r37 u H locs h hP hD hS => ?_)
  try dsimp only at h
  have hP : va_P G.1 vwCl [ceX3 h0 (s_size + (nI 1)) (s_heard ||| ((nI 1) <<< (s_size &&& 31))) s_mode s_cast s_figures s_voices s_attacks s_supports] H := hP
  have hD : va_D A [ceX3 h0 (s_size + (nI 1)) (s_heard ||| ((nI 1) <<< (s_size &&& 31))) s_mode s_cast s_figures s_voices s_attacks s_supports] := hD
  refine va_put (D := G.1) (ci := 2) (v := .long r37) (ty := .long) (C := RX3) (T := TX3) (N := 8) hx hb hts ki_X3 tyX3 tyX3_ok nmX3 hown hK.1 hP hD hS 0 rfl rfl 3 (by decide) kf2 (fun _ h9 => h9) rfl (by decide +kernel) rfl rfl (Nat.le_of_ble_eq_true rfl) dX3_add_40 (fun H locs hP hD hS => ?_)
  have hP : va_P G.1 vwCl [ceX3 h0 (s_size + (nI 1)) (s_heard ||| ((nI 1) <<< (s_size &&& 31))) s_mode r37 s_figures s_voices s_attacks s_supports] H := hP
  have hD : va_D A [ceX3 h0 (s_size + (nI 1)) (s_heard ||| ((nI 1) <<< (s_size &&& 31))) s_mode r37 s_figures s_voices s_attacks s_supports] := hD
  refine lv_aload_n hx hb dX3_add_43 rfl (lv_at hl 1 rfl) ?_
  refine lv_aload_n hx hb dX3_add_44 rfl (lv_at hl 1 rfl) ?_
  refine va_get (D := G.1) (ci := 2) (v := .long s_figures) (C := RX3) (T := TX3) (N := 8) hx hb hts ki_X3 hown hK.1 hP 0 rfl rfl 4 (by decide) kf3 (fun _ h9 => h9) rfl dX3_add_45 ?_
  refine lv_iload hx hb dX3_add_48 (lv_at hl 0 rfl) ?_
  refine lv_iload_n hx hb dX3_add_50 rfl (lv_at hl 3 rfl) ?_
  refine hc_kl (wr := [ceX3 h0 (s_size + (nI 1)) (s_heard ||| ((nI 1) <<< (s_size &&& 31))) s_mode r37 s_figures s_voices s_attacks s_supports]) (va_runS (As := [.long s_figures, .int s_size, .int x2]) (rest := [.ref h0]) ⟨hx, hb, hml, hown, hts⟩ (c_X0_with l G H.size s_figures s_size x2 _ h) (va_cwS 3 hts gX3_add_X0_with rfl rfl rfl (by decide +kernel) ⟨Nat.le_of_ble_eq_true rfl, Nat.le_of_ble_eq_true rfl⟩) (hc_pS hK hP hD [] rfl rfl) rfl rfl hl.1 rfl (lv_room (Nat.le_of_ble_eq_true rfl)) dX3_add_51 ⟨Nat.le_refl _, Nat.le_refl _⟩) hP hD hS hA [] [0] rfl rfl rfl (by decide) (fun r51 u H locs h hP hD hS => ?_)
  try dsimp only at h
  have hP : va_P G.1 vwCl [ceX3 h0 (s_size + (nI 1)) (s_heard ||| ((nI 1) <<< (s_size &&& 31))) s_mode r37 s_figures s_voices s_attacks s_supports] H := hP
  have hD : va_D A [ceX3 h0 (s_size + (nI 1)) (s_heard ||| ((nI 1) <<< (s_size &&& 31))) s_mode r37 s_figures s_voices s_attacks s_supports] := hD
  refine va_put (D := G.1) (ci := 2) (v := .long r51) (ty := .long) (C := RX3) (T := TX3) (N := 8) hx hb hts ki_X3 tyX3 tyX3_ok nmX3 hown hK.1 hP hD hS 0 rfl rfl 4 (by decide) kf3 (fun _ h9 => h9) rfl (by decide +kernel) rfl rfl (Nat.le_of_ble_eq_true rfl) dX3_add_54 (fun H locs hP hD hS => ?_)
  have hP : va_P G.1 vwCl [ceX3 h0 (s_size + (nI 1)) (s_heard ||| ((nI 1) <<< (s_size &&& 31))) s_mode r37 r51 s_voices s_attacks s_supports] H := hP
  have hD : va_D A [ceX3 h0 (s_size + (nI 1)) (s_heard ||| ((nI 1) <<< (s_size &&& 31))) s_mode r37 r51 s_voices s_attacks s_supports] := hD
  refine lv_aload_n hx hb dX3_add_57 rfl (lv_at hl 1 rfl) ?_
  refine lv_aload_n hx hb dX3_add_58 rfl (lv_at hl 1 rfl) ?_
  refine va_get (D := G.1) (ci := 2) (v := .long s_voices) (C := RX3) (T := TX3) (N := 8) hx hb hts ki_X3 hown hK.1 hP 0 rfl rfl 5 (by decide) kf4 (fun _ h9 => h9) rfl dX3_add_59 ?_
  refine lv_iload hx hb dX3_add_62 (lv_at hl 0 rfl) ?_
  refine lv_iload_n hx hb dX3_add_64 rfl (lv_at hl 4 rfl) ?_
  refine hc_kl (wr := [ceX3 h0 (s_size + (nI 1)) (s_heard ||| ((nI 1) <<< (s_size &&& 31))) s_mode r37 r51 s_voices s_attacks s_supports]) (va_runS (As := [.long s_voices, .int s_size, .int x3]) (rest := [.ref h0]) ⟨hx, hb, hml, hown, hts⟩ (c_X0_with l G H.size s_voices s_size x3 _ h) (va_cwS 3 hts gX3_add_X0_with rfl rfl rfl (by decide +kernel) ⟨Nat.le_of_ble_eq_true rfl, Nat.le_of_ble_eq_true rfl⟩) (hc_pS hK hP hD [] rfl rfl) rfl rfl hl.1 rfl (lv_room (Nat.le_of_ble_eq_true rfl)) dX3_add_65 ⟨Nat.le_refl _, Nat.le_refl _⟩) hP hD hS hA [] [0] rfl rfl rfl (by decide) (fun r65 u H locs h hP hD hS => ?_)
  try dsimp only at h
  have hP : va_P G.1 vwCl [ceX3 h0 (s_size + (nI 1)) (s_heard ||| ((nI 1) <<< (s_size &&& 31))) s_mode r37 r51 s_voices s_attacks s_supports] H := hP
  have hD : va_D A [ceX3 h0 (s_size + (nI 1)) (s_heard ||| ((nI 1) <<< (s_size &&& 31))) s_mode r37 r51 s_voices s_attacks s_supports] := hD
  refine va_put (D := G.1) (ci := 2) (v := .long r65) (ty := .long) (C := RX3) (T := TX3) (N := 8) hx hb hts ki_X3 tyX3 tyX3_ok nmX3 hown hK.1 hP hD hS 0 rfl rfl 5 (by decide) kf4 (fun _ h9 => h9) rfl (by decide +kernel) rfl rfl (Nat.le_of_ble_eq_true rfl) dX3_add_68 (fun H locs hP hD hS => ?_)
  have hP : va_P G.1 vwCl [ceX3 h0 (s_size + (nI 1)) (s_heard ||| ((nI 1) <<< (s_size &&& 31))) s_mode r37 r51 r65 s_attacks s_supports] H := hP
  have hD : va_D A [ceX3 h0 (s_size + (nI 1)) (s_heard ||| ((nI 1) <<< (s_size &&& 31))) s_mode r37 r51 r65 s_attacks s_supports] := hD
  refine lv_iload hx hb dX3_add_71 (lv_at hl 0 rfl) ?_
  exact W.iret (v := s_size) hx hb hr (fun t ht hW => ⟨⟨_, ⟨(s_size + (nI 1)), (s_heard ||| ((nI 1) <<< (s_size &&& 31))), r37, r51, r65⟩, rfl, h, ⟨by rw [ht]; exact hP, hD⟩⟩, hS.F ht⟩) hS.2.2 dX3_add_73
set_option maxHeartbeats 4000000 in
set_option maxRecDepth 100000 in
theorem c_X3_recast (l : Launch) (G : hcG) (h0 : Nat) (sz : Nat) (s_size : Int32) (s_heard : Int32) (s_mode : Int32) (s_cast : Int64) (s_figures : Int64) (s_voices : Int64) (s_attacks : Int64) (s_supports : Int64) (x1 : Int32) (x2 : Int32) (x3 : Int32) (post : Int64 → Int64 → Prop) (h : wp_X3_recast post s_cast s_figures x1 x2 x3) : Met l yX3_recast wsX3_recast ({ frames := 1, cells := 0, slots := 0, locals := 24 }) (hcPc G [.ref h0, .int x1, .int x2, .int x3] [ceX3 h0 s_size s_heard s_mode s_cast s_figures s_voices s_attacks s_supports] sz) (va_Qv (fun u : Int64 × Int64 => post u.1 u.2) (hcB G (va_A [ceX3 h0 s_size s_heard s_mode s_cast s_figures s_voices s_attacks s_supports] sz) (fun u : Int64 × Int64 => [ceX3 h0 s_size s_heard s_mode u.1 u.2 s_voices s_attacks s_supports])) (va_A [ceX3 h0 s_size s_heard s_mode s_cast s_figures s_voices s_attacks s_supports] sz)) 0 0 (va_A [ceX3 h0 s_size s_heard s_mode s_cast s_figures s_voices s_attacks s_supports] sz) := by
  refine Met.ofW (cc := cX3_recast) (maxL := 4) (ret := none) (by decide) rfl ?_
  intro p e s m args below meth c s₁ B hml hv
  obtain ⟨rfl, hsz, hP, hK, hD0⟩ := hv
  have hx := B.exec
  have hb := B.bytes
  have hr := B.returns
  have hts := atoms_spec (ws := wsX3_recast) B.pre
  have hown : s.vm.findClass RX3 = some m.cls := findClass_of_methodNamed B.named
  have hlocks := B.notSynchronized
  subst hsz
  have hD := hD0.self (sz := s.heap.size)
  generalize hAe : va_A [ceX3 h0 s_size s_heard s_mode s_cast s_figures s_voices s_attacks s_supports] s.heap.size = A at hD ⊢
  have hA : ∀ q : Nat, s.heap.size ≤ q → A q := fun q h => by rw [← hAe]; exact Or.inr h
  have hS : va_S A s.heap s.heap [] := va_S.rf
  have hP : va_P G.1 vwCl [ceX3 h0 s_size s_heard s_mode s_cast s_figures s_voices s_attacks s_supports] s.heap := hP
  have hl := lv_entry ([.ref h0, .int x1, .int x2, .int x3]) (n := 4) (Nat.le_of_ble_eq_true rfl)
  rw [lg_entry_eq]
  generalize (lg_sl ([.ref h0, .int x1, .int x2, .int x3]) ++ List.replicate (4 - (lg_sl ([.ref h0, .int x1, .int x2, .int x3])).length) Slot.unset).toArray = ls at hl ⊢
  have hl : lv_has ls 4 [(0, .ref h0), (1, .int x1), (2, .int x2), (3, .int x3)] := hl
  have kf0 := hts (.fieldLink RX3 21 "HallOfClaims$Hall" "cast" "J") (List.mem_of_getElem? (i := 1) (by decide +kernel))
  have kf1 := hts (.fieldLink RX3 25 "HallOfClaims$Hall" "figures" "J") (List.mem_of_getElem? (i := 2) (by decide +kernel))
  have ki_X3 : ∀ w ∈ u_ws RX3 TX3 8, w ∈ wsX3_recast := by decide +kernel
  unfold wp_X3_recast at h
  refine lv_aload_n hx hb dX3_recast_0 rfl (lv_at hl 0 rfl) ?_
  refine lv_aload_n hx hb dX3_recast_1 rfl (lv_at hl 0 rfl) ?_
  refine va_get (D := G.1) (ci := 2) (v := .long s_cast) (C := RX3) (T := TX3) (N := 8) hx hb hts ki_X3 hown hK.1 hP 0 rfl rfl 3 (by decide) kf0 (fun _ h9 => h9) rfl dX3_recast_2 ?_
  refine lv_iload_n hx hb dX3_recast_5 rfl (lv_at hl 1 rfl) ?_
  refine lv_iload_n hx hb dX3_recast_6 rfl (lv_at hl 2 rfl) ?_
  refine hc_kl (wr := [ceX3 h0 s_size s_heard s_mode s_cast s_figures s_voices s_attacks s_supports]) (va_runS (As := [.long s_cast, .int x1, .int x2]) (rest := [.ref h0]) ⟨hx, hb, hml, hown, hts⟩ (c_X0_with l G s.heap.size s_cast x1 x2 _ h) (va_cwS 3 hts gX3_recast_X0_with rfl rfl rfl (by decide +kernel) ⟨Nat.le_of_ble_eq_true rfl, Nat.le_of_ble_eq_true rfl⟩) (hc_pS hK hP hD [] rfl rfl) rfl rfl hl.1 rfl (lv_room (Nat.le_of_ble_eq_true rfl)) dX3_recast_7 ⟨Nat.le_refl _, Nat.le_refl _⟩) hP hD hS hA [] [0] rfl rfl rfl (by decide) (fun r7 u H locs h hP hD hS => ?_)
  try dsimp only at h
  have hP : va_P G.1 vwCl [ceX3 h0 s_size s_heard s_mode s_cast s_figures s_voices s_attacks s_supports] H := hP
  have hD : va_D A [ceX3 h0 s_size s_heard s_mode s_cast s_figures s_voices s_attacks s_supports] := hD
  refine va_put (D := G.1) (ci := 2) (v := .long r7) (ty := .long) (C := RX3) (T := TX3) (N := 8) hx hb hts ki_X3 tyX3 tyX3_ok nmX3 hown hK.1 hP hD hS 0 rfl rfl 3 (by decide) kf0 (fun _ h9 => h9) rfl (by decide +kernel) rfl rfl (Nat.le_of_ble_eq_true rfl) dX3_recast_10 (fun H locs hP hD hS => ?_)
  have hP : va_P G.1 vwCl [ceX3 h0 s_size s_heard s_mode r7 s_figures s_voices s_attacks s_supports] H := hP
  have hD : va_D A [ceX3 h0 s_size s_heard s_mode r7 s_figures s_voices s_attacks s_supports] := hD
  refine lv_aload_n hx hb dX3_recast_13 rfl (lv_at hl 0 rfl) ?_
  refine lv_aload_n hx hb dX3_recast_14 rfl (lv_at hl 0 rfl) ?_
  refine va_get (D := G.1) (ci := 2) (v := .long s_figures) (C := RX3) (T := TX3) (N := 8) hx hb hts ki_X3 hown hK.1 hP 0 rfl rfl 4 (by decide) kf1 (fun _ h9 => h9) rfl dX3_recast_15 ?_
  refine lv_iload_n hx hb dX3_recast_18 rfl (lv_at hl 1 rfl) ?_
  refine lv_iload_n hx hb dX3_recast_19 rfl (lv_at hl 3 rfl) ?_
  refine hc_kl (wr := [ceX3 h0 s_size s_heard s_mode r7 s_figures s_voices s_attacks s_supports]) (va_runS (As := [.long s_figures, .int x1, .int x3]) (rest := [.ref h0]) ⟨hx, hb, hml, hown, hts⟩ (c_X0_with l G H.size s_figures x1 x3 _ h) (va_cwS 3 hts gX3_recast_X0_with rfl rfl rfl (by decide +kernel) ⟨Nat.le_of_ble_eq_true rfl, Nat.le_of_ble_eq_true rfl⟩) (hc_pS hK hP hD [] rfl rfl) rfl rfl hl.1 rfl (lv_room (Nat.le_of_ble_eq_true rfl)) dX3_recast_20 ⟨Nat.le_refl _, Nat.le_refl _⟩) hP hD hS hA [] [0] rfl rfl rfl (by decide) (fun r20 u H locs h hP hD hS => ?_)
  try dsimp only at h
  have hP : va_P G.1 vwCl [ceX3 h0 s_size s_heard s_mode r7 s_figures s_voices s_attacks s_supports] H := hP
  have hD : va_D A [ceX3 h0 s_size s_heard s_mode r7 s_figures s_voices s_attacks s_supports] := hD
  refine va_put (D := G.1) (ci := 2) (v := .long r20) (ty := .long) (C := RX3) (T := TX3) (N := 8) hx hb hts ki_X3 tyX3 tyX3_ok nmX3 hown hK.1 hP hD hS 0 rfl rfl 4 (by decide) kf1 (fun _ h9 => h9) rfl (by decide +kernel) rfl rfl (Nat.le_of_ble_eq_true rfl) dX3_recast_23 (fun H locs hP hD hS => ?_)
  have hP : va_P G.1 vwCl [ceX3 h0 s_size s_heard s_mode r7 r20 s_voices s_attacks s_supports] H := hP
  have hD : va_D A [ceX3 h0 s_size s_heard s_mode r7 r20 s_voices s_attacks s_supports] := hD
  exact W.vret hx hb hr (fun t ht hW => ⟨⟨⟨r7, r20⟩, rfl, h, ⟨by rw [ht]; exact hP, hD⟩⟩, hS.F ht⟩) hS.2.2 dX3_recast_26
set_option maxHeartbeats 4000000 in
set_option maxRecDepth 100000 in
theorem c_X3_flipHeard (l : Launch) (G : hcG) (h0 : Nat) (sz : Nat) (s_size : Int32) (s_heard : Int32) (s_mode : Int32) (s_cast : Int64) (s_figures : Int64) (s_voices : Int64) (s_attacks : Int64) (s_supports : Int64) (x1 : Int32) (post : Int32 → Prop) (h : wp_X3_flipHeard post s_heard x1) : Met l yX3_flipHeard wsX3_flipHeard ({ frames := 0, cells := 0, slots := 0, locals := 0 }) (hcPc G [.ref h0, .int x1] [ceX3 h0 s_size s_heard s_mode s_cast s_figures s_voices s_attacks s_supports] sz) (va_Qv (fun u : Int32 => post u) (hcB G (va_A [ceX3 h0 s_size s_heard s_mode s_cast s_figures s_voices s_attacks s_supports] sz) (fun u : Int32 => [ceX3 h0 s_size u s_mode s_cast s_figures s_voices s_attacks s_supports])) (va_A [ceX3 h0 s_size s_heard s_mode s_cast s_figures s_voices s_attacks s_supports] sz)) 0 0 (va_A [ceX3 h0 s_size s_heard s_mode s_cast s_figures s_voices s_attacks s_supports] sz) := by
  refine Met.ofW (cc := cX3_flipHeard) (maxL := 2) (ret := none) (by decide) rfl ?_
  intro p e s m args below meth c s₁ B hml hv
  obtain ⟨rfl, hsz, hP, hK, hD0⟩ := hv
  have hx := B.exec
  have hb := B.bytes
  have hr := B.returns
  have hts := atoms_spec (ws := wsX3_flipHeard) B.pre
  have hown : s.vm.findClass RX3 = some m.cls := findClass_of_methodNamed B.named
  have hlocks := B.notSynchronized
  subst hsz
  have hD := hD0.self (sz := s.heap.size)
  generalize hAe : va_A [ceX3 h0 s_size s_heard s_mode s_cast s_figures s_voices s_attacks s_supports] s.heap.size = A at hD ⊢
  have hA : ∀ q : Nat, s.heap.size ≤ q → A q := fun q h => by rw [← hAe]; exact Or.inr h
  have hS : va_S A s.heap s.heap [] := va_S.rf
  have hP : va_P G.1 vwCl [ceX3 h0 s_size s_heard s_mode s_cast s_figures s_voices s_attacks s_supports] s.heap := hP
  have hl := lv_entry ([.ref h0, .int x1]) (n := 2) (Nat.le_of_ble_eq_true rfl)
  rw [lg_entry_eq]
  generalize (lg_sl ([.ref h0, .int x1]) ++ List.replicate (2 - (lg_sl ([.ref h0, .int x1])).length) Slot.unset).toArray = ls at hl ⊢
  have hl : lv_has ls 2 [(0, .ref h0), (1, .int x1)] := hl
  have kf0 := hts (.fieldLink RX3 15 "HallOfClaims$Hall" "heard" "I") (List.mem_of_getElem? (i := 1) (by decide +kernel))
  have ki_X3 : ∀ w ∈ u_ws RX3 TX3 8, w ∈ wsX3_flipHeard := by decide +kernel
  unfold wp_X3_flipHeard at h
  refine lv_aload_n hx hb dX3_flipHeard_0 rfl (lv_at hl 0 rfl) ?_
  refine lv_dup hx hb dX3_flipHeard_1 rfl ?_
  refine va_get (D := G.1) (ci := 2) (v := .int s_heard) (C := RX3) (T := TX3) (N := 8) hx hb hts ki_X3 hown hK.1 hP 0 rfl rfl 1 (by decide) kf0 (fun _ h9 => h9) rfl dX3_flipHeard_2 ?_
  refine lv_iconst (v := nI 1) hx hb dX3_flipHeard_5 kc_1 ?_
  refine lv_iload_n hx hb dX3_flipHeard_6 rfl (lv_at hl 1 rfl) ?_
  refine lv_ishl hx hb dX3_flipHeard_7 ?_
  refine lv_ixor hx hb dX3_flipHeard_8 ?_
  refine va_put (D := G.1) (ci := 2) (v := .int (s_heard ^^^ ((nI 1) <<< (x1 &&& 31)))) (ty := .int) (C := RX3) (T := TX3) (N := 8) hx hb hts ki_X3 tyX3 tyX3_ok nmX3 hown hK.1 hP hD hS 0 rfl rfl 1 (by decide) kf0 (fun _ h9 => h9) rfl (by decide +kernel) rfl rfl (Nat.le_of_ble_eq_true rfl) dX3_flipHeard_9 (fun H locs hP hD hS => ?_)
  have hP : va_P G.1 vwCl [ceX3 h0 s_size (s_heard ^^^ ((nI 1) <<< (x1 &&& 31))) s_mode s_cast s_figures s_voices s_attacks s_supports] H := hP
  have hD : va_D A [ceX3 h0 s_size (s_heard ^^^ ((nI 1) <<< (x1 &&& 31))) s_mode s_cast s_figures s_voices s_attacks s_supports] := hD
  exact W.vret hx hb hr (fun t ht hW => ⟨⟨(s_heard ^^^ ((nI 1) <<< (x1 &&& 31))), rfl, h, ⟨by rw [ht]; exact hP, hD⟩⟩, hS.F ht⟩) hS.2.2 dX3_flipHeard_12
