set_option maxHeartbeats 4000000 in
set_option maxRecDepth 100000 in
theorem c_X3_flipAttack (l : Launch) (G : hcG) (h0 : Nat) (sz : Nat) (s_size : Int32) (s_heard : Int32) (s_mode : Int32) (s_cast : Int64) (s_figures : Int64) (s_voices : Int64) (s_attacks : Int64) (s_supports : Int64) (x1 : Int32) (x2 : Int32) (post : Int64 → Prop) (h : wp_X3_flipAttack post s_attacks x1 x2) : Met l yX3_flipAttack wsX3_flipAttack ({ frames := 1, cells := 0, slots := 0, locals := 21 }) (hcPc G [.ref h0, .int x1, .int x2] [ceX3 h0 s_size s_heard s_mode s_cast s_figures s_voices s_attacks s_supports] sz) (va_Qv (fun u : Int64 => post u) (hcB G (va_A [ceX3 h0 s_size s_heard s_mode s_cast s_figures s_voices s_attacks s_supports] sz) (fun u : Int64 => [ceX3 h0 s_size s_heard s_mode s_cast s_figures s_voices u s_supports])) (va_A [ceX3 h0 s_size s_heard s_mode s_cast s_figures s_voices s_attacks s_supports] sz)) 0 0 (va_A [ceX3 h0 s_size s_heard s_mode s_cast s_figures s_voices s_attacks s_supports] sz) := by
  refine Met.ofW (cc := cX3_flipAttack) (maxL := 3) (ret := none) (by decide) rfl ?_
  intro p e s m args below meth c s₁ B hml hv
  obtain ⟨rfl, hsz, hP, hK, hD0⟩ := hv
  have hx := B.exec
  have hb := B.bytes
  have hr := B.returns
  have hts := atoms_spec (ws := wsX3_flipAttack) B.pre
  have hown : s.vm.findClass RX3 = some m.cls := findClass_of_methodNamed B.named
  have hlocks := B.notSynchronized
  subst hsz
  have hD := hD0.self (sz := s.heap.size)
  generalize hAe : va_A [ceX3 h0 s_size s_heard s_mode s_cast s_figures s_voices s_attacks s_supports] s.heap.size = A at hD ⊢
  have hA : ∀ q : Nat, s.heap.size ≤ q → A q := fun q h => by rw [← hAe]; exact Or.inr h
  have hS : va_S A s.heap s.heap [] := va_S.rf
  have hP : va_P G.1 vwCl [ceX3 h0 s_size s_heard s_mode s_cast s_figures s_voices s_attacks s_supports] s.heap := hP
  have hl := lv_entry ([.ref h0, .int x1, .int x2]) (n := 3) (Nat.le_of_ble_eq_true rfl)
  rw [lg_entry_eq]
  generalize (lg_sl ([.ref h0, .int x1, .int x2]) ++ List.replicate (3 - (lg_sl ([.ref h0, .int x1, .int x2])).length) Slot.unset).toArray = ls at hl ⊢
  have hl : lv_has ls 3 [(0, .ref h0), (1, .int x1), (2, .int x2)] := hl
  have kf0 := hts (.fieldLink RX3 31 "HallOfClaims$Hall" "attacks" "J") (List.mem_of_getElem? (i := 1) (by decide +kernel))
  have ki_X3 : ∀ w ∈ u_ws RX3 TX3 8, w ∈ wsX3_flipAttack := by decide +kernel
  unfold wp_X3_flipAttack at h
  refine lv_aload_n hx hb dX3_flipAttack_0 rfl (lv_at hl 0 rfl) ?_
  refine lv_dup hx hb dX3_flipAttack_1 rfl ?_
  refine va_get (D := G.1) (ci := 2) (v := .long s_attacks) (C := RX3) (T := TX3) (N := 8) hx hb hts ki_X3 hown hK.1 hP 0 rfl rfl 6 (by decide) kf0 (fun _ h9 => h9) rfl dX3_flipAttack_2 ?_
  refine lv_iload_n hx hb dX3_flipAttack_5 rfl (lv_at hl 1 rfl) ?_
  refine lv_iload_n hx hb dX3_flipAttack_6 rfl (lv_at hl 2 rfl) ?_
  refine hc_kl (wr := [ceX3 h0 s_size s_heard s_mode s_cast s_figures s_voices s_attacks s_supports]) (va_runS (As := [.int x1, .int x2]) (rest := [.long s_attacks, .ref h0]) ⟨hx, hb, hml, hown, hts⟩ (c_X0_pair l G s.heap.size x1 x2 _ h) (va_cwS 2 hts gX3_flipAttack_X0_pair rfl rfl rfl (by decide +kernel) ⟨Nat.le_of_ble_eq_true rfl, Nat.le_of_ble_eq_true rfl⟩) (hc_pS hK hP hD [] rfl rfl) rfl rfl hl.1 rfl (lv_room (Nat.le_of_ble_eq_true rfl)) dX3_flipAttack_7 ⟨Nat.le_refl _, Nat.le_refl _⟩) hP hD hS hA [] [0] rfl rfl rfl (by decide) (fun r7 u H locs h hP hD hS => ?_)
  try dsimp only at h
  have hP : va_P G.1 vwCl [ceX3 h0 s_size s_heard s_mode s_cast s_figures s_voices s_attacks s_supports] H := hP
  have hD : va_D A [ceX3 h0 s_size s_heard s_mode s_cast s_figures s_voices s_attacks s_supports] := hD
  refine lv_lxor hx hb dX3_flipAttack_10 ?_
  refine va_put (D := G.1) (ci := 2) (v := .long (s_attacks ^^^ r7)) (ty := .long) (C := RX3) (T := TX3) (N := 8) hx hb hts ki_X3 tyX3 tyX3_ok nmX3 hown hK.1 hP hD hS 0 rfl rfl 6 (by decide) kf0 (fun _ h9 => h9) rfl (by decide +kernel) rfl rfl (Nat.le_of_ble_eq_true rfl) dX3_flipAttack_11 (fun H locs hP hD hS => ?_)
  have hP : va_P G.1 vwCl [ceX3 h0 s_size s_heard s_mode s_cast s_figures s_voices (s_attacks ^^^ r7) s_supports] H := hP
  have hD : va_D A [ceX3 h0 s_size s_heard s_mode s_cast s_figures s_voices (s_attacks ^^^ r7) s_supports] := hD
  exact W.vret hx hb hr (fun t ht hW => ⟨⟨(s_attacks ^^^ r7), rfl, h, ⟨by rw [ht]; exact hP, hD⟩⟩, hS.F ht⟩) hS.2.2 dX3_flipAttack_14
set_option maxHeartbeats 4000000 in
set_option maxRecDepth 100000 in
theorem c_X3_flipSupport (l : Launch) (G : hcG) (h0 : Nat) (sz : Nat) (s_size : Int32) (s_heard : Int32) (s_mode : Int32) (s_cast : Int64) (s_figures : Int64) (s_voices : Int64) (s_attacks : Int64) (s_supports : Int64) (x1 : Int32) (x2 : Int32) (post : Int64 → Prop) (h : wp_X3_flipSupport post s_supports x1 x2) : Met l yX3_flipSupport wsX3_flipSupport ({ frames := 1, cells := 0, slots := 0, locals := 21 }) (hcPc G [.ref h0, .int x1, .int x2] [ceX3 h0 s_size s_heard s_mode s_cast s_figures s_voices s_attacks s_supports] sz) (va_Qv (fun u : Int64 => post u) (hcB G (va_A [ceX3 h0 s_size s_heard s_mode s_cast s_figures s_voices s_attacks s_supports] sz) (fun u : Int64 => [ceX3 h0 s_size s_heard s_mode s_cast s_figures s_voices s_attacks u])) (va_A [ceX3 h0 s_size s_heard s_mode s_cast s_figures s_voices s_attacks s_supports] sz)) 0 0 (va_A [ceX3 h0 s_size s_heard s_mode s_cast s_figures s_voices s_attacks s_supports] sz) := by
  refine Met.ofW (cc := cX3_flipSupport) (maxL := 3) (ret := none) (by decide) rfl ?_
  intro p e s m args below meth c s₁ B hml hv
  obtain ⟨rfl, hsz, hP, hK, hD0⟩ := hv
  have hx := B.exec
  have hb := B.bytes
  have hr := B.returns
  have hts := atoms_spec (ws := wsX3_flipSupport) B.pre
  have hown : s.vm.findClass RX3 = some m.cls := findClass_of_methodNamed B.named
  have hlocks := B.notSynchronized
  subst hsz
  have hD := hD0.self (sz := s.heap.size)
  generalize hAe : va_A [ceX3 h0 s_size s_heard s_mode s_cast s_figures s_voices s_attacks s_supports] s.heap.size = A at hD ⊢
  have hA : ∀ q : Nat, s.heap.size ≤ q → A q := fun q h => by rw [← hAe]; exact Or.inr h
  have hS : va_S A s.heap s.heap [] := va_S.rf
  have hP : va_P G.1 vwCl [ceX3 h0 s_size s_heard s_mode s_cast s_figures s_voices s_attacks s_supports] s.heap := hP
  have hl := lv_entry ([.ref h0, .int x1, .int x2]) (n := 3) (Nat.le_of_ble_eq_true rfl)
  rw [lg_entry_eq]
  generalize (lg_sl ([.ref h0, .int x1, .int x2]) ++ List.replicate (3 - (lg_sl ([.ref h0, .int x1, .int x2])).length) Slot.unset).toArray = ls at hl ⊢
  have hl : lv_has ls 3 [(0, .ref h0), (1, .int x1), (2, .int x2)] := hl
  have kf0 := hts (.fieldLink RX3 34 "HallOfClaims$Hall" "supports" "J") (List.mem_of_getElem? (i := 1) (by decide +kernel))
  have ki_X3 : ∀ w ∈ u_ws RX3 TX3 8, w ∈ wsX3_flipSupport := by decide +kernel
  unfold wp_X3_flipSupport at h
  refine lv_aload_n hx hb dX3_flipSupport_0 rfl (lv_at hl 0 rfl) ?_
  refine lv_dup hx hb dX3_flipSupport_1 rfl ?_
  refine va_get (D := G.1) (ci := 2) (v := .long s_supports) (C := RX3) (T := TX3) (N := 8) hx hb hts ki_X3 hown hK.1 hP 0 rfl rfl 7 (by decide) kf0 (fun _ h9 => h9) rfl dX3_flipSupport_2 ?_
  refine lv_iload_n hx hb dX3_flipSupport_5 rfl (lv_at hl 1 rfl) ?_
  refine lv_iload_n hx hb dX3_flipSupport_6 rfl (lv_at hl 2 rfl) ?_
  refine hc_kl (wr := [ceX3 h0 s_size s_heard s_mode s_cast s_figures s_voices s_attacks s_supports]) (va_runS (As := [.int x1, .int x2]) (rest := [.long s_supports, .ref h0]) ⟨hx, hb, hml, hown, hts⟩ (c_X0_pair l G s.heap.size x1 x2 _ h) (va_cwS 2 hts gX3_flipSupport_X0_pair rfl rfl rfl (by decide +kernel) ⟨Nat.le_of_ble_eq_true rfl, Nat.le_of_ble_eq_true rfl⟩) (hc_pS hK hP hD [] rfl rfl) rfl rfl hl.1 rfl (lv_room (Nat.le_of_ble_eq_true rfl)) dX3_flipSupport_7 ⟨Nat.le_refl _, Nat.le_refl _⟩) hP hD hS hA [] [0] rfl rfl rfl (by decide) (fun r7 u H locs h hP hD hS => ?_)
  try dsimp only at h
  have hP : va_P G.1 vwCl [ceX3 h0 s_size s_heard s_mode s_cast s_figures s_voices s_attacks s_supports] H := hP
  have hD : va_D A [ceX3 h0 s_size s_heard s_mode s_cast s_figures s_voices s_attacks s_supports] := hD
  refine lv_lxor hx hb dX3_flipSupport_10 ?_
  refine va_put (D := G.1) (ci := 2) (v := .long (s_supports ^^^ r7)) (ty := .long) (C := RX3) (T := TX3) (N := 8) hx hb hts ki_X3 tyX3 tyX3_ok nmX3 hown hK.1 hP hD hS 0 rfl rfl 7 (by decide) kf0 (fun _ h9 => h9) rfl (by decide +kernel) rfl rfl (Nat.le_of_ble_eq_true rfl) dX3_flipSupport_11 (fun H locs hP hD hS => ?_)
  have hP : va_P G.1 vwCl [ceX3 h0 s_size s_heard s_mode s_cast s_figures s_voices s_attacks (s_supports ^^^ r7)] H := hP
  have hD : va_D A [ceX3 h0 s_size s_heard s_mode s_cast s_figures s_voices s_attacks (s_supports ^^^ r7)] := hD
  exact W.vret hx hb hr (fun t ht hW => ⟨⟨(s_supports ^^^ r7), rfl, h, ⟨by rw [ht]; exact hP, hD⟩⟩, hS.F ht⟩) hS.2.2 dX3_flipSupport_14
set_option maxHeartbeats 4000000 in
set_option maxRecDepth 100000 in
theorem c_X3_claimsOf (l : Launch) (G : hcG) (h0 : Nat) (sz : Nat) (s_size : Int32) (s_heard : Int32) (s_mode : Int32) (s_cast : Int64) (s_figures : Int64) (s_voices : Int64) (s_attacks : Int64) (s_supports : Int64) (x1 : Int32) (post : Int32 → Prop) (h : wp_X3_claimsOf post s_size s_voices x1) : Met l yX3_claimsOf wsX3_claimsOf ({ frames := 2, cells := 0, slots := 0, locals := 43 }) (hcPc G [.ref h0, .int x1] [ceX3 h0 s_size s_heard s_mode s_cast s_figures s_voices s_attacks s_supports] sz) (va_Qi (fun (r : Int32) (u : Unit) => post r) (hcB G (va_A [ceX3 h0 s_size s_heard s_mode s_cast s_figures s_voices s_attacks s_supports] sz) (fun u : Unit => [ceX3 h0 s_size s_heard s_mode s_cast s_figures s_voices s_attacks s_supports])) (va_A [ceX3 h0 s_size s_heard s_mode s_cast s_figures s_voices s_attacks s_supports] sz)) 0 0 (va_A [ceX3 h0 s_size s_heard s_mode s_cast s_figures s_voices s_attacks s_supports] sz) := by
  refine Met.ofW (cc := cX3_claimsOf) (maxL := 4) (ret := (some .int)) (by decide) rfl ?_
  intro p e s m args below meth c s₁ B hml hv
  obtain ⟨rfl, hsz, hP, hK, hD0⟩ := hv
  have hx := B.exec
  have hb := B.bytes
  have hr := B.returns
  have hts := atoms_spec (ws := wsX3_claimsOf) B.pre
  have hown : s.vm.findClass RX3 = some m.cls := findClass_of_methodNamed B.named
  have hlocks := B.notSynchronized
  subst hsz
  have hD := hD0.self (sz := s.heap.size)
  generalize hAe : va_A [ceX3 h0 s_size s_heard s_mode s_cast s_figures s_voices s_attacks s_supports] s.heap.size = A at hD ⊢
  have hA : ∀ q : Nat, s.heap.size ≤ q → A q := fun q h => by rw [← hAe]; exact Or.inr h
  have hS : va_S A s.heap s.heap [] := va_S.rf
  have hP : va_P G.1 vwCl [ceX3 h0 s_size s_heard s_mode s_cast s_figures s_voices s_attacks s_supports] s.heap := hP
  have hl := lv_entry ([.ref h0, .int x1]) (n := 4) (Nat.le_of_ble_eq_true rfl)
  rw [lg_entry_eq]
  generalize (lg_sl ([.ref h0, .int x1]) ++ List.replicate (4 - (lg_sl ([.ref h0, .int x1])).length) Slot.unset).toArray = ls at hl ⊢
  have hl : lv_has ls 4 [(0, .ref h0), (1, .int x1)] := hl
  have kf0 := hts (.fieldLink RX3 9 "HallOfClaims$Hall" "size" "I") (List.mem_of_getElem? (i := 1) (by decide +kernel))
  have ki_X3 : ∀ w ∈ u_ws RX3 TX3 8, w ∈ wsX3_claimsOf := by decide +kernel
  have w4 : ∀ (n : Nat) (v2 : Int32) (v3 : Int32) , wp_X3_claimsOf_4 post s_size s_voices x1 n v2 v3 → ∀ (H : Heap) (locs : List Loc) (ls : Array Slot), va_P G.1 vwCl [ceX3 h0 s_size s_heard s_mode s_cast s_figures s_voices s_attacks s_supports] H → va_D A [ceX3 h0 s_size s_heard s_mode s_cast s_figures s_voices s_attacks s_supports] → va_S A s.heap H locs → lv_has ls 4 [(0, .ref h0), (1, .int x1), (2, .int v2), (3, .int v3)] → W p l e (headSpec wsX3_claimsOf ({ frames := 2, cells := 0, slots := 0, locals := 43 })).room s m ([.ref h0, .int x1] : List Value).toArray below meth c H locs 0 0 (MQ below (va_Qi (fun (r : Int32) (u : Unit) => post r) (hcB G A (fun u : Unit => [ceX3 h0 s_size s_heard s_mode s_cast s_figures s_voices s_attacks s_supports])) A) ([.ref h0, .int x1] : List Value).toArray s 0 0 A) (F0 m 4 ls []) := by
    intro n
    induction n with
    | zero => intro v2 v3 h; exact h.elim
    | succ n ih =>
      intro v2 v3 h H locs ls hP hD hS hl
      unfold wp_X3_claimsOf_4 at h
      refine lv_iload_n hx hb dX3_claimsOf_4 rfl (lv_at hl 3 rfl) ?_
      refine lv_aload_n hx hb dX3_claimsOf_5 rfl (lv_at hl 0 rfl) ?_
      refine va_get (D := G.1) (ci := 2) (v := .int s_size) (C := RX3) (T := TX3) (N := 8) hx hb hts ki_X3 hown hK.1 hP 0 rfl rfl 0 (by decide) kf0 (fun _ h9 => h9) rfl dX3_claimsOf_6 ?_
      refine lv_icmp_ge (tgt := 33) hx hb dX3_claimsOf_9 (by decide) (fun c => ?_) (fun c => ?_)
      · replace h := h.1 c
        refine lv_iload_n hx hb dX3_claimsOf_33 rfl (lv_at hl 2 rfl) ?_
        exact W.iret (v := v2) hx hb hr (fun t ht hW => ⟨⟨_, (), rfl, h, ⟨by rw [ht]; exact hP, hD⟩⟩, hS.F ht⟩) hS.2.2 dX3_claimsOf_34
      · replace h := h.2 c
        refine lv_aload_n hx hb dX3_claimsOf_12 rfl (lv_at hl 0 rfl) ?_
        refine lv_iload_n hx hb dX3_claimsOf_13 rfl (lv_at hl 3 rfl) ?_
        refine hc_ki (wr := []) (va_runV (As := [.int v3]) (rest := []) ⟨hx, hb, hml, hown, hts⟩ (c_X3_speakerOf l G h0 H.size s_size s_heard s_mode s_cast s_figures s_voices s_attacks s_supports v3 _ h) (cwV 1 hts gX3_claimsOf_X3_speakerOf rfl rfl rfl (by decide +kernel) ⟨Nat.le_of_ble_eq_true rfl, Nat.le_of_ble_eq_true rfl⟩) (hc_pV hK hP hD [0] rfl rfl (ci := 2) 0 rfl rfl) rfl rfl hl.1 rfl (lv_room (Nat.le_of_ble_eq_true rfl)) dX3_claimsOf_14 ⟨Nat.le_refl _, Nat.le_refl _⟩) hP hD hS hA [0] [] rfl rfl rfl (by decide) (fun r14 u H locs h hP hD hS => ?_)
        try dsimp only at h
        have hP : va_P G.1 vwCl [ceX3 h0 s_size s_heard s_mode s_cast s_figures s_voices s_attacks s_supports] H := hP
        have hD : va_D A [ceX3 h0 s_size s_heard s_mode s_cast s_figures s_voices s_attacks s_supports] := hD
        refine lv_iload_n hx hb dX3_claimsOf_17 rfl (lv_at hl 1 rfl) ?_
        refine lv_icmp_ne (tgt := 27) hx hb dX3_claimsOf_18 (by decide) (fun c => ?_) (fun c => ?_)
        · replace h := h.1 c
          refine lv_iinc (v := v3 + nI 1) (lv' := [(3, .int (v3 + nI 1)), (0, .ref h0), (1, .int x1), (2, .int v2)]) hx hb dX3_claimsOf_27 hl (k := 3) rfl (congrArg (fun q => v3 + q) kc_1) (by decide) rfl (fun ls hl => ?_)
          refine lv_goto (tgt := 4) hx hb dX3_claimsOf_30 (by decide) ?_
          exact ih v2 (v3 + nI 1) h _ _ _ hP hD hS (lv_sub hl [1, 2, 3, 0] rfl)
        · replace h := h.2 c
          refine lv_iload_n hx hb dX3_claimsOf_21 rfl (lv_at hl 2 rfl) ?_
          refine lv_iconst (v := nI 1) hx hb dX3_claimsOf_22 kc_1 ?_
          refine lv_iload_n hx hb dX3_claimsOf_23 rfl (lv_at hl 3 rfl) ?_
          refine lv_ishl hx hb dX3_claimsOf_24 ?_
          refine lv_ior hx hb dX3_claimsOf_25 ?_
          refine lv_istore_n (lv' := [(2, .int (v2 ||| ((nI 1) <<< (v3 &&& 31)))), (0, .ref h0), (1, .int x1), (3, .int v3)]) hx hb dX3_claimsOf_26 rfl hl (by decide) rfl (fun ls hl => ?_)
          refine lv_iinc (v := v3 + nI 1) (lv' := [(3, .int (v3 + nI 1)), (2, .int (v2 ||| ((nI 1) <<< (v3 &&& 31)))), (0, .ref h0), (1, .int x1)]) hx hb dX3_claimsOf_27 hl (k := 3) rfl (congrArg (fun q => v3 + q) kc_1) (by decide) rfl (fun ls hl => ?_)
          refine lv_goto (tgt := 4) hx hb dX3_claimsOf_30 (by decide) ?_
          exact ih (v2 ||| ((nI 1) <<< (v3 &&& 31))) (v3 + nI 1) h _ _ _ hP hD hS (lv_sub hl [2, 3, 1, 0] rfl)
  unfold wp_X3_claimsOf at h
  refine lv_iconst (v := nI 0) hx hb dX3_claimsOf_0 kc_0 ?_
  refine lv_istore_n (lv' := [(2, .int (nI 0)), (0, .ref h0), (1, .int x1)]) hx hb dX3_claimsOf_1 rfl hl (by decide) rfl (fun ls hl => ?_)
  refine lv_iconst (v := nI 0) hx hb dX3_claimsOf_2 kc_0 ?_
  refine lv_istore_n (lv' := [(3, .int (nI 0)), (2, .int (nI 0)), (0, .ref h0), (1, .int x1)]) hx hb dX3_claimsOf_3 rfl hl (by decide) rfl (fun ls hl => ?_)
  obtain ⟨n4, h⟩ := h
  exact w4  n4 (nI 0) (nI 0) h _ _ _ hP hD hS (lv_sub hl [2, 3, 1, 0] rfl)
set_option maxHeartbeats 4000000 in
set_option maxRecDepth 100000 in
theorem c_X3_speakersThere (l : Launch) (G : hcG) (h0 : Nat) (sz : Nat) (s_size : Int32) (s_heard : Int32) (s_mode : Int32) (s_cast : Int64) (s_figures : Int64) (s_voices : Int64) (s_attacks : Int64) (s_supports : Int64) (post : Int32 → Prop) (h : wp_X3_speakersThere post s_size s_voices) : Met l yX3_speakersThere wsX3_speakersThere ({ frames := 3, cells := 0, slots := 0, locals := 66 }) (hcPc G [.ref h0] [ceX3 h0 s_size s_heard s_mode s_cast s_figures s_voices s_attacks s_supports] sz) (va_Qi (fun (r : Int32) (u : Unit) => post r) (hcB G (va_A [ceX3 h0 s_size s_heard s_mode s_cast s_figures s_voices s_attacks s_supports] sz) (fun u : Unit => [ceX3 h0 s_size s_heard s_mode s_cast s_figures s_voices s_attacks s_supports])) (va_A [ceX3 h0 s_size s_heard s_mode s_cast s_figures s_voices s_attacks s_supports] sz)) 0 0 (va_A [ceX3 h0 s_size s_heard s_mode s_cast s_figures s_voices s_attacks s_supports] sz) := by
  refine Met.ofW (cc := cX3_speakersThere) (maxL := 3) (ret := (some .int)) (by decide) rfl ?_
  intro p e s m args below meth c s₁ B hml hv
  obtain ⟨rfl, hsz, hP, hK, hD0⟩ := hv
  have hx := B.exec
  have hb := B.bytes
  have hr := B.returns
  have hts := atoms_spec (ws := wsX3_speakersThere) B.pre
  have hown : s.vm.findClass RX3 = some m.cls := findClass_of_methodNamed B.named
  have hlocks := B.notSynchronized
  subst hsz
  have hD := hD0.self (sz := s.heap.size)
  generalize hAe : va_A [ceX3 h0 s_size s_heard s_mode s_cast s_figures s_voices s_attacks s_supports] s.heap.size = A at hD ⊢
  have hA : ∀ q : Nat, s.heap.size ≤ q → A q := fun q h => by rw [← hAe]; exact Or.inr h
  have hS : va_S A s.heap s.heap [] := va_S.rf
  have hP : va_P G.1 vwCl [ceX3 h0 s_size s_heard s_mode s_cast s_figures s_voices s_attacks s_supports] s.heap := hP
  have hl := lv_entry ([.ref h0]) (n := 3) (Nat.le_of_ble_eq_true rfl)
  rw [lg_entry_eq]
  generalize (lg_sl ([.ref h0]) ++ List.replicate (3 - (lg_sl ([.ref h0])).length) Slot.unset).toArray = ls at hl ⊢
  have hl : lv_has ls 3 [(0, .ref h0)] := hl
  have w4 : ∀ (n : Nat) (v1 : Int32) (v2 : Int32) , wp_X3_speakersThere_4 post s_size s_voices n v1 v2 → ∀ (H : Heap) (locs : List Loc) (ls : Array Slot), va_P G.1 vwCl [ceX3 h0 s_size s_heard s_mode s_cast s_figures s_voices s_attacks s_supports] H → va_D A [ceX3 h0 s_size s_heard s_mode s_cast s_figures s_voices s_attacks s_supports] → va_S A s.heap H locs → lv_has ls 3 [(0, .ref h0), (1, .int v1), (2, .int v2)] → W p l e (headSpec wsX3_speakersThere ({ frames := 3, cells := 0, slots := 0, locals := 66 })).room s m ([.ref h0] : List Value).toArray below meth c H locs 0 0 (MQ below (va_Qi (fun (r : Int32) (u : Unit) => post r) (hcB G A (fun u : Unit => [ceX3 h0 s_size s_heard s_mode s_cast s_figures s_voices s_attacks s_supports])) A) ([.ref h0] : List Value).toArray s 0 0 A) (F0 m 4 ls []) := by
    intro n
    induction n with
    | zero => intro v1 v2 h; exact h.elim
    | succ n ih =>
      intro v1 v2 h H locs ls hP hD hS hl
      unfold wp_X3_speakersThere_4 at h
      refine lv_iload_n hx hb dX3_speakersThere_4 rfl (lv_at hl 2 rfl) ?_
      refine lv_bipush (v := nI 10) hx hb dX3_speakersThere_5 kb_10 ?_
      refine lv_icmp_ge (tgt := 27) hx hb dX3_speakersThere_7 (by decide) (fun c => ?_) (fun c => ?_)
      · replace h := h.1 c
        refine lv_iload_n hx hb dX3_speakersThere_27 rfl (lv_at hl 1 rfl) ?_
        exact W.iret (v := v1) hx hb hr (fun t ht hW => ⟨⟨_, (), rfl, h, ⟨by rw [ht]; exact hP, hD⟩⟩, hS.F ht⟩) hS.2.2 dX3_speakersThere_28
      · replace h := h.2 c
        refine lv_aload_n hx hb dX3_speakersThere_10 rfl (lv_at hl 0 rfl) ?_
        refine lv_iload_n hx hb dX3_speakersThere_11 rfl (lv_at hl 2 rfl) ?_
        refine hc_ki (wr := []) (va_runV (As := [.int v2]) (rest := []) ⟨hx, hb, hml, hown, hts⟩ (c_X3_claimsOf l G h0 H.size s_size s_heard s_mode s_cast s_figures s_voices s_attacks s_supports v2 _ h) (cwV 1 hts gX3_speakersThere_X3_claimsOf rfl rfl rfl (by decide +kernel) ⟨Nat.le_of_ble_eq_true rfl, Nat.le_of_ble_eq_true rfl⟩) (hc_pV hK hP hD [0] rfl rfl (ci := 2) 0 rfl rfl) rfl rfl hl.1 rfl (lv_room (Nat.le_of_ble_eq_true rfl)) dX3_speakersThere_12 ⟨Nat.le_refl _, Nat.le_refl _⟩) hP hD hS hA [0] [] rfl rfl rfl (by decide) (fun r12 u H locs h hP hD hS => ?_)
        try dsimp only at h
        have hP : va_P G.1 vwCl [ceX3 h0 s_size s_heard s_mode s_cast s_figures s_voices s_attacks s_supports] H := hP
        have hD : va_D A [ceX3 h0 s_size s_heard s_mode s_cast s_figures s_voices s_attacks s_supports] := hD
        refine lv_if_eq (tgt := 21) hx hb dX3_speakersThere_15 (by decide) (fun c => ?_) (fun c => ?_)
        · replace h := h.1 c
          refine lv_iinc (v := v2 + nI 1) (lv' := [(2, .int (v2 + nI 1)), (0, .ref h0), (1, .int v1)]) hx hb dX3_speakersThere_21 hl (k := 2) rfl (congrArg (fun q => v2 + q) kc_1) (by decide) rfl (fun ls hl => ?_)
          refine lv_goto (tgt := 4) hx hb dX3_speakersThere_24 (by decide) ?_
          exact ih v1 (v2 + nI 1) h _ _ _ hP hD hS (lv_sub hl [1, 2, 0] rfl)
        · replace h := h.2 c
          refine lv_iinc (v := v1 + nI 1) (lv' := [(1, .int (v1 + nI 1)), (0, .ref h0), (2, .int v2)]) hx hb dX3_speakersThere_18 hl (k := 1) rfl (congrArg (fun q => v1 + q) kc_1) (by decide) rfl (fun ls hl => ?_)
          refine lv_iinc (v := v2 + nI 1) (lv' := [(2, .int (v2 + nI 1)), (1, .int (v1 + nI 1)), (0, .ref h0)]) hx hb dX3_speakersThere_21 hl (k := 2) rfl (congrArg (fun q => v2 + q) kc_1) (by decide) rfl (fun ls hl => ?_)
          refine lv_goto (tgt := 4) hx hb dX3_speakersThere_24 (by decide) ?_
          exact ih (v1 + nI 1) (v2 + nI 1) h _ _ _ hP hD hS (lv_sub hl [2, 1, 0] rfl)
  unfold wp_X3_speakersThere at h
  refine lv_iconst (v := nI 0) hx hb dX3_speakersThere_0 kc_0 ?_
  refine lv_istore_n (lv' := [(1, .int (nI 0)), (0, .ref h0)]) hx hb dX3_speakersThere_1 rfl hl (by decide) rfl (fun ls hl => ?_)
  refine lv_iconst (v := nI 0) hx hb dX3_speakersThere_2 kc_0 ?_
  refine lv_istore_n (lv' := [(2, .int (nI 0)), (1, .int (nI 0)), (0, .ref h0)]) hx hb dX3_speakersThere_3 rfl hl (by decide) rfl (fun ls hl => ?_)
  obtain ⟨n4, h⟩ := h
  exact w4  n4 (nI 0) (nI 0) h _ _ _ hP hD hS (lv_sub hl [2, 1, 0] rfl)
set_option maxHeartbeats 4000000 in
set_option maxRecDepth 100000 in
theorem c_X3_speakerAt (l : Launch) (G : hcG) (h0 : Nat) (sz : Nat) (s_size : Int32) (s_heard : Int32) (s_mode : Int32) (s_cast : Int64) (s_figures : Int64) (s_voices : Int64) (s_attacks : Int64) (s_supports : Int64) (x1 : Int32) (post : Int32 → Prop) (h : wp_X3_speakerAt post s_size s_voices x1) : Met l yX3_speakerAt wsX3_speakerAt ({ frames := 3, cells := 0, slots := 0, locals := 66 }) (hcPc G [.ref h0, .int x1] [ceX3 h0 s_size s_heard s_mode s_cast s_figures s_voices s_attacks s_supports] sz) (va_Qi (fun (r : Int32) (u : Unit) => post r) (hcB G (va_A [ceX3 h0 s_size s_heard s_mode s_cast s_figures s_voices s_attacks s_supports] sz) (fun u : Unit => [ceX3 h0 s_size s_heard s_mode s_cast s_figures s_voices s_attacks s_supports])) (va_A [ceX3 h0 s_size s_heard s_mode s_cast s_figures s_voices s_attacks s_supports] sz)) 0 0 (va_A [ceX3 h0 s_size s_heard s_mode s_cast s_figures s_voices s_attacks s_supports] sz) := by
  refine Met.ofW (cc := cX3_speakerAt) (maxL := 4) (ret := (some .int)) (by decide) rfl ?_
  intro p e s m args below meth c s₁ B hml hv
  obtain ⟨rfl, hsz, hP, hK, hD0⟩ := hv
  have hx := B.exec
  have hb := B.bytes
  have hr := B.returns
  have hts := atoms_spec (ws := wsX3_speakerAt) B.pre
  have hown : s.vm.findClass RX3 = some m.cls := findClass_of_methodNamed B.named
  have hlocks := B.notSynchronized
  subst hsz
  have hD := hD0.self (sz := s.heap.size)
  generalize hAe : va_A [ceX3 h0 s_size s_heard s_mode s_cast s_figures s_voices s_attacks s_supports] s.heap.size = A at hD ⊢
  have hA : ∀ q : Nat, s.heap.size ≤ q → A q := fun q h => by rw [← hAe]; exact Or.inr h
  have hS : va_S A s.heap s.heap [] := va_S.rf
  have hP : va_P G.1 vwCl [ceX3 h0 s_size s_heard s_mode s_cast s_figures s_voices s_attacks s_supports] s.heap := hP
  have hl := lv_entry ([.ref h0, .int x1]) (n := 4) (Nat.le_of_ble_eq_true rfl)
  rw [lg_entry_eq]
  generalize (lg_sl ([.ref h0, .int x1]) ++ List.replicate (4 - (lg_sl ([.ref h0, .int x1])).length) Slot.unset).toArray = ls at hl ⊢
  have hl : lv_has ls 4 [(0, .ref h0), (1, .int x1)] := hl
  have w4 : ∀ (n : Nat) (v2 : Int32) (v3 : Int32) , wp_X3_speakerAt_4 post s_size s_voices x1 n v2 v3 → ∀ (H : Heap) (locs : List Loc) (ls : Array Slot), va_P G.1 vwCl [ceX3 h0 s_size s_heard s_mode s_cast s_figures s_voices s_attacks s_supports] H → va_D A [ceX3 h0 s_size s_heard s_mode s_cast s_figures s_voices s_attacks s_supports] → va_S A s.heap H locs → lv_has ls 4 [(0, .ref h0), (1, .int x1), (2, .int v2), (3, .int v3)] → W p l e (headSpec wsX3_speakerAt ({ frames := 3, cells := 0, slots := 0, locals := 66 })).room s m ([.ref h0, .int x1] : List Value).toArray below meth c H locs 0 0 (MQ below (va_Qi (fun (r : Int32) (u : Unit) => post r) (hcB G A (fun u : Unit => [ceX3 h0 s_size s_heard s_mode s_cast s_figures s_voices s_attacks s_supports])) A) ([.ref h0, .int x1] : List Value).toArray s 0 0 A) (F0 m 4 ls []) := by
    intro n
    induction n with
    | zero => intro v2 v3 h; exact h.elim
    | succ n ih =>
      intro v2 v3 h H locs ls hP hD hS hl
      unfold wp_X3_speakerAt_4 at h
      refine lv_iload_n hx hb dX3_speakerAt_4 rfl (lv_at hl 3 rfl) ?_
      refine lv_bipush (v := nI 10) hx hb dX3_speakerAt_5 kb_10 ?_
      refine lv_icmp_ge (tgt := 34) hx hb dX3_speakerAt_7 (by decide) (fun c => ?_) (fun c => ?_)
      · replace h := h.1 c
        refine lv_iconst (v := (-1 : Int32)) hx hb dX3_speakerAt_34 kc_m1 ?_
        exact W.iret (v := (-1 : Int32)) hx hb hr (fun t ht hW => ⟨⟨_, (), rfl, h, ⟨by rw [ht]; exact hP, hD⟩⟩, hS.F ht⟩) hS.2.2 dX3_speakerAt_35
      · replace h := h.2 c
        refine lv_aload_n hx hb dX3_speakerAt_10 rfl (lv_at hl 0 rfl) ?_
        refine lv_iload_n hx hb dX3_speakerAt_11 rfl (lv_at hl 3 rfl) ?_
        refine hc_ki (wr := []) (va_runV (As := [.int v3]) (rest := []) ⟨hx, hb, hml, hown, hts⟩ (c_X3_claimsOf l G h0 H.size s_size s_heard s_mode s_cast s_figures s_voices s_attacks s_supports v3 _ h) (cwV 1 hts gX3_speakerAt_X3_claimsOf rfl rfl rfl (by decide +kernel) ⟨Nat.le_of_ble_eq_true rfl, Nat.le_of_ble_eq_true rfl⟩) (hc_pV hK hP hD [0] rfl rfl (ci := 2) 0 rfl rfl) rfl rfl hl.1 rfl (lv_room (Nat.le_of_ble_eq_true rfl)) dX3_speakerAt_12 ⟨Nat.le_refl _, Nat.le_refl _⟩) hP hD hS hA [0] [] rfl rfl rfl (by decide) (fun r12 u H locs h hP hD hS => ?_)
        try dsimp only at h
        have hP : va_P G.1 vwCl [ceX3 h0 s_size s_heard s_mode s_cast s_figures s_voices s_attacks s_supports] H := hP
        have hD : va_D A [ceX3 h0 s_size s_heard s_mode s_cast s_figures s_voices s_attacks s_supports] := hD
        refine lv_if_eq (tgt := 28) hx hb dX3_speakerAt_15 (by decide) (fun c => ?_) (fun c => ?_)
        · replace h := h.1 c
          refine lv_iinc (v := v3 + nI 1) (lv' := [(3, .int (v3 + nI 1)), (0, .ref h0), (1, .int x1), (2, .int v2)]) hx hb dX3_speakerAt_28 hl (k := 3) rfl (congrArg (fun q => v3 + q) kc_1) (by decide) rfl (fun ls hl => ?_)
          refine lv_goto (tgt := 4) hx hb dX3_speakerAt_31 (by decide) ?_
          exact ih v2 (v3 + nI 1) h _ _ _ hP hD hS (lv_sub hl [1, 2, 3, 0] rfl)
        · replace h := h.2 c
          refine lv_iload_n hx hb dX3_speakerAt_18 rfl (lv_at hl 2 rfl) ?_
          refine lv_iload_n hx hb dX3_speakerAt_19 rfl (lv_at hl 1 rfl) ?_
          refine lv_icmp_ne (tgt := 25) hx hb dX3_speakerAt_20 (by decide) (fun c => ?_) (fun c => ?_)
          · replace h := h.1 c
            refine lv_iinc (v := v2 + nI 1) (lv' := [(2, .int (v2 + nI 1)), (0, .ref h0), (1, .int x1), (3, .int v3)]) hx hb dX3_speakerAt_25 hl (k := 2) rfl (congrArg (fun q => v2 + q) kc_1) (by decide) rfl (fun ls hl => ?_)
            refine lv_iinc (v := v3 + nI 1) (lv' := [(3, .int (v3 + nI 1)), (2, .int (v2 + nI 1)), (0, .ref h0), (1, .int x1)]) hx hb dX3_speakerAt_28 hl (k := 3) rfl (congrArg (fun q => v3 + q) kc_1) (by decide) rfl (fun ls hl => ?_)
            refine lv_goto (tgt := 4) hx hb dX3_speakerAt_31 (by decide) ?_
            exact ih (v2 + nI 1) (v3 + nI 1) h _ _ _ hP hD hS (lv_sub hl [2, 3, 1, 0] rfl)
          · replace h := h.2 c
            refine lv_iload_n hx hb dX3_speakerAt_23 rfl (lv_at hl 3 rfl) ?_
            exact W.iret (v := v3) hx hb hr (fun t ht hW => ⟨⟨_, (), rfl, h, ⟨by rw [ht]; exact hP, hD⟩⟩, hS.F ht⟩) hS.2.2 dX3_speakerAt_24
  unfold wp_X3_speakerAt at h
  refine lv_iconst (v := nI 0) hx hb dX3_speakerAt_0 kc_0 ?_
  refine lv_istore_n (lv' := [(2, .int (nI 0)), (0, .ref h0), (1, .int x1)]) hx hb dX3_speakerAt_1 rfl hl (by decide) rfl (fun ls hl => ?_)
  refine lv_iconst (v := nI 0) hx hb dX3_speakerAt_2 kc_0 ?_
  refine lv_istore_n (lv' := [(3, .int (nI 0)), (2, .int (nI 0)), (0, .ref h0), (1, .int x1)]) hx hb dX3_speakerAt_3 rfl hl (by decide) rfl (fun ls hl => ?_)
  obtain ⟨n4, h⟩ := h
  exact w4  n4 (nI 0) (nI 0) h _ _ _ hP hD hS (lv_sub hl [2, 3, 1, 0] rfl)
set_option maxHeartbeats 4000000 in
set_option maxRecDepth 100000 in
theorem c_X3_greatestFigure (l : Launch) (G : hcG) (h0 : Nat) (sz : Nat) (s_size : Int32) (s_heard : Int32) (s_mode : Int32) (s_cast : Int64) (s_figures : Int64) (s_voices : Int64) (s_attacks : Int64) (s_supports : Int64) (x1 : Int32) (post : Int32 → Prop) (h : wp_X3_greatestFigure post s_size s_figures x1) : Met l yX3_greatestFigure wsX3_greatestFigure ({ frames := 2, cells := 0, slots := 0, locals := 43 }) (hcPc G [.ref h0, .int x1] [ceX3 h0 s_size s_heard s_mode s_cast s_figures s_voices s_attacks s_supports] sz) (va_Qi (fun (r : Int32) (u : Unit) => post r) (hcB G (va_A [ceX3 h0 s_size s_heard s_mode s_cast s_figures s_voices s_attacks s_supports] sz) (fun u : Unit => [ceX3 h0 s_size s_heard s_mode s_cast s_figures s_voices s_attacks s_supports])) (va_A [ceX3 h0 s_size s_heard s_mode s_cast s_figures s_voices s_attacks s_supports] sz)) 0 0 (va_A [ceX3 h0 s_size s_heard s_mode s_cast s_figures s_voices s_attacks s_supports] sz) := by
  refine Met.ofW (cc := cX3_greatestFigure) (maxL := 4) (ret := (some .int)) (by decide) rfl ?_
  intro p e s m args below meth c s₁ B hml hv
  obtain ⟨rfl, hsz, hP, hK, hD0⟩ := hv
  have hx := B.exec
  have hb := B.bytes
  have hr := B.returns
  have hts := atoms_spec (ws := wsX3_greatestFigure) B.pre
  have hown : s.vm.findClass RX3 = some m.cls := findClass_of_methodNamed B.named
  have hlocks := B.notSynchronized
  subst hsz
  have hD := hD0.self (sz := s.heap.size)
  generalize hAe : va_A [ceX3 h0 s_size s_heard s_mode s_cast s_figures s_voices s_attacks s_supports] s.heap.size = A at hD ⊢
  have hA : ∀ q : Nat, s.heap.size ≤ q → A q := fun q h => by rw [← hAe]; exact Or.inr h
  have hS : va_S A s.heap s.heap [] := va_S.rf
  have hP : va_P G.1 vwCl [ceX3 h0 s_size s_heard s_mode s_cast s_figures s_voices s_attacks s_supports] s.heap := hP
  have hl := lv_entry ([.ref h0, .int x1]) (n := 4) (Nat.le_of_ble_eq_true rfl)
  rw [lg_entry_eq]
  generalize (lg_sl ([.ref h0, .int x1]) ++ List.replicate (4 - (lg_sl ([.ref h0, .int x1])).length) Slot.unset).toArray = ls at hl ⊢
  have hl : lv_has ls 4 [(0, .ref h0), (1, .int x1)] := hl
  have kf0 := hts (.fieldLink RX3 9 "HallOfClaims$Hall" "size" "I") (List.mem_of_getElem? (i := 1) (by decide +kernel))
  have kf1 := hts (.methodLink RX3 69 Lib.Math.max.name) (List.mem_of_getElem? (i := 2) (by decide +kernel))
  have kf2 := hts (.static Lib.Math.max.name) (List.mem_of_getElem? (i := 3) (by decide +kernel))
  have kf3 := hts (.initialized "java/lang/Math") (List.mem_of_getElem? (i := 4) (by decide +kernel))
  have kf4 := hts (.code Lib.Math.max.name Lib.Math.max.code 2 (some .int)) (List.mem_of_getElem? (i := 5) (by decide +kernel))
  have ki_X3 : ∀ w ∈ u_ws RX3 TX3 8, w ∈ wsX3_greatestFigure := by decide +kernel
  have w4 : ∀ (n : Nat) (v2 : Int32) (v3 : Int32) , wp_X3_greatestFigure_4 post s_size s_figures x1 n v2 v3 → ∀ (H : Heap) (locs : List Loc) (ls : Array Slot), va_P G.1 vwCl [ceX3 h0 s_size s_heard s_mode s_cast s_figures s_voices s_attacks s_supports] H → va_D A [ceX3 h0 s_size s_heard s_mode s_cast s_figures s_voices s_attacks s_supports] → va_S A s.heap H locs → lv_has ls 4 [(0, .ref h0), (1, .int x1), (2, .int v2), (3, .int v3)] → W p l e (headSpec wsX3_greatestFigure ({ frames := 2, cells := 0, slots := 0, locals := 43 })).room s m ([.ref h0, .int x1] : List Value).toArray below meth c H locs 0 0 (MQ below (va_Qi (fun (r : Int32) (u : Unit) => post r) (hcB G A (fun u : Unit => [ceX3 h0 s_size s_heard s_mode s_cast s_figures s_voices s_attacks s_supports])) A) ([.ref h0, .int x1] : List Value).toArray s 0 0 A) (F0 m 4 ls []) := by
    intro n
    induction n with
    | zero => intro v2 v3 h; exact h.elim
    | succ n ih =>
      intro v2 v3 h H locs ls hP hD hS hl
      unfold wp_X3_greatestFigure_4 at h
      refine lv_iload_n hx hb dX3_greatestFigure_4 rfl (lv_at hl 3 rfl) ?_
      refine lv_aload_n hx hb dX3_greatestFigure_5 rfl (lv_at hl 0 rfl) ?_
      refine va_get (D := G.1) (ci := 2) (v := .int s_size) (C := RX3) (T := TX3) (N := 8) hx hb hts ki_X3 hown hK.1 hP 0 rfl rfl 0 (by decide) kf0 (fun _ h9 => h9) rfl dX3_greatestFigure_6 ?_
      refine lv_icmp_ge (tgt := 36) hx hb dX3_greatestFigure_9 (by decide) (fun c => ?_) (fun c => ?_)
      · replace h := h.1 c
        refine lv_iload_n hx hb dX3_greatestFigure_36 rfl (lv_at hl 2 rfl) ?_
        exact W.iret (v := v2) hx hb hr (fun t ht hW => ⟨⟨_, (), rfl, h, ⟨by rw [ht]; exact hP, hD⟩⟩, hS.F ht⟩) hS.2.2 dX3_greatestFigure_37
      · replace h := h.2 c
        refine lv_iload_n hx hb dX3_greatestFigure_12 rfl (lv_at hl 1 rfl) ?_
        refine lv_iload_n hx hb dX3_greatestFigure_13 rfl (lv_at hl 3 rfl) ?_
        refine hc_ki (wr := [ceX3 h0 s_size s_heard s_mode s_cast s_figures s_voices s_attacks s_supports]) (va_runS (As := [.int x1, .int v3]) (rest := []) ⟨hx, hb, hml, hown, hts⟩ (c_X0_contains l G H.size x1 v3 _ h) (va_cwS 2 hts gX3_greatestFigure_X0_contains rfl rfl rfl (by decide +kernel) ⟨Nat.le_of_ble_eq_true rfl, Nat.le_of_ble_eq_true rfl⟩) (hc_pS hK hP hD [] rfl rfl) rfl rfl hl.1 rfl (lv_room (Nat.le_of_ble_eq_true rfl)) dX3_greatestFigure_14 ⟨Nat.le_refl _, Nat.le_refl _⟩) hP hD hS hA [] [0] rfl rfl rfl (by decide) (fun r14 u H locs h hP hD hS => ?_)
        try dsimp only at h
        have hP : va_P G.1 vwCl [ceX3 h0 s_size s_heard s_mode s_cast s_figures s_voices s_attacks s_supports] H := hP
        have hD : va_D A [ceX3 h0 s_size s_heard s_mode s_cast s_figures s_voices s_attacks s_supports] := hD
        refine lv_if_eq (tgt := 30) hx hb dX3_greatestFigure_17 (by decide) (fun c => ?_) (fun c => ?_)
        · replace h := h.1 c
          refine lv_iinc (v := v3 + nI 1) (lv' := [(3, .int (v3 + nI 1)), (0, .ref h0), (1, .int x1), (2, .int v2)]) hx hb dX3_greatestFigure_30 hl (k := 3) rfl (congrArg (fun q => v3 + q) kc_1) (by decide) rfl (fun ls hl => ?_)
          refine lv_goto (tgt := 4) hx hb dX3_greatestFigure_33 (by decide) ?_
          exact ih v2 (v3 + nI 1) h _ _ _ hP hD hS (lv_sub hl [1, 2, 3, 0] rfl)
        · replace h := h.2 c
          refine lv_iload_n hx hb dX3_greatestFigure_20 rfl (lv_at hl 2 rfl) ?_
          refine lv_aload_n hx hb dX3_greatestFigure_21 rfl (lv_at hl 0 rfl) ?_
          refine lv_iload_n hx hb dX3_greatestFigure_22 rfl (lv_at hl 3 rfl) ?_
          refine hc_ki (wr := []) (va_runV (As := [.int v3]) (rest := [.int v2]) ⟨hx, hb, hml, hown, hts⟩ (c_X3_figureOf l G h0 H.size s_size s_heard s_mode s_cast s_figures s_voices s_attacks s_supports v3 _ h) (cwV 1 hts gX3_greatestFigure_X3_figureOf rfl rfl rfl (by decide +kernel) ⟨Nat.le_of_ble_eq_true rfl, Nat.le_of_ble_eq_true rfl⟩) (hc_pV hK hP hD [0] rfl rfl (ci := 2) 0 rfl rfl) rfl rfl hl.1 rfl (lv_room (Nat.le_of_ble_eq_true rfl)) dX3_greatestFigure_23 ⟨Nat.le_refl _, Nat.le_refl _⟩) hP hD hS hA [0] [] rfl rfl rfl (by decide) (fun r23 u H locs h hP hD hS => ?_)
          try dsimp only at h
          have hP : va_P G.1 vwCl [ceX3 h0 s_size s_heard s_mode s_cast s_figures s_voices s_attacks s_supports] H := hP
          have hD : va_D A [ceX3 h0 s_size s_heard s_mode s_cast s_figures s_voices s_attacks s_supports] := hD
          refine va_mmax hx hb (hml.trans hl.1.symm) hown kf1 kf2 kf3 kf4 (Nat.le_of_ble_eq_true rfl) (Nat.le_of_ble_eq_true rfl) (Nat.le_of_ble_eq_true rfl) (Nat.le_of_ble_eq_true rfl) dX3_greatestFigure_26 ?_
          refine lv_istore_n (lv' := [(2, .int ((if v2 < r23 then r23 else v2))), (0, .ref h0), (1, .int x1), (3, .int v3)]) hx hb dX3_greatestFigure_29 rfl hl (by decide) rfl (fun ls hl => ?_)
          refine lv_iinc (v := v3 + nI 1) (lv' := [(3, .int (v3 + nI 1)), (2, .int ((if v2 < r23 then r23 else v2))), (0, .ref h0), (1, .int x1)]) hx hb dX3_greatestFigure_30 hl (k := 3) rfl (congrArg (fun q => v3 + q) kc_1) (by decide) rfl (fun ls hl => ?_)
          refine lv_goto (tgt := 4) hx hb dX3_greatestFigure_33 (by decide) ?_
          exact ih ((if v2 < r23 then r23 else v2)) (v3 + nI 1) h _ _ _ hP hD hS (lv_sub hl [2, 3, 1, 0] rfl)
  unfold wp_X3_greatestFigure at h
  refine lv_iconst (v := nI 0) hx hb dX3_greatestFigure_0 kc_0 ?_
  refine lv_istore_n (lv' := [(2, .int (nI 0)), (0, .ref h0), (1, .int x1)]) hx hb dX3_greatestFigure_1 rfl hl (by decide) rfl (fun ls hl => ?_)
  refine lv_iconst (v := nI 0) hx hb dX3_greatestFigure_2 kc_0 ?_
  refine lv_istore_n (lv' := [(3, .int (nI 0)), (2, .int (nI 0)), (0, .ref h0), (1, .int x1)]) hx hb dX3_greatestFigure_3 rfl hl (by decide) rfl (fun ls hl => ?_)
  obtain ⟨n4, h⟩ := h
  exact w4  n4 (nI 0) (nI 0) h _ _ _ hP hD hS (lv_sub hl [2, 3, 1, 0] rfl)
set_option maxHeartbeats 4000000 in
set_option maxRecDepth 100000 in
theorem c_X6_at (l : Launch) (G : hcG) (h0 : Nat) (a_numbers : Nat) (sz : Nat) (n_numbers : Nat) (s_length : Int32) (g_numbers : Nat → Int32) (x1 : Int32) (x2 : Int32) (post : Int32 → Prop) (h : wp_X6_at post n_numbers g_numbers s_length x1 x2) : Met l yX6_at wsX6_at ({ frames := 0, cells := 0, slots := 0, locals := 0 }) (hcPc G [.ref h0, .int x1, .int x2] [ceX6 h0 a_numbers s_length, caI G a_numbers n_numbers g_numbers] sz) (va_Qi (fun (r : Int32) (u : Unit) => post r) (hcB G (va_A [ceX6 h0 a_numbers s_length, caI G a_numbers n_numbers g_numbers] sz) (fun u : Unit => [ceX6 h0 a_numbers s_length, caI G a_numbers n_numbers g_numbers])) (va_A [ceX6 h0 a_numbers s_length, caI G a_numbers n_numbers g_numbers] sz)) 0 0 (va_A [ceX6 h0 a_numbers s_length, caI G a_numbers n_numbers g_numbers] sz) := by
  refine Met.ofW (cc := cX6_at) (maxL := 3) (ret := (some .int)) (by decide) rfl ?_
  intro p e s m args below meth c s₁ B hml hv
  obtain ⟨rfl, hsz, hP, hK, hD0⟩ := hv
  have hx := B.exec
  have hb := B.bytes
  have hr := B.returns
  have hts := atoms_spec (ws := wsX6_at) B.pre
  have hown : s.vm.findClass RX6 = some m.cls := findClass_of_methodNamed B.named
  have hlocks := B.notSynchronized
  subst hsz
  have hD := hD0.self (sz := s.heap.size)
  generalize hAe : va_A [ceX6 h0 a_numbers s_length, caI G a_numbers n_numbers g_numbers] s.heap.size = A at hD ⊢
  have hA : ∀ q : Nat, s.heap.size ≤ q → A q := fun q h => by rw [← hAe]; exact Or.inr h
  have hS : va_S A s.heap s.heap [] := va_S.rf
  have hP : va_P G.1 vwCl [ceX6 h0 a_numbers s_length, caI G a_numbers n_numbers g_numbers] s.heap := hP
  have hl := lv_entry ([.ref h0, .int x1, .int x2]) (n := 3) (Nat.le_of_ble_eq_true rfl)
  rw [lg_entry_eq]
  generalize (lg_sl ([.ref h0, .int x1, .int x2]) ++ List.replicate (3 - (lg_sl ([.ref h0, .int x1, .int x2])).length) Slot.unset).toArray = ls at hl ⊢
  have hl : lv_has ls 3 [(0, .ref h0), (1, .int x1), (2, .int x2)] := hl
  have kf0 := hts (.fieldLink RX6 7 "HallOfClaims$Row" "length" "I") (List.mem_of_getElem? (i := 1) (by decide +kernel))
  have kf1 := hts (.fieldLink RX6 19 "HallOfClaims$Row" "numbers" "[I") (List.mem_of_getElem? (i := 2) (by decide +kernel))
  have ki_X6 : ∀ w ∈ u_ws RX6 TX6 2, w ∈ wsX6_at := by decide +kernel
  unfold wp_X6_at at h
  refine lv_iload_n hx hb dX6_at_0 rfl (lv_at hl 1 rfl) ?_
  refine lv_if_lt (tgt := 30) hx hb dX6_at_1 (by decide) (fun c => ?_) (fun c => ?_)
  · replace h := h.1 c
    refine lv_iload_n hx hb dX6_at_30 rfl (lv_at hl 2 rfl) ?_
    exact W.iret (v := x2) hx hb hr (fun t ht hW => ⟨⟨_, (), rfl, h, ⟨by rw [ht]; exact hP, hD⟩⟩, hS.F ht⟩) hS.2.2 dX6_at_31
  · replace h := h.2 c
    refine lv_iload_n hx hb dX6_at_4 rfl (lv_at hl 1 rfl) ?_
    refine lv_aload_n hx hb dX6_at_5 rfl (lv_at hl 0 rfl) ?_
    refine va_get (D := G.1) (ci := 4) (v := .int s_length) (C := RX6) (T := TX6) (N := 2) hx hb hts ki_X6 hown hK.1 hP 0 rfl rfl 1 (by decide) kf0 (fun _ h9 => h9) rfl dX6_at_6 ?_
    refine lv_icmp_ge (tgt := 30) hx hb dX6_at_9 (by decide) (fun c => ?_) (fun c => ?_)
    · replace h := h.1 c
      refine lv_iload_n hx hb dX6_at_30 rfl (lv_at hl 2 rfl) ?_
      exact W.iret (v := x2) hx hb hr (fun t ht hW => ⟨⟨_, (), rfl, h, ⟨by rw [ht]; exact hP, hD⟩⟩, hS.F ht⟩) hS.2.2 dX6_at_31
    · replace h := h.2 c
      refine lv_iload_n hx hb dX6_at_12 rfl (lv_at hl 1 rfl) ?_
      refine lv_aload_n hx hb dX6_at_13 rfl (lv_at hl 0 rfl) ?_
      refine va_get (D := G.1) (ci := 4) (v := .ref a_numbers) (C := RX6) (T := TX6) (N := 2) hx hb hts ki_X6 hown hK.1 hP 0 rfl rfl 0 (by decide) kf1 (fun _ h9 => h9) rfl dX6_at_14 ?_
      refine va_alen hx hb hK.1 hP 1 0 rfl rfl (v := nI n_numbers) rfl dX6_at_17 ?_
      refine lv_icmp_ge (tgt := 30) hx hb dX6_at_18 (by decide) (fun c => ?_) (fun c => ?_)
      · replace h := h.1 c
        refine lv_iload_n hx hb dX6_at_30 rfl (lv_at hl 2 rfl) ?_
        exact W.iret (v := x2) hx hb hr (fun t ht hW => ⟨⟨_, (), rfl, h, ⟨by rw [ht]; exact hP, hD⟩⟩, hS.F ht⟩) hS.2.2 dX6_at_31
      · replace h := h.2 c
        refine lv_aload_n hx hb dX6_at_21 rfl (lv_at hl 0 rfl) ?_
        refine va_get (D := G.1) (ci := 4) (v := .ref a_numbers) (C := RX6) (T := TX6) (N := 2) hx hb hts ki_X6 hown hK.1 hP 0 rfl rfl 0 (by decide) kf1 (fun _ h9 => h9) rfl dX6_at_22 ?_
        refine lv_iload_n hx hb dX6_at_25 rfl (lv_at hl 1 rfl) ?_
        have hin := h.1
        replace h := h.2
        refine va_iald hx hb hK.1 hP 1 0 rfl rfl hin dX6_at_26 ?_
        refine lv_goto (tgt := 31) hx hb dX6_at_27 (by decide) ?_
        exact W.iret (v := g_numbers x1.toNatClampNeg) hx hb hr (fun t ht hW => ⟨⟨_, (), rfl, h, ⟨by rw [ht]; exact hP, hD⟩⟩, hS.F ht⟩) hS.2.2 dX6_at_31
set_option maxHeartbeats 4000000 in
set_option maxRecDepth 100000 in
theorem c_X9_labelOf (l : Launch) (G : hcG) (h0 : Nat) (hp1 : Nat) (sz : Nat) (s_in : Int32) (s_out : Int32) (s_length : Int32) (s_order : Int64) (s_p1_size : Int32) (s_p1_heard : Int32) (s_p1_mode : Int32) (s_p1_cast : Int64) (s_p1_figures : Int64) (s_p1_voices : Int64) (s_p1_attacks : Int64) (s_p1_supports : Int64) (x2 : Int32) (post : Int32 → Prop) (h : wp_X9_labelOf post s_in s_out s_p1_size s_p1_heard x2) : Met l yX9_labelOf wsX9_labelOf ({ frames := 2, cells := 0, slots := 0, locals := 42 }) (hcPc G [.ref h0, .ref hp1, .int x2] [ceX9 h0 s_in s_out s_length s_order, ceX3 hp1 s_p1_size s_p1_heard s_p1_mode s_p1_cast s_p1_figures s_p1_voices s_p1_attacks s_p1_supports] sz) (va_Qi (fun (r : Int32) (u : Unit) => post r) (hcB G (va_A [ceX9 h0 s_in s_out s_length s_order, ceX3 hp1 s_p1_size s_p1_heard s_p1_mode s_p1_cast s_p1_figures s_p1_voices s_p1_attacks s_p1_supports] sz) (fun u : Unit => [ceX9 h0 s_in s_out s_length s_order, ceX3 hp1 s_p1_size s_p1_heard s_p1_mode s_p1_cast s_p1_figures s_p1_voices s_p1_attacks s_p1_supports])) (va_A [ceX9 h0 s_in s_out s_length s_order, ceX3 hp1 s_p1_size s_p1_heard s_p1_mode s_p1_cast s_p1_figures s_p1_voices s_p1_attacks s_p1_supports] sz)) 0 0 (va_A [ceX9 h0 s_in s_out s_length s_order, ceX3 hp1 s_p1_size s_p1_heard s_p1_mode s_p1_cast s_p1_figures s_p1_voices s_p1_attacks s_p1_supports] sz) := by
  refine Met.ofW (cc := cX9_labelOf) (maxL := 3) (ret := (some .int)) (by decide) rfl ?_
  intro p e s m args below meth c s₁ B hml hv
  obtain ⟨rfl, hsz, hP, hK, hD0⟩ := hv
  have hx := B.exec
  have hb := B.bytes
  have hr := B.returns
  have hts := atoms_spec (ws := wsX9_labelOf) B.pre
  have hown : s.vm.findClass RX9 = some m.cls := findClass_of_methodNamed B.named
  have hlocks := B.notSynchronized
  subst hsz
  have hD := hD0.self (sz := s.heap.size)
  generalize hAe : va_A [ceX9 h0 s_in s_out s_length s_order, ceX3 hp1 s_p1_size s_p1_heard s_p1_mode s_p1_cast s_p1_figures s_p1_voices s_p1_attacks s_p1_supports] s.heap.size = A at hD ⊢
  have hA : ∀ q : Nat, s.heap.size ≤ q → A q := fun q h => by rw [← hAe]; exact Or.inr h
  have hS : va_S A s.heap s.heap [] := va_S.rf
  have hP : va_P G.1 vwCl [ceX9 h0 s_in s_out s_length s_order, ceX3 hp1 s_p1_size s_p1_heard s_p1_mode s_p1_cast s_p1_figures s_p1_voices s_p1_attacks s_p1_supports] s.heap := hP
  have hl := lv_entry ([.ref h0, .ref hp1, .int x2]) (n := 3) (Nat.le_of_ble_eq_true rfl)
  rw [lg_entry_eq]
  generalize (lg_sl ([.ref h0, .ref hp1, .int x2]) ++ List.replicate (3 - (lg_sl ([.ref h0, .ref hp1, .int x2])).length) Slot.unset).toArray = ls at hl ⊢
  have hl : lv_has ls 3 [(0, .ref h0), (1, .ref hp1), (2, .int x2)] := hl
  have kf0 := hts (.fieldLink RX9 9 "HallOfClaims$Turns" "in" "I") (List.mem_of_getElem? (i := 1) (by decide +kernel))
  have kf1 := hts (.fieldLink RX9 15 "HallOfClaims$Turns" "out" "I") (List.mem_of_getElem? (i := 2) (by decide +kernel))
  have ki_X9 : ∀ w ∈ u_ws RX9 TX9 4, w ∈ wsX9_labelOf := by decide +kernel
  unfold wp_X9_labelOf at h
  refine lv_aload_n hx hb dX9_labelOf_0 rfl (lv_at hl 1 rfl) ?_
  refine lv_iload_n hx hb dX9_labelOf_1 rfl (lv_at hl 2 rfl) ?_
  refine hc_ki (wr := [ceX9 h0 s_in s_out s_length s_order]) (va_runV (As := [.int x2]) (rest := []) ⟨hx, hb, hml, hown, hts⟩ (c_X3_hears l G hp1 s.heap.size s_p1_size s_p1_heard s_p1_mode s_p1_cast s_p1_figures s_p1_voices s_p1_attacks s_p1_supports x2 _ h) (cwV 1 hts gX9_labelOf_X3_hears rfl rfl rfl (by decide +kernel) ⟨Nat.le_of_ble_eq_true rfl, Nat.le_of_ble_eq_true rfl⟩) (hc_pV hK hP hD [1] rfl rfl (ci := 2) 1 rfl rfl) rfl rfl hl.1 rfl (lv_room (Nat.le_of_ble_eq_true rfl)) dX9_labelOf_2 ⟨Nat.le_refl _, Nat.le_refl _⟩) hP hD hS hA [1] [0] rfl rfl rfl (by decide) (fun r2 u H locs h hP hD hS => ?_)
  try dsimp only at h
  have hP : va_P G.1 vwCl [ceX9 h0 s_in s_out s_length s_order, ceX3 hp1 s_p1_size s_p1_heard s_p1_mode s_p1_cast s_p1_figures s_p1_voices s_p1_attacks s_p1_supports] H := hP
  have hD : va_D A [ceX9 h0 s_in s_out s_length s_order, ceX3 hp1 s_p1_size s_p1_heard s_p1_mode s_p1_cast s_p1_figures s_p1_voices s_p1_attacks s_p1_supports] := hD
  refine lv_if_ne (tgt := 10) hx hb dX9_labelOf_5 (by decide) (fun c => ?_) (fun c => ?_)
  · replace h := h.1 c
    refine lv_aload_n hx hb dX9_labelOf_10 rfl (lv_at hl 0 rfl) ?_
    refine va_get (D := G.1) (ci := 7) (v := .int s_in) (C := RX9) (T := TX9) (N := 4) hx hb hts ki_X9 hown hK.1 hP 0 rfl rfl 0 (by decide) kf0 (fun _ h9 => h9) rfl dX9_labelOf_11 ?_
    refine lv_iload_n hx hb dX9_labelOf_14 rfl (lv_at hl 2 rfl) ?_
    refine hc_ki (wr := [ceX9 h0 s_in s_out s_length s_order, ceX3 hp1 s_p1_size s_p1_heard s_p1_mode s_p1_cast s_p1_figures s_p1_voices s_p1_attacks s_p1_supports]) (va_runS (As := [.int s_in, .int x2]) (rest := []) ⟨hx, hb, hml, hown, hts⟩ (c_X0_contains l G H.size s_in x2 _ h) (va_cwS 2 hts gX9_labelOf_X0_contains rfl rfl rfl (by decide +kernel) ⟨Nat.le_of_ble_eq_true rfl, Nat.le_of_ble_eq_true rfl⟩) (hc_pS hK hP hD [] rfl rfl) rfl rfl hl.1 rfl (lv_room (Nat.le_of_ble_eq_true rfl)) dX9_labelOf_15 ⟨Nat.le_refl _, Nat.le_refl _⟩) hP hD hS hA [] [0, 1] rfl rfl rfl (by decide) (fun r15 u H locs h hP hD hS => ?_)
    try dsimp only at h
    have hP : va_P G.1 vwCl [ceX9 h0 s_in s_out s_length s_order, ceX3 hp1 s_p1_size s_p1_heard s_p1_mode s_p1_cast s_p1_figures s_p1_voices s_p1_attacks s_p1_supports] H := hP
    have hD : va_D A [ceX9 h0 s_in s_out s_length s_order, ceX3 hp1 s_p1_size s_p1_heard s_p1_mode s_p1_cast s_p1_figures s_p1_voices s_p1_attacks s_p1_supports] := hD
    refine lv_if_eq (tgt := 23) hx hb dX9_labelOf_18 (by decide) (fun c => ?_) (fun c => ?_)
    · replace h := h.1 c
      refine lv_aload_n hx hb dX9_labelOf_23 rfl (lv_at hl 0 rfl) ?_
      refine va_get (D := G.1) (ci := 7) (v := .int s_out) (C := RX9) (T := TX9) (N := 4) hx hb hts ki_X9 hown hK.1 hP 0 rfl rfl 1 (by decide) kf1 (fun _ h9 => h9) rfl dX9_labelOf_24 ?_
      refine lv_iload_n hx hb dX9_labelOf_27 rfl (lv_at hl 2 rfl) ?_
      refine hc_ki (wr := [ceX9 h0 s_in s_out s_length s_order, ceX3 hp1 s_p1_size s_p1_heard s_p1_mode s_p1_cast s_p1_figures s_p1_voices s_p1_attacks s_p1_supports]) (va_runS (As := [.int s_out, .int x2]) (rest := []) ⟨hx, hb, hml, hown, hts⟩ (c_X0_contains l G H.size s_out x2 _ h) (va_cwS 2 hts gX9_labelOf_X0_contains rfl rfl rfl (by decide +kernel) ⟨Nat.le_of_ble_eq_true rfl, Nat.le_of_ble_eq_true rfl⟩) (hc_pS hK hP hD [] rfl rfl) rfl rfl hl.1 rfl (lv_room (Nat.le_of_ble_eq_true rfl)) dX9_labelOf_28 ⟨Nat.le_refl _, Nat.le_refl _⟩) hP hD hS hA [] [0, 1] rfl rfl rfl (by decide) (fun r28 u H locs h hP hD hS => ?_)
      try dsimp only at h
      have hP : va_P G.1 vwCl [ceX9 h0 s_in s_out s_length s_order, ceX3 hp1 s_p1_size s_p1_heard s_p1_mode s_p1_cast s_p1_figures s_p1_voices s_p1_attacks s_p1_supports] H := hP
      have hD : va_D A [ceX9 h0 s_in s_out s_length s_order, ceX3 hp1 s_p1_size s_p1_heard s_p1_mode s_p1_cast s_p1_figures s_p1_voices s_p1_attacks s_p1_supports] := hD
      refine lv_if_eq (tgt := 38) hx hb dX9_labelOf_31 (by decide) (fun c => ?_) (fun c => ?_)
      · replace h := h.1 c
        refine lv_iconst (v := nI 2) hx hb dX9_labelOf_38 kc_2 ?_
        exact W.iret (v := nI 2) hx hb hr (fun t ht hW => ⟨⟨_, (), rfl, h, ⟨by rw [ht]; exact hP, hD⟩⟩, hS.F ht⟩) hS.2.2 dX9_labelOf_39
      · replace h := h.2 c
        refine lv_iconst (v := nI 0) hx hb dX9_labelOf_34 kc_0 ?_
        refine lv_goto (tgt := 39) hx hb dX9_labelOf_35 (by decide) ?_
        exact W.iret (v := nI 0) hx hb hr (fun t ht hW => ⟨⟨_, (), rfl, h, ⟨by rw [ht]; exact hP, hD⟩⟩, hS.F ht⟩) hS.2.2 dX9_labelOf_39
    · replace h := h.2 c
      refine lv_iconst (v := nI 1) hx hb dX9_labelOf_21 kc_1 ?_
      exact W.iret (v := nI 1) hx hb hr (fun t ht hW => ⟨⟨_, (), rfl, h, ⟨by rw [ht]; exact hP, hD⟩⟩, hS.F ht⟩) hS.2.2 dX9_labelOf_22
  · replace h := h.2 c
    refine lv_iconst (v := nI 3) hx hb dX9_labelOf_8 kc_3 ?_
    exact W.iret (v := nI 3) hx hb hr (fun t ht hW => ⟨⟨_, (), rfl, h, ⟨by rw [ht]; exact hP, hD⟩⟩, hS.F ht⟩) hS.2.2 dX9_labelOf_9
set_option maxHeartbeats 4000000 in
set_option maxRecDepth 100000 in
theorem c_X4_beginSo (l : Launch) (G : hcG) (hp0 : Nat) (a_p0_numbers : Nat) (hp1 : Nat) (hp2 : Nat) (sz : Nat) (n_p0_numbers : Nat) (s_p0_length : Int32) (s_p1_size : Int32) (s_p1_heard : Int32) (s_p1_mode : Int32) (s_p1_cast : Int64) (s_p1_figures : Int64) (s_p1_voices : Int64) (s_p1_attacks : Int64) (s_p1_supports : Int64) (s_p2_in : Int32) (s_p2_out : Int32) (s_p2_length : Int32) (s_p2_order : Int64) (g_p0_numbers : Nat → Int32) (post : Int32 → Prop) (h : wp_X4_beginSo post n_p0_numbers g_p0_numbers s_p0_length s_p1_size s_p1_heard s_p2_in s_p2_out) : Met l yX4_beginSo wsX4_beginSo ({ frames := 3, cells := 0, slots := 0, locals := 64 }) (hcPc G [.ref hp0, .ref hp1, .ref hp2] [ceX6 hp0 a_p0_numbers s_p0_length, ceX3 hp1 s_p1_size s_p1_heard s_p1_mode s_p1_cast s_p1_figures s_p1_voices s_p1_attacks s_p1_supports, ceX9 hp2 s_p2_in s_p2_out s_p2_length s_p2_order, caI G a_p0_numbers n_p0_numbers g_p0_numbers] sz) (va_Qi (fun (r : Int32) (u : Unit) => post r) (hcB G (va_A [ceX6 hp0 a_p0_numbers s_p0_length, ceX3 hp1 s_p1_size s_p1_heard s_p1_mode s_p1_cast s_p1_figures s_p1_voices s_p1_attacks s_p1_supports, ceX9 hp2 s_p2_in s_p2_out s_p2_length s_p2_order, caI G a_p0_numbers n_p0_numbers g_p0_numbers] sz) (fun u : Unit => [ceX6 hp0 a_p0_numbers s_p0_length, ceX3 hp1 s_p1_size s_p1_heard s_p1_mode s_p1_cast s_p1_figures s_p1_voices s_p1_attacks s_p1_supports, ceX9 hp2 s_p2_in s_p2_out s_p2_length s_p2_order, caI G a_p0_numbers n_p0_numbers g_p0_numbers])) (va_A [ceX6 hp0 a_p0_numbers s_p0_length, ceX3 hp1 s_p1_size s_p1_heard s_p1_mode s_p1_cast s_p1_figures s_p1_voices s_p1_attacks s_p1_supports, ceX9 hp2 s_p2_in s_p2_out s_p2_length s_p2_order, caI G a_p0_numbers n_p0_numbers g_p0_numbers] sz)) 0 0 (va_A [ceX6 hp0 a_p0_numbers s_p0_length, ceX3 hp1 s_p1_size s_p1_heard s_p1_mode s_p1_cast s_p1_figures s_p1_voices s_p1_attacks s_p1_supports, ceX9 hp2 s_p2_in s_p2_out s_p2_length s_p2_order, caI G a_p0_numbers n_p0_numbers g_p0_numbers] sz) := by
  refine Met.ofW (cc := cX4_beginSo) (maxL := 4) (ret := (some .boolean)) (by decide) rfl ?_
  intro p e s m args below meth c s₁ B hml hv
  obtain ⟨rfl, hsz, hP, hK, hD0⟩ := hv
  have hx := B.exec
  have hb := B.bytes
  have hr := B.returns
  have hts := atoms_spec (ws := wsX4_beginSo) B.pre
  have hown : s.vm.findClass RX4 = some m.cls := findClass_of_methodNamed B.named
  have hlocks := B.notSynchronized
  subst hsz
  have hD := hD0.self (sz := s.heap.size)
  generalize hAe : va_A [ceX6 hp0 a_p0_numbers s_p0_length, ceX3 hp1 s_p1_size s_p1_heard s_p1_mode s_p1_cast s_p1_figures s_p1_voices s_p1_attacks s_p1_supports, ceX9 hp2 s_p2_in s_p2_out s_p2_length s_p2_order, caI G a_p0_numbers n_p0_numbers g_p0_numbers] s.heap.size = A at hD ⊢
  have hA : ∀ q : Nat, s.heap.size ≤ q → A q := fun q h => by rw [← hAe]; exact Or.inr h
  have hS : va_S A s.heap s.heap [] := va_S.rf
  have hP : va_P G.1 vwCl [ceX6 hp0 a_p0_numbers s_p0_length, ceX3 hp1 s_p1_size s_p1_heard s_p1_mode s_p1_cast s_p1_figures s_p1_voices s_p1_attacks s_p1_supports, ceX9 hp2 s_p2_in s_p2_out s_p2_length s_p2_order, caI G a_p0_numbers n_p0_numbers g_p0_numbers] s.heap := hP
  have hl := lv_entry ([.ref hp0, .ref hp1, .ref hp2]) (n := 4) (Nat.le_of_ble_eq_true rfl)
  rw [lg_entry_eq]
  generalize (lg_sl ([.ref hp0, .ref hp1, .ref hp2]) ++ List.replicate (4 - (lg_sl ([.ref hp0, .ref hp1, .ref hp2])).length) Slot.unset).toArray = ls at hl ⊢
  have hl : lv_has ls 4 [(0, .ref hp0), (1, .ref hp1), (2, .ref hp2)] := hl
  have kf0 := hts (.fieldLink RX4 9 "HallOfClaims$Row" "length" "I") (List.mem_of_getElem? (i := 1) (by decide +kernel))
  have kf1 := hts (.fieldLink RX4 15 "HallOfClaims$Hall" "size" "I") (List.mem_of_getElem? (i := 2) (by decide +kernel))
  have ki_X6 : ∀ w ∈ u_ws RX6 TX6 2, w ∈ wsX4_beginSo := by decide +kernel
  have ki_X3 : ∀ w ∈ u_ws RX3 TX3 8, w ∈ wsX4_beginSo := by decide +kernel
  have w15 : ∀ (n : Nat) (v3 : Int32) , wp_X4_beginSo_15 post n_p0_numbers g_p0_numbers s_p0_length s_p1_size s_p1_heard s_p2_in s_p2_out n v3 → ∀ (H : Heap) (locs : List Loc) (ls : Array Slot), va_P G.1 vwCl [ceX6 hp0 a_p0_numbers s_p0_length, ceX3 hp1 s_p1_size s_p1_heard s_p1_mode s_p1_cast s_p1_figures s_p1_voices s_p1_attacks s_p1_supports, ceX9 hp2 s_p2_in s_p2_out s_p2_length s_p2_order, caI G a_p0_numbers n_p0_numbers g_p0_numbers] H → va_D A [ceX6 hp0 a_p0_numbers s_p0_length, ceX3 hp1 s_p1_size s_p1_heard s_p1_mode s_p1_cast s_p1_figures s_p1_voices s_p1_attacks s_p1_supports, ceX9 hp2 s_p2_in s_p2_out s_p2_length s_p2_order, caI G a_p0_numbers n_p0_numbers g_p0_numbers] → va_S A s.heap H locs → lv_has ls 4 [(0, .ref hp0), (1, .ref hp1), (2, .ref hp2), (3, .int v3)] → W p l e (headSpec wsX4_beginSo ({ frames := 3, cells := 0, slots := 0, locals := 64 })).room s m ([.ref hp0, .ref hp1, .ref hp2] : List Value).toArray below meth c H locs 0 0 (MQ below (va_Qi (fun (r : Int32) (u : Unit) => post r) (hcB G A (fun u : Unit => [ceX6 hp0 a_p0_numbers s_p0_length, ceX3 hp1 s_p1_size s_p1_heard s_p1_mode s_p1_cast s_p1_figures s_p1_voices s_p1_attacks s_p1_supports, ceX9 hp2 s_p2_in s_p2_out s_p2_length s_p2_order, caI G a_p0_numbers n_p0_numbers g_p0_numbers])) A) ([.ref hp0, .ref hp1, .ref hp2] : List Value).toArray s 0 0 A) (F0 m 15 ls []) := by
    intro n
    induction n with
    | zero => intro v3 h; exact h.elim
    | succ n ih =>
      intro v3 h H locs ls hP hD hS hl
      unfold wp_X4_beginSo_15 at h
      refine lv_iload_n hx hb dX4_beginSo_15 rfl (lv_at hl 3 rfl) ?_
      refine lv_aload_n hx hb dX4_beginSo_16 rfl (lv_at hl 0 rfl) ?_
      refine va_get (D := G.1) (ci := 4) (v := .int s_p0_length) (C := RX6) (T := TX6) (N := 2) hx hb hts ki_X6 hown hK.1 hP 0 rfl rfl 1 (by decide) kf0 (fun _ h9 => h9) rfl dX4_beginSo_17 ?_
      refine lv_icmp_ge (tgt := 47) hx hb dX4_beginSo_20 (by decide) (fun c => ?_) (fun c => ?_)
      · replace h := h.1 c
        refine lv_iconst (v := nI 1) hx hb dX4_beginSo_47 kc_1 ?_
        exact W.zret (v := nI 1) hx hb hr rfl (fun t ht hW => ⟨⟨_, (), rfl, h, ⟨by rw [ht]; exact hP, hD⟩⟩, hS.F ht⟩) hS.2.2 dX4_beginSo_48
      · replace h := h.2 c
        refine lv_aload_n hx hb dX4_beginSo_23 rfl (lv_at hl 0 rfl) ?_
        refine lv_iload_n hx hb dX4_beginSo_24 rfl (lv_at hl 3 rfl) ?_
        refine lv_bipush (v := nI 9) hx hb dX4_beginSo_25 kb_9 ?_
        refine hc_ki (wr := [ceX3 hp1 s_p1_size s_p1_heard s_p1_mode s_p1_cast s_p1_figures s_p1_voices s_p1_attacks s_p1_supports, ceX9 hp2 s_p2_in s_p2_out s_p2_length s_p2_order]) (va_runV (As := [.int v3, .int (nI 9)]) (rest := []) ⟨hx, hb, hml, hown, hts⟩ (c_X6_at l G hp0 a_p0_numbers H.size n_p0_numbers s_p0_length g_p0_numbers v3 (nI 9) _ h) (cwV 2 hts gX4_beginSo_X6_at rfl rfl rfl (by decide +kernel) ⟨Nat.le_of_ble_eq_true rfl, Nat.le_of_ble_eq_true rfl⟩) (hc_pV hK hP hD [0, 3] rfl rfl (ci := 4) 0 rfl rfl) rfl rfl hl.1 rfl (lv_room (Nat.le_of_ble_eq_true rfl)) dX4_beginSo_27 ⟨Nat.le_refl _, Nat.le_refl _⟩) hP hD hS hA [0, 3] [1, 2] rfl rfl rfl (by decide) (fun r27 u H locs h hP hD hS => ?_)
        try dsimp only at h
        have hP : va_P G.1 vwCl [ceX3 hp1 s_p1_size s_p1_heard s_p1_mode s_p1_cast s_p1_figures s_p1_voices s_p1_attacks s_p1_supports, ceX9 hp2 s_p2_in s_p2_out s_p2_length s_p2_order, ceX6 hp0 a_p0_numbers s_p0_length, caI G a_p0_numbers n_p0_numbers g_p0_numbers] H := hP
        have hD : va_D A [ceX3 hp1 s_p1_size s_p1_heard s_p1_mode s_p1_cast s_p1_figures s_p1_voices s_p1_attacks s_p1_supports, ceX9 hp2 s_p2_in s_p2_out s_p2_length s_p2_order, ceX6 hp0 a_p0_numbers s_p0_length, caI G a_p0_numbers n_p0_numbers g_p0_numbers] := hD
        refine lv_aload_n hx hb dX4_beginSo_30 rfl (lv_at hl 2 rfl) ?_
        refine lv_aload_n hx hb dX4_beginSo_31 rfl (lv_at hl 1 rfl) ?_
        refine lv_iload_n hx hb dX4_beginSo_32 rfl (lv_at hl 3 rfl) ?_
        refine hc_ki (wr := [ceX6 hp0 a_p0_numbers s_p0_length, caI G a_p0_numbers n_p0_numbers g_p0_numbers]) (va_runV (As := [.ref hp1, .int v3]) (rest := [.int r27]) ⟨hx, hb, hml, hown, hts⟩ (c_X9_labelOf l G hp2 hp1 H.size s_p2_in s_p2_out s_p2_length s_p2_order s_p1_size s_p1_heard s_p1_mode s_p1_cast s_p1_figures s_p1_voices s_p1_attacks s_p1_supports v3 _ h) (cwV 2 hts gX4_beginSo_X9_labelOf rfl rfl rfl (by decide +kernel) ⟨Nat.le_of_ble_eq_true rfl, Nat.le_of_ble_eq_true rfl⟩) (hc_pV hK hP hD [1, 0] rfl rfl (ci := 7) 1 rfl rfl) rfl rfl hl.1 rfl (lv_room (Nat.le_of_ble_eq_true rfl)) dX4_beginSo_33 ⟨Nat.le_refl _, Nat.le_refl _⟩) hP hD hS hA [1, 0] [2, 3] rfl rfl rfl (by decide) (fun r33 u H locs h hP hD hS => ?_)
        try dsimp only at h
        have hP : va_P G.1 vwCl [ceX6 hp0 a_p0_numbers s_p0_length, caI G a_p0_numbers n_p0_numbers g_p0_numbers, ceX9 hp2 s_p2_in s_p2_out s_p2_length s_p2_order, ceX3 hp1 s_p1_size s_p1_heard s_p1_mode s_p1_cast s_p1_figures s_p1_voices s_p1_attacks s_p1_supports] H := hP
        have hD : va_D A [ceX6 hp0 a_p0_numbers s_p0_length, caI G a_p0_numbers n_p0_numbers g_p0_numbers, ceX9 hp2 s_p2_in s_p2_out s_p2_length s_p2_order, ceX3 hp1 s_p1_size s_p1_heard s_p1_mode s_p1_cast s_p1_figures s_p1_voices s_p1_attacks s_p1_supports] := hD
        refine lv_icmp_eq (tgt := 41) hx hb dX4_beginSo_36 (by decide) (fun c => ?_) (fun c => ?_)
        · replace h := h.1 c
          refine lv_iinc (v := v3 + nI 1) (lv' := [(3, .int (v3 + nI 1)), (0, .ref hp0), (1, .ref hp1), (2, .ref hp2)]) hx hb dX4_beginSo_41 hl (k := 3) rfl (congrArg (fun q => v3 + q) kc_1) (by decide) rfl (fun ls hl => ?_)
          refine lv_goto (tgt := 15) hx hb dX4_beginSo_44 (by decide) ?_
          exact ih (v3 + nI 1) h _ _ _ (hP.sub [0, 3, 2, 1] rfl) (hD.sub [0, 3, 2, 1] (by decide) rfl) hS (lv_sub hl [1, 2, 3, 0] rfl)
        · replace h := h.2 c
          refine lv_iconst (v := nI 0) hx hb dX4_beginSo_39 kc_0 ?_
          exact W.zret (v := nI 0) hx hb hr rfl (fun t ht hW => ⟨⟨_, (), rfl, h, ⟨by rw [ht]; exact (hP.sub [0, 3, 2, 1] rfl), (hD.sub [0, 3, 2, 1] (by decide) rfl)⟩⟩, hS.F ht⟩) hS.2.2 dX4_beginSo_40
  unfold wp_X4_beginSo at h
  refine lv_aload_n hx hb dX4_beginSo_0 rfl (lv_at hl 0 rfl) ?_
  refine va_get (D := G.1) (ci := 4) (v := .int s_p0_length) (C := RX6) (T := TX6) (N := 2) hx hb hts ki_X6 hown hK.1 hP 0 rfl rfl 1 (by decide) kf0 (fun _ h9 => h9) rfl dX4_beginSo_1 ?_
  refine lv_aload_n hx hb dX4_beginSo_4 rfl (lv_at hl 1 rfl) ?_
  refine va_get (D := G.1) (ci := 2) (v := .int s_p1_size) (C := RX3) (T := TX3) (N := 8) hx hb hts ki_X3 hown hK.1 hP 1 rfl rfl 0 (by decide) kf1 (fun _ h9 => h9) rfl dX4_beginSo_5 ?_
  refine lv_icmp_le (tgt := 13) hx hb dX4_beginSo_8 (by decide) (fun c => ?_) (fun c => ?_)
  · replace h := h.1 c
    refine lv_iconst (v := nI 0) hx hb dX4_beginSo_13 kc_0 ?_
    refine lv_istore_n (lv' := [(3, .int (nI 0)), (0, .ref hp0), (1, .ref hp1), (2, .ref hp2)]) hx hb dX4_beginSo_14 rfl hl (by decide) rfl (fun ls hl => ?_)
    obtain ⟨n15, h⟩ := h
    exact w15  n15 (nI 0) h _ _ _ hP hD hS (lv_sub hl [1, 2, 3, 0] rfl)
  · replace h := h.2 c
    refine lv_iconst (v := nI 0) hx hb dX4_beginSo_11 kc_0 ?_
    exact W.zret (v := nI 0) hx hb hr rfl (fun t ht hW => ⟨⟨_, (), rfl, h, ⟨by rw [ht]; exact hP, hD⟩⟩, hS.F ht⟩) hS.2.2 dX4_beginSo_12
set_option maxHeartbeats 4000000 in
set_option maxRecDepth 100000 in
theorem c_X4_dueBy (l : Launch) (G : hcG) (hp0 : Nat) (a_p0_numbers : Nat) (sz : Nat) (n_p0_numbers : Nat) (s_p0_length : Int32) (g_p0_numbers : Nat → Int32) (x1 : Int32) (post : Int32 → Prop) (h : wp_X4_dueBy post n_p0_numbers g_p0_numbers s_p0_length x1) : Met l yX4_dueBy wsX4_dueBy ({ frames := 1, cells := 0, slots := 0, locals := 22 }) (hcPc G [.ref hp0, .int x1] [ceX6 hp0 a_p0_numbers s_p0_length, caI G a_p0_numbers n_p0_numbers g_p0_numbers] sz) (va_Qi (fun (r : Int32) (u : Unit) => post r) (hcB G (va_A [ceX6 hp0 a_p0_numbers s_p0_length, caI G a_p0_numbers n_p0_numbers g_p0_numbers] sz) (fun u : Unit => [ceX6 hp0 a_p0_numbers s_p0_length, caI G a_p0_numbers n_p0_numbers g_p0_numbers])) (va_A [ceX6 hp0 a_p0_numbers s_p0_length, caI G a_p0_numbers n_p0_numbers g_p0_numbers] sz)) 0 0 (va_A [ceX6 hp0 a_p0_numbers s_p0_length, caI G a_p0_numbers n_p0_numbers g_p0_numbers] sz) := by
  refine Met.ofW (cc := cX4_dueBy) (maxL := 5) (ret := (some .int)) (by decide) rfl ?_
  intro p e s m args below meth c s₁ B hml hv
  obtain ⟨rfl, hsz, hP, hK, hD0⟩ := hv
  have hx := B.exec
  have hb := B.bytes
  have hr := B.returns
  have hts := atoms_spec (ws := wsX4_dueBy) B.pre
  have hown : s.vm.findClass RX4 = some m.cls := findClass_of_methodNamed B.named
  have hlocks := B.notSynchronized
  subst hsz
  have hD := hD0.self (sz := s.heap.size)
  generalize hAe : va_A [ceX6 hp0 a_p0_numbers s_p0_length, caI G a_p0_numbers n_p0_numbers g_p0_numbers] s.heap.size = A at hD ⊢
  have hA : ∀ q : Nat, s.heap.size ≤ q → A q := fun q h => by rw [← hAe]; exact Or.inr h
  have hS : va_S A s.heap s.heap [] := va_S.rf
  have hP : va_P G.1 vwCl [ceX6 hp0 a_p0_numbers s_p0_length, caI G a_p0_numbers n_p0_numbers g_p0_numbers] s.heap := hP
  have hl := lv_entry ([.ref hp0, .int x1]) (n := 5) (Nat.le_of_ble_eq_true rfl)
  rw [lg_entry_eq]
  generalize (lg_sl ([.ref hp0, .int x1]) ++ List.replicate (5 - (lg_sl ([.ref hp0, .int x1])).length) Slot.unset).toArray = ls at hl ⊢
  have hl : lv_has ls 5 [(0, .ref hp0), (1, .int x1)] := hl
  have w4 : ∀ (n : Nat) (v2 : Int32) (v3 : Int32) , wp_X4_dueBy_4 post n_p0_numbers g_p0_numbers s_p0_length x1 n v2 v3 → ∀ (H : Heap) (locs : List Loc) (ls : Array Slot), va_P G.1 vwCl [ceX6 hp0 a_p0_numbers s_p0_length, caI G a_p0_numbers n_p0_numbers g_p0_numbers] H → va_D A [ceX6 hp0 a_p0_numbers s_p0_length, caI G a_p0_numbers n_p0_numbers g_p0_numbers] → va_S A s.heap H locs → lv_has ls 5 [(0, .ref hp0), (1, .int x1), (2, .int v2), (3, .int v3)] → W p l e (headSpec wsX4_dueBy ({ frames := 1, cells := 0, slots := 0, locals := 22 })).room s m ([.ref hp0, .int x1] : List Value).toArray below meth c H locs 0 0 (MQ below (va_Qi (fun (r : Int32) (u : Unit) => post r) (hcB G A (fun u : Unit => [ceX6 hp0 a_p0_numbers s_p0_length, caI G a_p0_numbers n_p0_numbers g_p0_numbers])) A) ([.ref hp0, .int x1] : List Value).toArray s 0 0 A) (F0 m 4 ls []) := by
    intro n
    induction n with
    | zero => intro v2 v3 h; exact h.elim
    | succ n ih =>
      intro v2 v3 h H locs ls hP hD hS hl
      unfold wp_X4_dueBy_4 at h
      refine lv_iload_n hx hb dX4_dueBy_4 rfl (lv_at hl 3 rfl) ?_
      refine lv_bipush (v := nI 8) hx hb dX4_dueBy_5 kb_8 ?_
      refine lv_icmp_ge (tgt := 56) hx hb dX4_dueBy_7 (by decide) (fun c => ?_) (fun c => ?_)
      · replace h := h.1 c
        refine lv_iload_n hx hb dX4_dueBy_56 rfl (lv_at hl 2 rfl) ?_
        refine lv_if_eq (tgt := 64) hx hb dX4_dueBy_57 (by decide) (fun c => ?_) (fun c => ?_)
        · replace h := h.1 c
          refine lv_iconst (v := nI 2) hx hb dX4_dueBy_64 kc_2 ?_
          exact W.iret (v := nI 2) hx hb hr (fun t ht hW => ⟨⟨_, (), rfl, h, ⟨by rw [ht]; exact hP, hD⟩⟩, hS.F ht⟩) hS.2.2 dX4_dueBy_65
        · replace h := h.2 c
          refine lv_iconst (v := nI 1) hx hb dX4_dueBy_60 kc_1 ?_
          refine lv_goto (tgt := 65) hx hb dX4_dueBy_61 (by decide) ?_
          exact W.iret (v := nI 1) hx hb hr (fun t ht hW => ⟨⟨_, (), rfl, h, ⟨by rw [ht]; exact hP, hD⟩⟩, hS.F ht⟩) hS.2.2 dX4_dueBy_65
      · replace h := h.2 c
        refine lv_iload_n hx hb dX4_dueBy_10 rfl (lv_at hl 1 rfl) ?_
        refine lv_iload_n hx hb dX4_dueBy_11 rfl (lv_at hl 3 rfl) ?_
        refine hc_ki (wr := [ceX6 hp0 a_p0_numbers s_p0_length, caI G a_p0_numbers n_p0_numbers g_p0_numbers]) (va_runS (As := [.int x1, .int v3]) (rest := []) ⟨hx, hb, hml, hown, hts⟩ (c_X0_contains l G H.size x1 v3 _ h) (va_cwS 2 hts gX4_dueBy_X0_contains rfl rfl rfl (by decide +kernel) ⟨Nat.le_of_ble_eq_true rfl, Nat.le_of_ble_eq_true rfl⟩) (hc_pS hK hP hD [] rfl rfl) rfl rfl hl.1 rfl (lv_room (Nat.le_of_ble_eq_true rfl)) dX4_dueBy_12 ⟨Nat.le_refl _, Nat.le_refl _⟩) hP hD hS hA [] [0, 1] rfl rfl rfl (by decide) (fun r12 u H locs h hP hD hS => ?_)
        try dsimp only at h
        have hP : va_P G.1 vwCl [ceX6 hp0 a_p0_numbers s_p0_length, caI G a_p0_numbers n_p0_numbers g_p0_numbers] H := hP
        have hD : va_D A [ceX6 hp0 a_p0_numbers s_p0_length, caI G a_p0_numbers n_p0_numbers g_p0_numbers] := hD
        refine lv_if_eq (tgt := 50) hx hb dX4_dueBy_15 (by decide) (fun c => ?_) (fun c => ?_)
        · replace h := h.1 c
          refine lv_iinc (v := v3 + nI 1) (lv' := [(3, .int (v3 + nI 1)), (0, .ref hp0), (1, .int x1), (2, .int v2)]) hx hb dX4_dueBy_50 hl (k := 3) rfl (congrArg (fun q => v3 + q) kc_1) (by decide) rfl (fun ls hl => ?_)
          refine lv_goto (tgt := 4) hx hb dX4_dueBy_53 (by decide) ?_
          exact ih v2 (v3 + nI 1) h _ _ _ hP hD hS (lv_sub hl [1, 2, 3, 0] rfl)
        · replace h := h.2 c
          refine lv_aload_n hx hb dX4_dueBy_18 rfl (lv_at hl 0 rfl) ?_
          refine lv_iload_n hx hb dX4_dueBy_19 rfl (lv_at hl 3 rfl) ?_
          refine lv_bipush (v := nI 9) hx hb dX4_dueBy_20 kb_9 ?_
          refine hc_ki (wr := []) (va_runV (As := [.int v3, .int (nI 9)]) (rest := []) ⟨hx, hb, hml, hown, hts⟩ (c_X6_at l G hp0 a_p0_numbers H.size n_p0_numbers s_p0_length g_p0_numbers v3 (nI 9) _ h) (cwV 2 hts gX4_dueBy_X6_at rfl rfl rfl (by decide +kernel) ⟨Nat.le_of_ble_eq_true rfl, Nat.le_of_ble_eq_true rfl⟩) (hc_pV hK hP hD [0, 1] rfl rfl (ci := 4) 0 rfl rfl) rfl rfl hl.1 rfl (lv_room (Nat.le_of_ble_eq_true rfl)) dX4_dueBy_22 ⟨Nat.le_refl _, Nat.le_refl _⟩) hP hD hS hA [0, 1] [] rfl rfl rfl (by decide) (fun r22 u H locs h hP hD hS => ?_)
          try dsimp only at h
          have hP : va_P G.1 vwCl [ceX6 hp0 a_p0_numbers s_p0_length, caI G a_p0_numbers n_p0_numbers g_p0_numbers] H := hP
          have hD : va_D A [ceX6 hp0 a_p0_numbers s_p0_length, caI G a_p0_numbers n_p0_numbers g_p0_numbers] := hD
          refine lv_istore (lv' := [(4, .int r22), (0, .ref hp0), (1, .int x1), (2, .int v2), (3, .int v3)]) hx hb dX4_dueBy_25 hl (by decide) rfl (fun ls hl => ?_)
          refine lv_iload hx hb dX4_dueBy_27 (lv_at hl 0 rfl) ?_
          refine lv_iconst (v := nI 1) hx hb dX4_dueBy_29 kc_1 ?_
          refine lv_icmp_ne (tgt := 35) hx hb dX4_dueBy_30 (by decide) (fun c => ?_) (fun c => ?_)
          · replace h := h.1 c
            refine lv_iload_n hx hb dX4_dueBy_35 rfl (lv_at hl 3 rfl) ?_
            refine lv_if_eq (tgt := 48) hx hb dX4_dueBy_36 (by decide) (fun c => ?_) (fun c => ?_)
            · replace h := h.1 c
              refine lv_iconst (v := nI 0) hx hb dX4_dueBy_48 kc_0 ?_
              refine lv_istore_n (lv' := [(2, .int (nI 0)), (4, .int r22), (0, .ref hp0), (1, .int x1), (3, .int v3)]) hx hb dX4_dueBy_49 rfl hl (by decide) rfl (fun ls hl => ?_)
              refine lv_iinc (v := v3 + nI 1) (lv' := [(3, .int (v3 + nI 1)), (2, .int (nI 0)), (4, .int r22), (0, .ref hp0), (1, .int x1)]) hx hb dX4_dueBy_50 hl (k := 4) rfl (congrArg (fun q => v3 + q) kc_1) (by decide) rfl (fun ls hl => ?_)
              refine lv_goto (tgt := 4) hx hb dX4_dueBy_53 (by decide) ?_
              exact ih (nI 0) (v3 + nI 1) h _ _ _ hP hD hS (lv_sub hl [3, 4, 1, 0] rfl)
            · replace h := h.2 c
              refine lv_iload hx hb dX4_dueBy_39 (lv_at hl 0 rfl) ?_
              refine lv_if_ne (tgt := 48) hx hb dX4_dueBy_41 (by decide) (fun c => ?_) (fun c => ?_)
              · replace h := h.1 c
                refine lv_iconst (v := nI 0) hx hb dX4_dueBy_48 kc_0 ?_
                refine lv_istore_n (lv' := [(2, .int (nI 0)), (4, .int r22), (0, .ref hp0), (1, .int x1), (3, .int v3)]) hx hb dX4_dueBy_49 rfl hl (by decide) rfl (fun ls hl => ?_)
                refine lv_iinc (v := v3 + nI 1) (lv' := [(3, .int (v3 + nI 1)), (2, .int (nI 0)), (4, .int r22), (0, .ref hp0), (1, .int x1)]) hx hb dX4_dueBy_50 hl (k := 4) rfl (congrArg (fun q => v3 + q) kc_1) (by decide) rfl (fun ls hl => ?_)
                refine lv_goto (tgt := 4) hx hb dX4_dueBy_53 (by decide) ?_
                exact ih (nI 0) (v3 + nI 1) h _ _ _ hP hD hS (lv_sub hl [3, 4, 1, 0] rfl)
              · replace h := h.2 c
                refine lv_iconst (v := nI 1) hx hb dX4_dueBy_44 kc_1 ?_
                refine lv_goto (tgt := 49) hx hb dX4_dueBy_45 (by decide) ?_
                refine lv_istore_n (lv' := [(2, .int (nI 1)), (4, .int r22), (0, .ref hp0), (1, .int x1), (3, .int v3)]) hx hb dX4_dueBy_49 rfl hl (by decide) rfl (fun ls hl => ?_)
                refine lv_iinc (v := v3 + nI 1) (lv' := [(3, .int (v3 + nI 1)), (2, .int (nI 1)), (4, .int r22), (0, .ref hp0), (1, .int x1)]) hx hb dX4_dueBy_50 hl (k := 4) rfl (congrArg (fun q => v3 + q) kc_1) (by decide) rfl (fun ls hl => ?_)
                refine lv_goto (tgt := 4) hx hb dX4_dueBy_53 (by decide) ?_
                exact ih (nI 1) (v3 + nI 1) h _ _ _ hP hD hS (lv_sub hl [3, 4, 1, 0] rfl)
          · replace h := h.2 c
            refine lv_iconst (v := nI 0) hx hb dX4_dueBy_33 kc_0 ?_
            exact W.iret (v := nI 0) hx hb hr (fun t ht hW => ⟨⟨_, (), rfl, h, ⟨by rw [ht]; exact hP, hD⟩⟩, hS.F ht⟩) hS.2.2 dX4_dueBy_34
  unfold wp_X4_dueBy at h
  refine lv_iconst (v := nI 1) hx hb dX4_dueBy_0 kc_1 ?_
  refine lv_istore_n (lv' := [(2, .int (nI 1)), (0, .ref hp0), (1, .int x1)]) hx hb dX4_dueBy_1 rfl hl (by decide) rfl (fun ls hl => ?_)
  refine lv_iconst (v := nI 0) hx hb dX4_dueBy_2 kc_0 ?_
  refine lv_istore_n (lv' := [(3, .int (nI 0)), (2, .int (nI 1)), (0, .ref hp0), (1, .int x1)]) hx hb dX4_dueBy_3 rfl hl (by decide) rfl (fun ls hl => ?_)
  obtain ⟨n4, h⟩ := h
  exact w4  n4 (nI 1) (nI 0) h _ _ _ hP hD hS (lv_sub hl [2, 3, 1, 0] rfl)
set_option maxHeartbeats 4000000 in
set_option maxRecDepth 100000 in
theorem c_X4_judged (l : Launch) (G : hcG) (hp0 : Nat) (a_p0_numbers : Nat) (hp1 : Nat) (sz : Nat) (n_p0_numbers : Nat) (s_p0_length : Int32) (s_p1_size : Int32) (s_p1_heard : Int32) (s_p1_mode : Int32) (s_p1_cast : Int64) (s_p1_figures : Int64) (s_p1_voices : Int64) (s_p1_attacks : Int64) (s_p1_supports : Int64) (g_p0_numbers : Nat → Int32) (x2 : Int64) (post : Int32 → Prop) (h : wp_X4_judged post n_p0_numbers g_p0_numbers s_p0_length s_p1_size s_p1_heard x2) : Met l yX4_judged wsX4_judged ({ frames := 2, cells := 0, slots := 0, locals := 46 }) (hcPc G [.ref hp0, .ref hp1, .long x2] [ceX6 hp0 a_p0_numbers s_p0_length, ceX3 hp1 s_p1_size s_p1_heard s_p1_mode s_p1_cast s_p1_figures s_p1_voices s_p1_attacks s_p1_supports, caI G a_p0_numbers n_p0_numbers g_p0_numbers] sz) (va_Qi (fun (r : Int32) (u : Unit) => post r) (hcB G (va_A [ceX6 hp0 a_p0_numbers s_p0_length, ceX3 hp1 s_p1_size s_p1_heard s_p1_mode s_p1_cast s_p1_figures s_p1_voices s_p1_attacks s_p1_supports, caI G a_p0_numbers n_p0_numbers g_p0_numbers] sz) (fun u : Unit => [ceX6 hp0 a_p0_numbers s_p0_length, ceX3 hp1 s_p1_size s_p1_heard s_p1_mode s_p1_cast s_p1_figures s_p1_voices s_p1_attacks s_p1_supports, caI G a_p0_numbers n_p0_numbers g_p0_numbers])) (va_A [ceX6 hp0 a_p0_numbers s_p0_length, ceX3 hp1 s_p1_size s_p1_heard s_p1_mode s_p1_cast s_p1_figures s_p1_voices s_p1_attacks s_p1_supports, caI G a_p0_numbers n_p0_numbers g_p0_numbers] sz)) 0 0 (va_A [ceX6 hp0 a_p0_numbers s_p0_length, ceX3 hp1 s_p1_size s_p1_heard s_p1_mode s_p1_cast s_p1_figures s_p1_voices s_p1_attacks s_p1_supports, caI G a_p0_numbers n_p0_numbers g_p0_numbers] sz) := by
  refine Met.ofW (cc := cX4_judged) (maxL := 6) (ret := (some .int)) (by decide) rfl ?_
  intro p e s m args below meth c s₁ B hml hv
  obtain ⟨rfl, hsz, hP, hK, hD0⟩ := hv
  have hx := B.exec
  have hb := B.bytes
  have hr := B.returns
  have hts := atoms_spec (ws := wsX4_judged) B.pre
  have hown : s.vm.findClass RX4 = some m.cls := findClass_of_methodNamed B.named
  have hlocks := B.notSynchronized
  subst hsz
  have hD := hD0.self (sz := s.heap.size)
  generalize hAe : va_A [ceX6 hp0 a_p0_numbers s_p0_length, ceX3 hp1 s_p1_size s_p1_heard s_p1_mode s_p1_cast s_p1_figures s_p1_voices s_p1_attacks s_p1_supports, caI G a_p0_numbers n_p0_numbers g_p0_numbers] s.heap.size = A at hD ⊢
  have hA : ∀ q : Nat, s.heap.size ≤ q → A q := fun q h => by rw [← hAe]; exact Or.inr h
  have hS : va_S A s.heap s.heap [] := va_S.rf
  have hP : va_P G.1 vwCl [ceX6 hp0 a_p0_numbers s_p0_length, ceX3 hp1 s_p1_size s_p1_heard s_p1_mode s_p1_cast s_p1_figures s_p1_voices s_p1_attacks s_p1_supports, caI G a_p0_numbers n_p0_numbers g_p0_numbers] s.heap := hP
  have hl := lv_entry ([.ref hp0, .ref hp1, .long x2]) (n := 6) (Nat.le_of_ble_eq_true rfl)
  rw [lg_entry_eq]
  generalize (lg_sl ([.ref hp0, .ref hp1, .long x2]) ++ List.replicate (6 - (lg_sl ([.ref hp0, .ref hp1, .long x2])).length) Slot.unset).toArray = ls at hl ⊢
  have hl : lv_has ls 6 [(0, .ref hp0), (1, .ref hp1), (2, .long x2)] := hl
  have kf0 := hts (.fieldLink RX4 15 "HallOfClaims$Hall" "size" "I") (List.mem_of_getElem? (i := 1) (by decide +kernel))
  have kf1 := hts (.fieldLink RX4 9 "HallOfClaims$Row" "length" "I") (List.mem_of_getElem? (i := 2) (by decide +kernel))
  have ki_X3 : ∀ w ∈ u_ws RX3 TX3 8, w ∈ wsX4_judged := by decide +kernel
  have ki_X6 : ∀ w ∈ u_ws RX6 TX6 2, w ∈ wsX4_judged := by decide +kernel
  have w35 : ∀ (K3 : Int32 → Prop), (∀ (v4 : Int32) , K3 v4 → ∀ (H : Heap) (locs : List Loc) (ls : Array Slot), va_P G.1 vwCl [ceX6 hp0 a_p0_numbers s_p0_length, ceX3 hp1 s_p1_size s_p1_heard s_p1_mode s_p1_cast s_p1_figures s_p1_voices s_p1_attacks s_p1_supports, caI G a_p0_numbers n_p0_numbers g_p0_numbers] H → va_D A [ceX6 hp0 a_p0_numbers s_p0_length, ceX3 hp1 s_p1_size s_p1_heard s_p1_mode s_p1_cast s_p1_figures s_p1_voices s_p1_attacks s_p1_supports, caI G a_p0_numbers n_p0_numbers g_p0_numbers] → va_S A s.heap H locs → lv_has ls 6 [(0, .ref hp0), (1, .ref hp1), (2, .long x2), (4, .int v4)] → W p l e (headSpec wsX4_judged ({ frames := 2, cells := 0, slots := 0, locals := 46 })).room s m ([.ref hp0, .ref hp1, .long x2] : List Value).toArray below meth c H locs 0 0 (MQ below (va_Qi (fun (r : Int32) (u : Unit) => post r) (hcB G A (fun u : Unit => [ceX6 hp0 a_p0_numbers s_p0_length, ceX3 hp1 s_p1_size s_p1_heard s_p1_mode s_p1_cast s_p1_figures s_p1_voices s_p1_attacks s_p1_supports, caI G a_p0_numbers n_p0_numbers g_p0_numbers])) A) ([.ref hp0, .ref hp1, .long x2] : List Value).toArray s 0 0 A) (F0 m 3 ls [])) → ∀ (v4 : Int32) (t0 : Int32) , wp_X4_judged_35 post n_p0_numbers g_p0_numbers s_p0_length s_p1_size s_p1_heard x2 K3 v4 t0 → ∀ (H : Heap) (locs : List Loc) (ls : Array Slot), va_P G.1 vwCl [ceX6 hp0 a_p0_numbers s_p0_length, ceX3 hp1 s_p1_size s_p1_heard s_p1_mode s_p1_cast s_p1_figures s_p1_voices s_p1_attacks s_p1_supports, caI G a_p0_numbers n_p0_numbers g_p0_numbers] H → va_D A [ceX6 hp0 a_p0_numbers s_p0_length, ceX3 hp1 s_p1_size s_p1_heard s_p1_mode s_p1_cast s_p1_figures s_p1_voices s_p1_attacks s_p1_supports, caI G a_p0_numbers n_p0_numbers g_p0_numbers] → va_S A s.heap H locs → lv_has ls 6 [(0, .ref hp0), (1, .ref hp1), (2, .long x2), (4, .int v4)] → W p l e (headSpec wsX4_judged ({ frames := 2, cells := 0, slots := 0, locals := 46 })).room s m ([.ref hp0, .ref hp1, .long x2] : List Value).toArray below meth c H locs 0 0 (MQ below (va_Qi (fun (r : Int32) (u : Unit) => post r) (hcB G A (fun u : Unit => [ceX6 hp0 a_p0_numbers s_p0_length, ceX3 hp1 s_p1_size s_p1_heard s_p1_mode s_p1_cast s_p1_figures s_p1_voices s_p1_attacks s_p1_supports, caI G a_p0_numbers n_p0_numbers g_p0_numbers])) A) ([.ref hp0, .ref hp1, .long x2] : List Value).toArray s 0 0 A) (F0 m 35 ls [.int t0]) := by
    intro K3 hK3 v4 t0 h H locs ls hP hD hS hl
    unfold wp_X4_judged_35 at h
    refine lv_istore (lv' := [(5, .int t0), (0, .ref hp0), (1, .ref hp1), (2, .long x2), (4, .int v4)]) hx hb dX4_judged_35 hl (by decide) rfl (fun ls hl => ?_)
    refine lv_aload_n hx hb dX4_judged_37 rfl (lv_at hl 1 rfl) ?_
    refine lv_iload hx hb dX4_judged_38 (lv_at hl 4 rfl) ?_
    refine lv_bipush (v := nI 9) hx hb dX4_judged_40 kb_9 ?_
    refine hc_ki (wr := [ceX3 hp1 s_p1_size s_p1_heard s_p1_mode s_p1_cast s_p1_figures s_p1_voices s_p1_attacks s_p1_supports]) (va_runV (As := [.int v4, .int (nI 9)]) (rest := []) ⟨hx, hb, hml, hown, hts⟩ (c_X6_at l G hp0 a_p0_numbers H.size n_p0_numbers s_p0_length g_p0_numbers v4 (nI 9) _ h) (cwV 2 hts gX4_judged_X6_at rfl rfl rfl (by decide +kernel) ⟨Nat.le_of_ble_eq_true rfl, Nat.le_of_ble_eq_true rfl⟩) (hc_pV hK hP hD [0, 2] rfl rfl (ci := 4) 0 rfl rfl) rfl rfl hl.1 rfl (lv_room (Nat.le_of_ble_eq_true rfl)) dX4_judged_42 ⟨Nat.le_refl _, Nat.le_refl _⟩) hP hD hS hA [0, 2] [1] rfl rfl rfl (by decide) (fun r42 u H locs h hP hD hS => ?_)
    try dsimp only at h
    have hP : va_P G.1 vwCl [ceX3 hp1 s_p1_size s_p1_heard s_p1_mode s_p1_cast s_p1_figures s_p1_voices s_p1_attacks s_p1_supports, ceX6 hp0 a_p0_numbers s_p0_length, caI G a_p0_numbers n_p0_numbers g_p0_numbers] H := hP
    have hD : va_D A [ceX3 hp1 s_p1_size s_p1_heard s_p1_mode s_p1_cast s_p1_figures s_p1_voices s_p1_attacks s_p1_supports, ceX6 hp0 a_p0_numbers s_p0_length, caI G a_p0_numbers n_p0_numbers g_p0_numbers] := hD
    refine lv_iload hx hb dX4_judged_45 (lv_at hl 0 rfl) ?_
    refine lv_icmp_eq (tgt := 53) hx hb dX4_judged_47 (by decide) (fun c => ?_) (fun c => ?_)
    · replace h := h.1 c
      refine lv_iinc (v := v4 + nI 1) (lv' := [(4, .int (v4 + nI 1)), (5, .int t0), (0, .ref hp0), (1, .ref hp1), (2, .long x2)]) hx hb dX4_judged_53 hl (k := 4) rfl (congrArg (fun q => v4 + q) kc_1) (by decide) rfl (fun ls hl => ?_)
      refine lv_goto (tgt := 3) hx hb dX4_judged_56 (by decide) ?_
      exact hK3 (v4 + nI 1) h _ _ _ (hP.sub [1, 0, 2] rfl) (hD.sub [1, 0, 2] (by decide) rfl) hS (lv_sub hl [2, 3, 4, 0] rfl)
    · replace h := h.2 c
      refine lv_iload hx hb dX4_judged_50 (lv_at hl 4 rfl) ?_
      exact W.iret (v := v4) hx hb hr (fun t ht hW => ⟨⟨_, (), rfl, h, ⟨by rw [ht]; exact (hP.sub [1, 0, 2] rfl), (hD.sub [1, 0, 2] (by decide) rfl)⟩⟩, hS.F ht⟩) hS.2.2 dX4_judged_52
  have w3 : ∀ (n : Nat) (v4 : Int32) , wp_X4_judged_3 post n_p0_numbers g_p0_numbers s_p0_length s_p1_size s_p1_heard x2 n v4 → ∀ (H : Heap) (locs : List Loc) (ls : Array Slot), va_P G.1 vwCl [ceX6 hp0 a_p0_numbers s_p0_length, ceX3 hp1 s_p1_size s_p1_heard s_p1_mode s_p1_cast s_p1_figures s_p1_voices s_p1_attacks s_p1_supports, caI G a_p0_numbers n_p0_numbers g_p0_numbers] H → va_D A [ceX6 hp0 a_p0_numbers s_p0_length, ceX3 hp1 s_p1_size s_p1_heard s_p1_mode s_p1_cast s_p1_figures s_p1_voices s_p1_attacks s_p1_supports, caI G a_p0_numbers n_p0_numbers g_p0_numbers] → va_S A s.heap H locs → lv_has ls 6 [(0, .ref hp0), (1, .ref hp1), (2, .long x2), (4, .int v4)] → W p l e (headSpec wsX4_judged ({ frames := 2, cells := 0, slots := 0, locals := 46 })).room s m ([.ref hp0, .ref hp1, .long x2] : List Value).toArray below meth c H locs 0 0 (MQ below (va_Qi (fun (r : Int32) (u : Unit) => post r) (hcB G A (fun u : Unit => [ceX6 hp0 a_p0_numbers s_p0_length, ceX3 hp1 s_p1_size s_p1_heard s_p1_mode s_p1_cast s_p1_figures s_p1_voices s_p1_attacks s_p1_supports, caI G a_p0_numbers n_p0_numbers g_p0_numbers])) A) ([.ref hp0, .ref hp1, .long x2] : List Value).toArray s 0 0 A) (F0 m 3 ls []) := by
    intro n
    induction n with
    | zero => intro v4 h; exact h.elim
    | succ n ih =>
      intro v4 h H locs ls hP hD hS hl
      unfold wp_X4_judged_3 at h
      refine lv_iload hx hb dX4_judged_3 (lv_at hl 3 rfl) ?_
      refine lv_aload_n hx hb dX4_judged_5 rfl (lv_at hl 1 rfl) ?_
      refine va_get (D := G.1) (ci := 2) (v := .int s_p1_size) (C := RX3) (T := TX3) (N := 8) hx hb hts ki_X3 hown hK.1 hP 1 rfl rfl 0 (by decide) kf0 (fun _ h9 => h9) rfl dX4_judged_6 ?_
      refine lv_icmp_ge (tgt := 59) hx hb dX4_judged_9 (by decide) (fun c => ?_) (fun c => ?_)
      · replace h := h.1 c
        refine lv_aload_n hx hb dX4_judged_59 rfl (lv_at hl 0 rfl) ?_
        refine va_get (D := G.1) (ci := 4) (v := .int s_p0_length) (C := RX6) (T := TX6) (N := 2) hx hb hts ki_X6 hown hK.1 hP 0 rfl rfl 1 (by decide) kf1 (fun _ h9 => h9) rfl dX4_judged_60 ?_
        refine lv_aload_n hx hb dX4_judged_63 rfl (lv_at hl 1 rfl) ?_
        refine va_get (D := G.1) (ci := 2) (v := .int s_p1_size) (C := RX3) (T := TX3) (N := 8) hx hb hts ki_X3 hown hK.1 hP 1 rfl rfl 0 (by decide) kf0 (fun _ h9 => h9) rfl dX4_judged_64 ?_
        refine lv_icmp_le (tgt := 77) hx hb dX4_judged_67 (by decide) (fun c => ?_) (fun c => ?_)
        · replace h := h.1 c
          refine lv_bipush (v := (-9 : Int32)) hx hb dX4_judged_77 kb_m9 ?_
          exact W.iret (v := (-9 : Int32)) hx hb hr (fun t ht hW => ⟨⟨_, (), rfl, h, ⟨by rw [ht]; exact hP, hD⟩⟩, hS.F ht⟩) hS.2.2 dX4_judged_79
        · replace h := h.2 c
          refine lv_aload_n hx hb dX4_judged_70 rfl (lv_at hl 1 rfl) ?_
          refine va_get (D := G.1) (ci := 2) (v := .int s_p1_size) (C := RX3) (T := TX3) (N := 8) hx hb hts ki_X3 hown hK.1 hP 1 rfl rfl 0 (by decide) kf0 (fun _ h9 => h9) rfl dX4_judged_71 ?_
          refine lv_goto (tgt := 79) hx hb dX4_judged_74 (by decide) ?_
          exact W.iret (v := s_p1_size) hx hb hr (fun t ht hW => ⟨⟨_, (), rfl, h, ⟨by rw [ht]; exact hP, hD⟩⟩, hS.F ht⟩) hS.2.2 dX4_judged_79
      · replace h := h.2 c
        refine lv_aload_n hx hb dX4_judged_12 rfl (lv_at hl 1 rfl) ?_
        refine lv_iload hx hb dX4_judged_13 (lv_at hl 3 rfl) ?_
        refine hc_ki (wr := [ceX6 hp0 a_p0_numbers s_p0_length, caI G a_p0_numbers n_p0_numbers g_p0_numbers]) (va_runV (As := [.int v4]) (rest := []) ⟨hx, hb, hml, hown, hts⟩ (c_X3_hears l G hp1 H.size s_p1_size s_p1_heard s_p1_mode s_p1_cast s_p1_figures s_p1_voices s_p1_attacks s_p1_supports v4 _ h) (cwV 1 hts gX4_judged_X3_hears rfl rfl rfl (by decide +kernel) ⟨Nat.le_of_ble_eq_true rfl, Nat.le_of_ble_eq_true rfl⟩) (hc_pV hK hP hD [1] rfl rfl (ci := 2) 1 rfl rfl) rfl rfl hl.1 rfl (lv_room (Nat.le_of_ble_eq_true rfl)) dX4_judged_15 ⟨Nat.le_refl _, Nat.le_refl _⟩) hP hD hS hA [1] [0, 2] rfl rfl rfl (by decide) (fun r15 u H locs h hP hD hS => ?_)
        try dsimp only at h
        have hP : va_P G.1 vwCl [ceX6 hp0 a_p0_numbers s_p0_length, caI G a_p0_numbers n_p0_numbers g_p0_numbers, ceX3 hp1 s_p1_size s_p1_heard s_p1_mode s_p1_cast s_p1_figures s_p1_voices s_p1_attacks s_p1_supports] H := hP
        have hD : va_D A [ceX6 hp0 a_p0_numbers s_p0_length, caI G a_p0_numbers n_p0_numbers g_p0_numbers, ceX3 hp1 s_p1_size s_p1_heard s_p1_mode s_p1_cast s_p1_figures s_p1_voices s_p1_attacks s_p1_supports] := hD
        refine lv_if_eq (tgt := 34) hx hb dX4_judged_18 (by decide) (fun c => ?_) (fun c => ?_)
        · replace h := h.1 c
          refine lv_iconst (v := nI 3) hx hb dX4_judged_34 kc_3 ?_
          exact w35 ((wp_X4_judged_3 post n_p0_numbers g_p0_numbers s_p0_length s_p1_size s_p1_heard x2 n)) ih v4 (nI 3) h _ _ _ (hP.sub [0, 2, 1] rfl) (hD.sub [0, 2, 1] (by decide) rfl) hS (lv_sub hl [0, 1, 2, 3] rfl)
        · replace h := h.2 c
          refine lv_aload_n hx hb dX4_judged_21 rfl (lv_at hl 0 rfl) ?_
          refine lv_lload_n hx hb dX4_judged_22 rfl (lv_at hl 2 rfl) ?_
          refine lv_iload hx hb dX4_judged_23 (lv_at hl 3 rfl) ?_
          refine hc_ki (wr := [ceX6 hp0 a_p0_numbers s_p0_length, caI G a_p0_numbers n_p0_numbers g_p0_numbers, ceX3 hp1 s_p1_size s_p1_heard s_p1_mode s_p1_cast s_p1_figures s_p1_voices s_p1_attacks s_p1_supports]) (va_runS (As := [.long x2, .int v4]) (rest := [.ref hp0]) ⟨hx, hb, hml, hown, hts⟩ (c_X0_get l G H.size x2 v4 _ h) (va_cwS 2 hts gX4_judged_X0_get rfl rfl rfl (by decide +kernel) ⟨Nat.le_of_ble_eq_true rfl, Nat.le_of_ble_eq_true rfl⟩) (hc_pS hK hP hD [] rfl rfl) rfl rfl hl.1 rfl (lv_room (Nat.le_of_ble_eq_true rfl)) dX4_judged_25 ⟨Nat.le_refl _, Nat.le_refl _⟩) hP hD hS hA [] [0, 1, 2] rfl rfl rfl (by decide) (fun r25 u H locs h hP hD hS => ?_)
          try dsimp only at h
          have hP : va_P G.1 vwCl [ceX6 hp0 a_p0_numbers s_p0_length, caI G a_p0_numbers n_p0_numbers g_p0_numbers, ceX3 hp1 s_p1_size s_p1_heard s_p1_mode s_p1_cast s_p1_figures s_p1_voices s_p1_attacks s_p1_supports] H := hP
          have hD : va_D A [ceX6 hp0 a_p0_numbers s_p0_length, caI G a_p0_numbers n_p0_numbers g_p0_numbers, ceX3 hp1 s_p1_size s_p1_heard s_p1_mode s_p1_cast s_p1_figures s_p1_voices s_p1_attacks s_p1_supports] := hD
          refine hc_ki (wr := [ceX3 hp1 s_p1_size s_p1_heard s_p1_mode s_p1_cast s_p1_figures s_p1_voices s_p1_attacks s_p1_supports]) (va_runS (As := [.ref hp0, .int r25]) (rest := []) ⟨hx, hb, hml, hown, hts⟩ (c_X4_dueBy l G hp0 a_p0_numbers H.size n_p0_numbers s_p0_length g_p0_numbers r25 _ h) (va_cwS 2 hts gX4_judged_X4_dueBy rfl rfl rfl (by decide +kernel) ⟨Nat.le_of_ble_eq_true rfl, Nat.le_of_ble_eq_true rfl⟩) (hc_pS hK hP hD [0, 1] rfl rfl) rfl rfl hl.1 rfl (lv_room (Nat.le_of_ble_eq_true rfl)) dX4_judged_28 ⟨Nat.le_refl _, Nat.le_refl _⟩) hP hD hS hA [0, 1] [2] rfl rfl rfl (by decide) (fun r28 u H locs h hP hD hS => ?_)
          try dsimp only at h
          have hP : va_P G.1 vwCl [ceX3 hp1 s_p1_size s_p1_heard s_p1_mode s_p1_cast s_p1_figures s_p1_voices s_p1_attacks s_p1_supports, ceX6 hp0 a_p0_numbers s_p0_length, caI G a_p0_numbers n_p0_numbers g_p0_numbers] H := hP
          have hD : va_D A [ceX3 hp1 s_p1_size s_p1_heard s_p1_mode s_p1_cast s_p1_figures s_p1_voices s_p1_attacks s_p1_supports, ceX6 hp0 a_p0_numbers s_p0_length, caI G a_p0_numbers n_p0_numbers g_p0_numbers] := hD
          refine lv_goto (tgt := 35) hx hb dX4_judged_31 (by decide) ?_
          exact w35 ((wp_X4_judged_3 post n_p0_numbers g_p0_numbers s_p0_length s_p1_size s_p1_heard x2 n)) ih v4 r28 h _ _ _ (hP.sub [1, 0, 2] rfl) (hD.sub [1, 0, 2] (by decide) rfl) hS (lv_sub hl [0, 1, 2, 3] rfl)
  unfold wp_X4_judged at h
  refine lv_iconst (v := nI 0) hx hb dX4_judged_0 kc_0 ?_
  refine lv_istore (lv' := [(4, .int (nI 0)), (0, .ref hp0), (1, .ref hp1), (2, .long x2)]) hx hb dX4_judged_1 hl (by decide) rfl (fun ls hl => ?_)
  obtain ⟨n3, h⟩ := h
  exact w3  n3 (nI 0) h _ _ _ hP hD hS (lv_sub hl [1, 2, 3, 0] rfl)
set_option maxHeartbeats 4000000 in
set_option maxRecDepth 100000 in
theorem c_X5_applyArrow (l : Launch) (G : hcG) (h0 : Nat) (a_letters : Nat) (a_draft : Nat) (sz : Nat) (s_draft_size : Int32) (s_draft_heard : Int32) (s_draft_mode : Int32) (s_draft_cast : Int64) (s_draft_figures : Int64) (s_draft_voices : Int64) (s_draft_attacks : Int64) (s_draft_supports : Int64) (x1 : Int32) (x2 : Int32) (x3 : Int32) (post : Int32 → Int64 → Int64 → Prop) (h : wp_X5_applyArrow post s_draft_size s_draft_attacks s_draft_supports x1 x2 x3) : Met l yX5_applyArrow wsX5_applyArrow ({ frames := 1, cells := 0, slots := 0, locals := 21 }) (hcPc G [.ref h0, .int x1, .int x2, .int x3] [ceX5 h0 a_letters a_draft, ceX3 a_draft s_draft_size s_draft_heard s_draft_mode s_draft_cast s_draft_figures s_draft_voices s_draft_attacks s_draft_supports] sz) (va_Qi (fun (r : Int32) (u : Int64 × Int64) => post r u.1 u.2) (hcB G (va_A [ceX5 h0 a_letters a_draft, ceX3 a_draft s_draft_size s_draft_heard s_draft_mode s_draft_cast s_draft_figures s_draft_voices s_draft_attacks s_draft_supports] sz) (fun u : Int64 × Int64 => [ceX5 h0 a_letters a_draft, ceX3 a_draft s_draft_size s_draft_heard s_draft_mode s_draft_cast s_draft_figures s_draft_voices u.1 u.2])) (va_A [ceX5 h0 a_letters a_draft, ceX3 a_draft s_draft_size s_draft_heard s_draft_mode s_draft_cast s_draft_figures s_draft_voices s_draft_attacks s_draft_supports] sz)) 0 0 (va_A [ceX5 h0 a_letters a_draft, ceX3 a_draft s_draft_size s_draft_heard s_draft_mode s_draft_cast s_draft_figures s_draft_voices s_draft_attacks s_draft_supports] sz) := by
  refine Met.ofW (cc := cX5_applyArrow) (maxL := 4) (ret := (some .boolean)) (by decide) rfl ?_
  intro p e s m args below meth c s₁ B hml hv
  obtain ⟨rfl, hsz, hP, hK, hD0⟩ := hv
  have hx := B.exec
  have hb := B.bytes
  have hr := B.returns
  have hts := atoms_spec (ws := wsX5_applyArrow) B.pre
  have hown : s.vm.findClass RX5 = some m.cls := findClass_of_methodNamed B.named
  have hlocks := B.notSynchronized
  subst hsz
  have hD := hD0.self (sz := s.heap.size)
  generalize hAe : va_A [ceX5 h0 a_letters a_draft, ceX3 a_draft s_draft_size s_draft_heard s_draft_mode s_draft_cast s_draft_figures s_draft_voices s_draft_attacks s_draft_supports] s.heap.size = A at hD ⊢
  have hA : ∀ q : Nat, s.heap.size ≤ q → A q := fun q h => by rw [← hAe]; exact Or.inr h
  have hS : va_S A s.heap s.heap [] := va_S.rf
  have hP : va_P G.1 vwCl [ceX5 h0 a_letters a_draft, ceX3 a_draft s_draft_size s_draft_heard s_draft_mode s_draft_cast s_draft_figures s_draft_voices s_draft_attacks s_draft_supports] s.heap := hP
  have hl := lv_entry ([.ref h0, .int x1, .int x2, .int x3]) (n := 4) (Nat.le_of_ble_eq_true rfl)
  rw [lg_entry_eq]
  generalize (lg_sl ([.ref h0, .int x1, .int x2, .int x3]) ++ List.replicate (4 - (lg_sl ([.ref h0, .int x1, .int x2, .int x3])).length) Slot.unset).toArray = ls at hl ⊢
  have hl : lv_has ls 4 [(0, .ref h0), (1, .int x1), (2, .int x2), (3, .int x3)] := hl
  have kf0 := hts (.fieldLink RX5 23 "HallOfClaims$Reader" "draft" "LHallOfClaims$Hall;") (List.mem_of_getElem? (i := 1) (by decide +kernel))
  have kf1 := hts (.fieldLink RX5 127 "HallOfClaims$Hall" "supports" "J") (List.mem_of_getElem? (i := 3) (by decide +kernel))
  have kf2 := hts (.fieldLink RX5 117 "HallOfClaims$Hall" "attacks" "J") (List.mem_of_getElem? (i := 2) (by decide +kernel))
  have ki_X5 : ∀ w ∈ u_ws RX5 TX5 2, w ∈ wsX5_applyArrow := by decide +kernel
  have ki_X3 : ∀ w ∈ u_ws RX3 TX3 8, w ∈ wsX5_applyArrow := by decide +kernel
  unfold wp_X5_applyArrow at h
  refine lv_aload_n hx hb dX5_applyArrow_0 rfl (lv_at hl 0 rfl) ?_
  refine va_get (D := G.1) (ci := 3) (v := .ref a_draft) (C := RX5) (T := TX5) (N := 2) hx hb hts ki_X5 hown hK.1 hP 0 rfl rfl 1 (by decide) kf0 (fun _ h9 => h9) rfl dX5_applyArrow_1 ?_
  refine lv_iload_n hx hb dX5_applyArrow_4 rfl (lv_at hl 1 rfl) ?_
  refine hc_ki (wr := [ceX5 h0 a_letters a_draft]) (va_runV (As := [.int x1]) (rest := []) ⟨hx, hb, hml, hown, hts⟩ (c_X3_knows l G a_draft s.heap.size s_draft_size s_draft_heard s_draft_mode s_draft_cast s_draft_figures s_draft_voices s_draft_attacks s_draft_supports x1 _ h) (cwV 1 hts gX5_applyArrow_X3_knows rfl rfl rfl (by decide +kernel) ⟨Nat.le_of_ble_eq_true rfl, Nat.le_of_ble_eq_true rfl⟩) (hc_pV hK hP hD [1] rfl rfl (ci := 2) 1 rfl rfl) rfl rfl hl.1 rfl (lv_room (Nat.le_of_ble_eq_true rfl)) dX5_applyArrow_5 ⟨Nat.le_refl _, Nat.le_refl _⟩) hP hD hS hA [1] [0] rfl rfl rfl (by decide) (fun r5 u H locs h hP hD hS => ?_)
  try dsimp only at h
  have hP : va_P G.1 vwCl [ceX5 h0 a_letters a_draft, ceX3 a_draft s_draft_size s_draft_heard s_draft_mode s_draft_cast s_draft_figures s_draft_voices s_draft_attacks s_draft_supports] H := hP
  have hD : va_D A [ceX5 h0 a_letters a_draft, ceX3 a_draft s_draft_size s_draft_heard s_draft_mode s_draft_cast s_draft_figures s_draft_voices s_draft_attacks s_draft_supports] := hD
  refine lv_if_eq (tgt := 27) hx hb dX5_applyArrow_8 (by decide) (fun c => ?_) (fun c => ?_)
  · replace h := h.1 c
    refine lv_iconst (v := nI 0) hx hb dX5_applyArrow_27 kc_0 ?_
    exact W.zret (v := nI 0) hx hb hr rfl (fun t ht hW => ⟨⟨_, ⟨s_draft_attacks, s_draft_supports⟩, rfl, h, ⟨by rw [ht]; exact hP, hD⟩⟩, hS.F ht⟩) hS.2.2 dX5_applyArrow_28
  · replace h := h.2 c
    refine lv_aload_n hx hb dX5_applyArrow_11 rfl (lv_at hl 0 rfl) ?_
    refine va_get (D := G.1) (ci := 3) (v := .ref a_draft) (C := RX5) (T := TX5) (N := 2) hx hb hts ki_X5 hown hK.1 hP 0 rfl rfl 1 (by decide) kf0 (fun _ h9 => h9) rfl dX5_applyArrow_12 ?_
    refine lv_iload_n hx hb dX5_applyArrow_15 rfl (lv_at hl 3 rfl) ?_
    refine hc_ki (wr := [ceX5 h0 a_letters a_draft]) (va_runV (As := [.int x3]) (rest := []) ⟨hx, hb, hml, hown, hts⟩ (c_X3_knows l G a_draft H.size s_draft_size s_draft_heard s_draft_mode s_draft_cast s_draft_figures s_draft_voices s_draft_attacks s_draft_supports x3 _ h) (cwV 1 hts gX5_applyArrow_X3_knows rfl rfl rfl (by decide +kernel) ⟨Nat.le_of_ble_eq_true rfl, Nat.le_of_ble_eq_true rfl⟩) (hc_pV hK hP hD [1] rfl rfl (ci := 2) 1 rfl rfl) rfl rfl hl.1 rfl (lv_room (Nat.le_of_ble_eq_true rfl)) dX5_applyArrow_16 ⟨Nat.le_refl _, Nat.le_refl _⟩) hP hD hS hA [1] [0] rfl rfl rfl (by decide) (fun r16 u H locs h hP hD hS => ?_)
    try dsimp only at h
    have hP : va_P G.1 vwCl [ceX5 h0 a_letters a_draft, ceX3 a_draft s_draft_size s_draft_heard s_draft_mode s_draft_cast s_draft_figures s_draft_voices s_draft_attacks s_draft_supports] H := hP
    have hD : va_D A [ceX5 h0 a_letters a_draft, ceX3 a_draft s_draft_size s_draft_heard s_draft_mode s_draft_cast s_draft_figures s_draft_voices s_draft_attacks s_draft_supports] := hD
    refine lv_if_eq (tgt := 27) hx hb dX5_applyArrow_19 (by decide) (fun c => ?_) (fun c => ?_)
    · replace h := h.1 c
      refine lv_iconst (v := nI 0) hx hb dX5_applyArrow_27 kc_0 ?_
      exact W.zret (v := nI 0) hx hb hr rfl (fun t ht hW => ⟨⟨_, ⟨s_draft_attacks, s_draft_supports⟩, rfl, h, ⟨by rw [ht]; exact hP, hD⟩⟩, hS.F ht⟩) hS.2.2 dX5_applyArrow_28
    · replace h := h.2 c
      refine lv_iload_n hx hb dX5_applyArrow_22 rfl (lv_at hl 1 rfl) ?_
      refine lv_iload_n hx hb dX5_applyArrow_23 rfl (lv_at hl 3 rfl) ?_
      refine lv_icmp_ne (tgt := 29) hx hb dX5_applyArrow_24 (by decide) (fun c => ?_) (fun c => ?_)
      · replace h := h.1 c
        refine lv_iload_n hx hb dX5_applyArrow_29 rfl (lv_at hl 2 rfl) ?_
        refine lv_bipush (v := nI 62) hx hb dX5_applyArrow_30 kb_62 ?_
        refine lv_icmp_ne (tgt := 55) hx hb dX5_applyArrow_32 (by decide) (fun c => ?_) (fun c => ?_)
        · replace h := h.1 c
          refine lv_aload_n hx hb dX5_applyArrow_55 rfl (lv_at hl 0 rfl) ?_
          refine va_get (D := G.1) (ci := 3) (v := .ref a_draft) (C := RX5) (T := TX5) (N := 2) hx hb hts ki_X5 hown hK.1 hP 0 rfl rfl 1 (by decide) kf0 (fun _ h9 => h9) rfl dX5_applyArrow_56 ?_
          refine lv_dup hx hb dX5_applyArrow_59 rfl ?_
          refine va_get (D := G.1) (ci := 2) (v := .long s_draft_supports) (C := RX3) (T := TX3) (N := 8) hx hb hts ki_X3 hown hK.1 hP 1 rfl rfl 7 (by decide) kf1 (fun _ h9 => h9) rfl dX5_applyArrow_60 ?_
          refine lv_iload_n hx hb dX5_applyArrow_63 rfl (lv_at hl 1 rfl) ?_
          refine lv_iload_n hx hb dX5_applyArrow_64 rfl (lv_at hl 3 rfl) ?_
          refine hc_kl (wr := [ceX5 h0 a_letters a_draft, ceX3 a_draft s_draft_size s_draft_heard s_draft_mode s_draft_cast s_draft_figures s_draft_voices s_draft_attacks s_draft_supports]) (va_runS (As := [.int x1, .int x3]) (rest := [.long s_draft_supports, .ref a_draft]) ⟨hx, hb, hml, hown, hts⟩ (c_X0_pair l G H.size x1 x3 _ h) (va_cwS 2 hts gX5_applyArrow_X0_pair rfl rfl rfl (by decide +kernel) ⟨Nat.le_of_ble_eq_true rfl, Nat.le_of_ble_eq_true rfl⟩) (hc_pS hK hP hD [] rfl rfl) rfl rfl hl.1 rfl (lv_room (Nat.le_of_ble_eq_true rfl)) dX5_applyArrow_65 ⟨Nat.le_refl _, Nat.le_refl _⟩) hP hD hS hA [] [0, 1] rfl rfl rfl (by decide) (fun r65 u H locs h hP hD hS => ?_)
          try dsimp only at h
          have hP : va_P G.1 vwCl [ceX5 h0 a_letters a_draft, ceX3 a_draft s_draft_size s_draft_heard s_draft_mode s_draft_cast s_draft_figures s_draft_voices s_draft_attacks s_draft_supports] H := hP
          have hD : va_D A [ceX5 h0 a_letters a_draft, ceX3 a_draft s_draft_size s_draft_heard s_draft_mode s_draft_cast s_draft_figures s_draft_voices s_draft_attacks s_draft_supports] := hD
          refine lv_lor hx hb dX5_applyArrow_68 ?_
          refine va_put (D := G.1) (ci := 2) (v := .long (s_draft_supports ||| r65)) (ty := .long) (C := RX3) (T := TX3) (N := 8) hx hb hts ki_X3 tyX3 tyX3_ok nmX3 hown hK.1 hP hD hS 1 rfl rfl 7 (by decide) kf1 (fun _ h9 => h9) rfl (by decide +kernel) rfl rfl (Nat.le_of_ble_eq_true rfl) dX5_applyArrow_69 (fun H locs hP hD hS => ?_)
          have hP : va_P G.1 vwCl [ceX5 h0 a_letters a_draft, ceX3 a_draft s_draft_size s_draft_heard s_draft_mode s_draft_cast s_draft_figures s_draft_voices s_draft_attacks (s_draft_supports ||| r65)] H := hP
          have hD : va_D A [ceX5 h0 a_letters a_draft, ceX3 a_draft s_draft_size s_draft_heard s_draft_mode s_draft_cast s_draft_figures s_draft_voices s_draft_attacks (s_draft_supports ||| r65)] := hD
          refine lv_iconst (v := nI 1) hx hb dX5_applyArrow_72 kc_1 ?_
          exact W.zret (v := nI 1) hx hb hr rfl (fun t ht hW => ⟨⟨_, ⟨s_draft_attacks, (s_draft_supports ||| r65)⟩, rfl, h, ⟨by rw [ht]; exact hP, hD⟩⟩, hS.F ht⟩) hS.2.2 dX5_applyArrow_73
        · replace h := h.2 c
          refine lv_aload_n hx hb dX5_applyArrow_35 rfl (lv_at hl 0 rfl) ?_
          refine va_get (D := G.1) (ci := 3) (v := .ref a_draft) (C := RX5) (T := TX5) (N := 2) hx hb hts ki_X5 hown hK.1 hP 0 rfl rfl 1 (by decide) kf0 (fun _ h9 => h9) rfl dX5_applyArrow_36 ?_
          refine lv_dup hx hb dX5_applyArrow_39 rfl ?_
          refine va_get (D := G.1) (ci := 2) (v := .long s_draft_attacks) (C := RX3) (T := TX3) (N := 8) hx hb hts ki_X3 hown hK.1 hP 1 rfl rfl 6 (by decide) kf2 (fun _ h9 => h9) rfl dX5_applyArrow_40 ?_
          refine lv_iload_n hx hb dX5_applyArrow_43 rfl (lv_at hl 1 rfl) ?_
          refine lv_iload_n hx hb dX5_applyArrow_44 rfl (lv_at hl 3 rfl) ?_
          refine hc_kl (wr := [ceX5 h0 a_letters a_draft, ceX3 a_draft s_draft_size s_draft_heard s_draft_mode s_draft_cast s_draft_figures s_draft_voices s_draft_attacks s_draft_supports]) (va_runS (As := [.int x1, .int x3]) (rest := [.long s_draft_attacks, .ref a_draft]) ⟨hx, hb, hml, hown, hts⟩ (c_X0_pair l G H.size x1 x3 _ h) (va_cwS 2 hts gX5_applyArrow_X0_pair rfl rfl rfl (by decide +kernel) ⟨Nat.le_of_ble_eq_true rfl, Nat.le_of_ble_eq_true rfl⟩) (hc_pS hK hP hD [] rfl rfl) rfl rfl hl.1 rfl (lv_room (Nat.le_of_ble_eq_true rfl)) dX5_applyArrow_45 ⟨Nat.le_refl _, Nat.le_refl _⟩) hP hD hS hA [] [0, 1] rfl rfl rfl (by decide) (fun r45 u H locs h hP hD hS => ?_)
          try dsimp only at h
          have hP : va_P G.1 vwCl [ceX5 h0 a_letters a_draft, ceX3 a_draft s_draft_size s_draft_heard s_draft_mode s_draft_cast s_draft_figures s_draft_voices s_draft_attacks s_draft_supports] H := hP
          have hD : va_D A [ceX5 h0 a_letters a_draft, ceX3 a_draft s_draft_size s_draft_heard s_draft_mode s_draft_cast s_draft_figures s_draft_voices s_draft_attacks s_draft_supports] := hD
          refine lv_lor hx hb dX5_applyArrow_48 ?_
          refine va_put (D := G.1) (ci := 2) (v := .long (s_draft_attacks ||| r45)) (ty := .long) (C := RX3) (T := TX3) (N := 8) hx hb hts ki_X3 tyX3 tyX3_ok nmX3 hown hK.1 hP hD hS 1 rfl rfl 6 (by decide) kf2 (fun _ h9 => h9) rfl (by decide +kernel) rfl rfl (Nat.le_of_ble_eq_true rfl) dX5_applyArrow_49 (fun H locs hP hD hS => ?_)
          have hP : va_P G.1 vwCl [ceX5 h0 a_letters a_draft, ceX3 a_draft s_draft_size s_draft_heard s_draft_mode s_draft_cast s_draft_figures s_draft_voices (s_draft_attacks ||| r45) s_draft_supports] H := hP
          have hD : va_D A [ceX5 h0 a_letters a_draft, ceX3 a_draft s_draft_size s_draft_heard s_draft_mode s_draft_cast s_draft_figures s_draft_voices (s_draft_attacks ||| r45) s_draft_supports] := hD
          refine lv_goto (tgt := 72) hx hb dX5_applyArrow_52 (by decide) ?_
          refine lv_iconst (v := nI 1) hx hb dX5_applyArrow_72 kc_1 ?_
          exact W.zret (v := nI 1) hx hb hr rfl (fun t ht hW => ⟨⟨_, ⟨(s_draft_attacks ||| r45), s_draft_supports⟩, rfl, h, ⟨by rw [ht]; exact hP, hD⟩⟩, hS.F ht⟩) hS.2.2 dX5_applyArrow_73
      · replace h := h.2 c
        refine lv_iconst (v := nI 0) hx hb dX5_applyArrow_27 kc_0 ?_
        exact W.zret (v := nI 0) hx hb hr rfl (fun t ht hW => ⟨⟨_, ⟨s_draft_attacks, s_draft_supports⟩, rfl, h, ⟨by rw [ht]; exact hP, hD⟩⟩, hS.F ht⟩) hS.2.2 dX5_applyArrow_28
set_option maxHeartbeats 4000000 in
set_option maxRecDepth 100000 in
theorem c_X5_claimAt (l : Launch) (G : hcG) (h0 : Nat) (a_letters : Nat) (a_draft : Nat) (a_letters_numbers : Nat) (sz : Nat) (s_letters_length : Int32) (g_letters_numbers : Nat → Int32) (x1 : Int32) (post : Int32 → Prop) (h : wp_X5_claimAt post g_letters_numbers s_letters_length x1) : Met l yX5_claimAt wsX5_claimAt ({ frames := 1, cells := 0, slots := 0, locals := 22 }) (hcPc G [.ref h0, .int x1] [ceX5 h0 a_letters a_draft, ceX6 a_letters a_letters_numbers s_letters_length, caI G a_letters_numbers 96 g_letters_numbers] sz) (va_Qi (fun (r : Int32) (u : Unit) => post r) (hcB G (va_A [ceX5 h0 a_letters a_draft, ceX6 a_letters a_letters_numbers s_letters_length, caI G a_letters_numbers 96 g_letters_numbers] sz) (fun u : Unit => [ceX5 h0 a_letters a_draft, ceX6 a_letters a_letters_numbers s_letters_length, caI G a_letters_numbers 96 g_letters_numbers])) (va_A [ceX5 h0 a_letters a_draft, ceX6 a_letters a_letters_numbers s_letters_length, caI G a_letters_numbers 96 g_letters_numbers] sz)) 0 0 (va_A [ceX5 h0 a_letters a_draft, ceX6 a_letters a_letters_numbers s_letters_length, caI G a_letters_numbers 96 g_letters_numbers] sz) := by
  refine Met.ofW (cc := cX5_claimAt) (maxL := 2) (ret := (some .int)) (by decide) rfl ?_
  intro p e s m args below meth c s₁ B hml hv
  obtain ⟨rfl, hsz, hP, hK, hD0⟩ := hv
  have hx := B.exec
  have hb := B.bytes
  have hr := B.returns
  have hts := atoms_spec (ws := wsX5_claimAt) B.pre
  have hown : s.vm.findClass RX5 = some m.cls := findClass_of_methodNamed B.named
  have hlocks := B.notSynchronized
  subst hsz
  have hD := hD0.self (sz := s.heap.size)
  generalize hAe : va_A [ceX5 h0 a_letters a_draft, ceX6 a_letters a_letters_numbers s_letters_length, caI G a_letters_numbers 96 g_letters_numbers] s.heap.size = A at hD ⊢
  have hA : ∀ q : Nat, s.heap.size ≤ q → A q := fun q h => by rw [← hAe]; exact Or.inr h
  have hS : va_S A s.heap s.heap [] := va_S.rf
  have hP : va_P G.1 vwCl [ceX5 h0 a_letters a_draft, ceX6 a_letters a_letters_numbers s_letters_length, caI G a_letters_numbers 96 g_letters_numbers] s.heap := hP
  have hl := lv_entry ([.ref h0, .int x1]) (n := 2) (Nat.le_of_ble_eq_true rfl)
  rw [lg_entry_eq]
  generalize (lg_sl ([.ref h0, .int x1]) ++ List.replicate (2 - (lg_sl ([.ref h0, .int x1])).length) Slot.unset).toArray = ls at hl ⊢
  have hl : lv_has ls 2 [(0, .ref h0), (1, .int x1)] := hl
  have kf0 := hts (.fieldLink RX5 14 "HallOfClaims$Reader" "letters" "LHallOfClaims$Row;") (List.mem_of_getElem? (i := 1) (by decide +kernel))
  have ki_X5 : ∀ w ∈ u_ws RX5 TX5 2, w ∈ wsX5_claimAt := by decide +kernel
  unfold wp_X5_claimAt at h
  refine lv_aload_n hx hb dX5_claimAt_0 rfl (lv_at hl 0 rfl) ?_
  refine va_get (D := G.1) (ci := 3) (v := .ref a_letters) (C := RX5) (T := TX5) (N := 2) hx hb hts ki_X5 hown hK.1 hP 0 rfl rfl 0 (by decide) kf0 (fun _ h9 => h9) rfl dX5_claimAt_1 ?_
  refine lv_iload_n hx hb dX5_claimAt_4 rfl (lv_at hl 1 rfl) ?_
  refine lv_iconst (v := (-1 : Int32)) hx hb dX5_claimAt_5 kc_m1 ?_
  refine hc_ki (wr := [ceX5 h0 a_letters a_draft]) (va_runV (As := [.int x1, .int ((-1 : Int32))]) (rest := []) ⟨hx, hb, hml, hown, hts⟩ (c_X6_at l G a_letters a_letters_numbers s.heap.size 96 s_letters_length g_letters_numbers x1 ((-1 : Int32)) _ h) (cwV 2 hts gX5_claimAt_X6_at rfl rfl rfl (by decide +kernel) ⟨Nat.le_of_ble_eq_true rfl, Nat.le_of_ble_eq_true rfl⟩) (hc_pV hK hP hD [1, 2] rfl rfl (ci := 4) 1 rfl rfl) rfl rfl hl.1 rfl (lv_room (Nat.le_of_ble_eq_true rfl)) dX5_claimAt_6 ⟨Nat.le_refl _, Nat.le_refl _⟩) hP hD hS hA [1, 2] [0] rfl rfl rfl (by decide) (fun r6 u H locs h hP hD hS => ?_)
  try dsimp only at h
  have hP : va_P G.1 vwCl [ceX5 h0 a_letters a_draft, ceX6 a_letters a_letters_numbers s_letters_length, caI G a_letters_numbers 96 g_letters_numbers] H := hP
  have hD : va_D A [ceX5 h0 a_letters a_draft, ceX6 a_letters a_letters_numbers s_letters_length, caI G a_letters_numbers 96 g_letters_numbers] := hD
  refine lv_bipush (v := nI 97) hx hb dX5_claimAt_9 kb_97 ?_
  refine lv_isub hx hb dX5_claimAt_11 ?_
  exact W.iret (v := r6 - (nI 97)) hx hb hr (fun t ht hW => ⟨⟨_, (), rfl, h, ⟨by rw [ht]; exact hP, hD⟩⟩, hS.F ht⟩) hS.2.2 dX5_claimAt_12
set_option maxHeartbeats 4000000 in
set_option maxRecDepth 100000 in
theorem c_X5_applyChain (l : Launch) (G : hcG) (h0 : Nat) (a_letters : Nat) (a_draft : Nat) (a_letters_numbers : Nat) (sz : Nat) (s_letters_length : Int32) (s_draft_size : Int32) (s_draft_heard : Int32) (s_draft_mode : Int32) (s_draft_cast : Int64) (s_draft_figures : Int64) (s_draft_voices : Int64) (s_draft_attacks : Int64) (s_draft_supports : Int64) (g_letters_numbers : Nat → Int32) (x1 : Int32) (x2 : Int32) (post : Int32 → Int64 → Int64 → Prop) (h : wp_X5_applyChain post g_letters_numbers s_letters_length s_draft_size s_draft_attacks s_draft_supports x1 x2) : Met l yX5_applyChain wsX5_applyChain ({ frames := 2, cells := 0, slots := 0, locals := 44 }) (hcPc G [.ref h0, .int x1, .int x2] [ceX5 h0 a_letters a_draft, ceX6 a_letters a_letters_numbers s_letters_length, ceX3 a_draft s_draft_size s_draft_heard s_draft_mode s_draft_cast s_draft_figures s_draft_voices s_draft_attacks s_draft_supports, caI G a_letters_numbers 96 g_letters_numbers] sz) (va_Qi (fun (r : Int32) (u : Int64 × Int64) => post r u.1 u.2) (hcB G (va_A [ceX5 h0 a_letters a_draft, ceX6 a_letters a_letters_numbers s_letters_length, ceX3 a_draft s_draft_size s_draft_heard s_draft_mode s_draft_cast s_draft_figures s_draft_voices s_draft_attacks s_draft_supports, caI G a_letters_numbers 96 g_letters_numbers] sz) (fun u : Int64 × Int64 => [ceX5 h0 a_letters a_draft, ceX6 a_letters a_letters_numbers s_letters_length, ceX3 a_draft s_draft_size s_draft_heard s_draft_mode s_draft_cast s_draft_figures s_draft_voices u.1 u.2, caI G a_letters_numbers 96 g_letters_numbers])) (va_A [ceX5 h0 a_letters a_draft, ceX6 a_letters a_letters_numbers s_letters_length, ceX3 a_draft s_draft_size s_draft_heard s_draft_mode s_draft_cast s_draft_figures s_draft_voices s_draft_attacks s_draft_supports, caI G a_letters_numbers 96 g_letters_numbers] sz)) 0 0 (va_A [ceX5 h0 a_letters a_draft, ceX6 a_letters a_letters_numbers s_letters_length, ceX3 a_draft s_draft_size s_draft_heard s_draft_mode s_draft_cast s_draft_figures s_draft_voices s_draft_attacks s_draft_supports, caI G a_letters_numbers 96 g_letters_numbers] sz) := by
  refine Met.ofW (cc := cX5_applyChain) (maxL := 4) (ret := (some .boolean)) (by decide) rfl ?_
  intro p e s m args below meth c s₁ B hml hv
  obtain ⟨rfl, hsz, hP, hK, hD0⟩ := hv
  have hx := B.exec
  have hb := B.bytes
  have hr := B.returns
  have hts := atoms_spec (ws := wsX5_applyChain) B.pre
  have hown : s.vm.findClass RX5 = some m.cls := findClass_of_methodNamed B.named
  have hlocks := B.notSynchronized
  subst hsz
  have hD := hD0.self (sz := s.heap.size)
  generalize hAe : va_A [ceX5 h0 a_letters a_draft, ceX6 a_letters a_letters_numbers s_letters_length, ceX3 a_draft s_draft_size s_draft_heard s_draft_mode s_draft_cast s_draft_figures s_draft_voices s_draft_attacks s_draft_supports, caI G a_letters_numbers 96 g_letters_numbers] s.heap.size = A at hD ⊢
  have hA : ∀ q : Nat, s.heap.size ≤ q → A q := fun q h => by rw [← hAe]; exact Or.inr h
  have hS : va_S A s.heap s.heap [] := va_S.rf
  have hP : va_P G.1 vwCl [ceX5 h0 a_letters a_draft, ceX6 a_letters a_letters_numbers s_letters_length, ceX3 a_draft s_draft_size s_draft_heard s_draft_mode s_draft_cast s_draft_figures s_draft_voices s_draft_attacks s_draft_supports, caI G a_letters_numbers 96 g_letters_numbers] s.heap := hP
  have hl := lv_entry ([.ref h0, .int x1, .int x2]) (n := 4) (Nat.le_of_ble_eq_true rfl)
  rw [lg_entry_eq]
  generalize (lg_sl ([.ref h0, .int x1, .int x2]) ++ List.replicate (4 - (lg_sl ([.ref h0, .int x1, .int x2])).length) Slot.unset).toArray = ls at hl ⊢
  have hl : lv_has ls 4 [(0, .ref h0), (1, .int x1), (2, .int x2)] := hl
  have kf0 := hts (.fieldLink RX5 14 "HallOfClaims$Reader" "letters" "LHallOfClaims$Row;") (List.mem_of_getElem? (i := 1) (by decide +kernel))
  have ki_X5 : ∀ w ∈ u_ws RX5 TX5 2, w ∈ wsX5_applyChain := by decide +kernel
  have w4 : ∀ (n : Nat) (v3 : Int32) (s_draft_attacks : Int64) (s_draft_supports : Int64) , wp_X5_applyChain_4 post g_letters_numbers s_letters_length s_draft_size x1 x2 n v3 s_draft_attacks s_draft_supports → ∀ (H : Heap) (locs : List Loc) (ls : Array Slot), va_P G.1 vwCl [ceX5 h0 a_letters a_draft, ceX6 a_letters a_letters_numbers s_letters_length, ceX3 a_draft s_draft_size s_draft_heard s_draft_mode s_draft_cast s_draft_figures s_draft_voices s_draft_attacks s_draft_supports, caI G a_letters_numbers 96 g_letters_numbers] H → va_D A [ceX5 h0 a_letters a_draft, ceX6 a_letters a_letters_numbers s_letters_length, ceX3 a_draft s_draft_size s_draft_heard s_draft_mode s_draft_cast s_draft_figures s_draft_voices s_draft_attacks s_draft_supports, caI G a_letters_numbers 96 g_letters_numbers] → va_S A s.heap H locs → lv_has ls 4 [(0, .ref h0), (2, .int x2), (3, .int v3)] → W p l e (headSpec wsX5_applyChain ({ frames := 2, cells := 0, slots := 0, locals := 44 })).room s m ([.ref h0, .int x1, .int x2] : List Value).toArray below meth c H locs 0 0 (MQ below (va_Qi (fun (r : Int32) (u : Int64 × Int64) => post r u.1 u.2) (hcB G A (fun u : Int64 × Int64 => [ceX5 h0 a_letters a_draft, ceX6 a_letters a_letters_numbers s_letters_length, ceX3 a_draft s_draft_size s_draft_heard s_draft_mode s_draft_cast s_draft_figures s_draft_voices u.1 u.2, caI G a_letters_numbers 96 g_letters_numbers])) A) ([.ref h0, .int x1, .int x2] : List Value).toArray s 0 0 A) (F0 m 4 ls []) := by
    intro n
    induction n with
    | zero => intro v3 s_draft_attacks s_draft_supports h; exact h.elim
    | succ n ih =>
      intro v3 s_draft_attacks s_draft_supports h H locs ls hP hD hS hl
      unfold wp_X5_applyChain_4 at h
      refine lv_iload_n hx hb dX5_applyChain_4 rfl (lv_at hl 2 rfl) ?_
      refine lv_iload_n hx hb dX5_applyChain_5 rfl (lv_at hl 1 rfl) ?_
      refine lv_icmp_ge (tgt := 47) hx hb dX5_applyChain_6 (by decide) (fun c => ?_) (fun c => ?_)
      · replace h := h.1 c
        refine lv_iconst (v := nI 1) hx hb dX5_applyChain_47 kc_1 ?_
        exact W.zret (v := nI 1) hx hb hr rfl (fun t ht hW => ⟨⟨_, ⟨s_draft_attacks, s_draft_supports⟩, rfl, h, ⟨by rw [ht]; exact hP, hD⟩⟩, hS.F ht⟩) hS.2.2 dX5_applyChain_48
      · replace h := h.2 c
        refine lv_aload_n hx hb dX5_applyChain_9 rfl (lv_at hl 0 rfl) ?_
        refine lv_aload_n hx hb dX5_applyChain_10 rfl (lv_at hl 0 rfl) ?_
        refine lv_iload_n hx hb dX5_applyChain_11 rfl (lv_at hl 2 rfl) ?_
        refine lv_iconst (v := nI 1) hx hb dX5_applyChain_12 kc_1 ?_
        refine lv_isub hx hb dX5_applyChain_13 ?_
        refine hc_ki (wr := [ceX3 a_draft s_draft_size s_draft_heard s_draft_mode s_draft_cast s_draft_figures s_draft_voices s_draft_attacks s_draft_supports]) (va_runV (As := [.int (v3 - (nI 1))]) (rest := [.ref h0]) ⟨hx, hb, hml, hown, hts⟩ (c_X5_claimAt l G h0 a_letters a_draft a_letters_numbers H.size s_letters_length g_letters_numbers (v3 - (nI 1)) _ h) (cwV 1 hts gX5_applyChain_X5_claimAt rfl rfl rfl (by decide +kernel) ⟨Nat.le_of_ble_eq_true rfl, Nat.le_of_ble_eq_true rfl⟩) (hc_pV hK hP hD [0, 1, 3] rfl rfl (ci := 3) 0 rfl rfl) rfl rfl hl.1 rfl (lv_room (Nat.le_of_ble_eq_true rfl)) dX5_applyChain_14 ⟨Nat.le_refl _, Nat.le_refl _⟩) hP hD hS hA [0, 1, 3] [2] rfl rfl rfl (by decide) (fun r14 u H locs h hP hD hS => ?_)
        try dsimp only at h
        have hP : va_P G.1 vwCl [ceX3 a_draft s_draft_size s_draft_heard s_draft_mode s_draft_cast s_draft_figures s_draft_voices s_draft_attacks s_draft_supports, ceX5 h0 a_letters a_draft, ceX6 a_letters a_letters_numbers s_letters_length, caI G a_letters_numbers 96 g_letters_numbers] H := hP
        have hD : va_D A [ceX3 a_draft s_draft_size s_draft_heard s_draft_mode s_draft_cast s_draft_figures s_draft_voices s_draft_attacks s_draft_supports, ceX5 h0 a_letters a_draft, ceX6 a_letters a_letters_numbers s_letters_length, caI G a_letters_numbers 96 g_letters_numbers] := hD
        refine lv_aload_n hx hb dX5_applyChain_17 rfl (lv_at hl 0 rfl) ?_
        refine va_get (D := G.1) (ci := 3) (v := .ref a_letters) (C := RX5) (T := TX5) (N := 2) hx hb hts ki_X5 hown hK.1 hP 1 rfl rfl 0 (by decide) kf0 (fun _ h9 => h9) rfl dX5_applyChain_18 ?_
        refine lv_iload_n hx hb dX5_applyChain_21 rfl (lv_at hl 2 rfl) ?_
        refine lv_iconst (v := (-1 : Int32)) hx hb dX5_applyChain_22 kc_m1 ?_
        refine hc_ki (wr := [ceX3 a_draft s_draft_size s_draft_heard s_draft_mode s_draft_cast s_draft_figures s_draft_voices s_draft_attacks s_draft_supports, ceX5 h0 a_letters a_draft]) (va_runV (As := [.int v3, .int ((-1 : Int32))]) (rest := [.int r14, .ref h0]) ⟨hx, hb, hml, hown, hts⟩ (c_X6_at l G a_letters a_letters_numbers H.size 96 s_letters_length g_letters_numbers v3 ((-1 : Int32)) _ h) (cwV 2 hts gX5_applyChain_X6_at rfl rfl rfl (by decide +kernel) ⟨Nat.le_of_ble_eq_true rfl, Nat.le_of_ble_eq_true rfl⟩) (hc_pV hK hP hD [2, 3] rfl rfl (ci := 4) 2 rfl rfl) rfl rfl hl.1 rfl (lv_room (Nat.le_of_ble_eq_true rfl)) dX5_applyChain_23 ⟨Nat.le_refl _, Nat.le_refl _⟩) hP hD hS hA [2, 3] [0, 1] rfl rfl rfl (by decide) (fun r23 u H locs h hP hD hS => ?_)
        try dsimp only at h
        have hP : va_P G.1 vwCl [ceX3 a_draft s_draft_size s_draft_heard s_draft_mode s_draft_cast s_draft_figures s_draft_voices s_draft_attacks s_draft_supports, ceX5 h0 a_letters a_draft, ceX6 a_letters a_letters_numbers s_letters_length, caI G a_letters_numbers 96 g_letters_numbers] H := hP
        have hD : va_D A [ceX3 a_draft s_draft_size s_draft_heard s_draft_mode s_draft_cast s_draft_figures s_draft_voices s_draft_attacks s_draft_supports, ceX5 h0 a_letters a_draft, ceX6 a_letters a_letters_numbers s_letters_length, caI G a_letters_numbers 96 g_letters_numbers] := hD
        refine lv_aload_n hx hb dX5_applyChain_26 rfl (lv_at hl 0 rfl) ?_
        refine lv_iload_n hx hb dX5_applyChain_27 rfl (lv_at hl 2 rfl) ?_
        refine lv_iconst (v := nI 1) hx hb dX5_applyChain_28 kc_1 ?_
        refine lv_iadd hx hb dX5_applyChain_29 ?_
        refine hc_ki (wr := [ceX3 a_draft s_draft_size s_draft_heard s_draft_mode s_draft_cast s_draft_figures s_draft_voices s_draft_attacks s_draft_supports]) (va_runV (As := [.int (v3 + (nI 1))]) (rest := [.int r23, .int r14, .ref h0]) ⟨hx, hb, hml, hown, hts⟩ (c_X5_claimAt l G h0 a_letters a_draft a_letters_numbers H.size s_letters_length g_letters_numbers (v3 + (nI 1)) _ h) (cwV 1 hts gX5_applyChain_X5_claimAt rfl rfl rfl (by decide +kernel) ⟨Nat.le_of_ble_eq_true rfl, Nat.le_of_ble_eq_true rfl⟩) (hc_pV hK hP hD [1, 2, 3] rfl rfl (ci := 3) 1 rfl rfl) rfl rfl hl.1 rfl (lv_room (Nat.le_of_ble_eq_true rfl)) dX5_applyChain_30 ⟨Nat.le_refl _, Nat.le_refl _⟩) hP hD hS hA [1, 2, 3] [0] rfl rfl rfl (by decide) (fun r30 u H locs h hP hD hS => ?_)
        try dsimp only at h
        have hP : va_P G.1 vwCl [ceX3 a_draft s_draft_size s_draft_heard s_draft_mode s_draft_cast s_draft_figures s_draft_voices s_draft_attacks s_draft_supports, ceX5 h0 a_letters a_draft, ceX6 a_letters a_letters_numbers s_letters_length, caI G a_letters_numbers 96 g_letters_numbers] H := hP
        have hD : va_D A [ceX3 a_draft s_draft_size s_draft_heard s_draft_mode s_draft_cast s_draft_figures s_draft_voices s_draft_attacks s_draft_supports, ceX5 h0 a_letters a_draft, ceX6 a_letters a_letters_numbers s_letters_length, caI G a_letters_numbers 96 g_letters_numbers] := hD
        refine hc_ki (wr := [ceX6 a_letters a_letters_numbers s_letters_length, caI G a_letters_numbers 96 g_letters_numbers]) (va_runV (As := [.int r14, .int r23, .int r30]) (rest := []) ⟨hx, hb, hml, hown, hts⟩ (c_X5_applyArrow l G h0 a_letters a_draft H.size s_draft_size s_draft_heard s_draft_mode s_draft_cast s_draft_figures s_draft_voices s_draft_attacks s_draft_supports r14 r23 r30 _ h) (cwV 3 hts gX5_applyChain_X5_applyArrow rfl rfl rfl (by decide +kernel) ⟨Nat.le_of_ble_eq_true rfl, Nat.le_of_ble_eq_true rfl⟩) (hc_pV hK hP hD [1, 0] rfl rfl (ci := 3) 1 rfl rfl) rfl rfl hl.1 rfl (lv_room (Nat.le_of_ble_eq_true rfl)) dX5_applyChain_33 ⟨Nat.le_refl _, Nat.le_refl _⟩) hP hD hS hA [1, 0] [2, 3] rfl rfl rfl (by decide) (fun r33 u H locs h hP hD hS => ?_)
        obtain ⟨s_draft_attacks_33, s_draft_supports_33⟩ := u
        try dsimp only at h
        have hP : va_P G.1 vwCl [ceX6 a_letters a_letters_numbers s_letters_length, caI G a_letters_numbers 96 g_letters_numbers, ceX5 h0 a_letters a_draft, ceX3 a_draft s_draft_size s_draft_heard s_draft_mode s_draft_cast s_draft_figures s_draft_voices s_draft_attacks_33 s_draft_supports_33] H := hP
        have hD : va_D A [ceX6 a_letters a_letters_numbers s_letters_length, caI G a_letters_numbers 96 g_letters_numbers, ceX5 h0 a_letters a_draft, ceX3 a_draft s_draft_size s_draft_heard s_draft_mode s_draft_cast s_draft_figures s_draft_voices s_draft_attacks_33 s_draft_supports_33] := hD
        refine lv_if_ne (tgt := 41) hx hb dX5_applyChain_36 (by decide) (fun c => ?_) (fun c => ?_)
        · replace h := h.1 c
          refine lv_iinc (v := v3 + nI 2) (lv' := [(3, .int (v3 + nI 2)), (0, .ref h0), (2, .int x2)]) hx hb dX5_applyChain_41 hl (k := 2) rfl (congrArg (fun q => v3 + q) kc_2) (by decide) rfl (fun ls hl => ?_)
          refine lv_goto (tgt := 4) hx hb dX5_applyChain_44 (by decide) ?_
          exact ih (v3 + nI 2) s_draft_attacks_33 s_draft_supports_33 h _ _ _ (hP.sub [2, 0, 3, 1] rfl) (hD.sub [2, 0, 3, 1] (by decide) rfl) hS (lv_sub hl [1, 2, 0] rfl)
        · replace h := h.2 c
          refine lv_iconst (v := nI 0) hx hb dX5_applyChain_39 kc_0 ?_
          exact W.zret (v := nI 0) hx hb hr rfl (fun t ht hW => ⟨⟨_, ⟨s_draft_attacks_33, s_draft_supports_33⟩, rfl, h, ⟨by rw [ht]; exact (hP.sub [2, 0, 3, 1] rfl), (hD.sub [2, 0, 3, 1] (by decide) rfl)⟩⟩, hS.F ht⟩) hS.2.2 dX5_applyChain_40
  unfold wp_X5_applyChain at h
  refine lv_iload_n hx hb dX5_applyChain_0 rfl (lv_at hl 1 rfl) ?_
  refine lv_iconst (v := nI 1) hx hb dX5_applyChain_1 kc_1 ?_
  refine lv_iadd hx hb dX5_applyChain_2 ?_
  refine lv_istore_n (lv' := [(3, .int (x1 + (nI 1))), (0, .ref h0), (1, .int x1), (2, .int x2)]) hx hb dX5_applyChain_3 rfl hl (by decide) rfl (fun ls hl => ?_)
  obtain ⟨n4, h⟩ := h
  exact w4  n4 (x1 + (nI 1)) s_draft_attacks s_draft_supports h _ _ _ hP hD hS (lv_sub hl [1, 3, 0] rfl)
set_option maxHeartbeats 4000000 in
set_option maxRecDepth 100000 in
theorem c_X10_isKind (l : Launch) (G : hcG) (sz : Nat) (x0 : Int32) (post : Int32 → Prop) (h : wp_X10_isKind post x0) : Met l yX10_isKind wsX10_isKind ({ frames := 0, cells := 0, slots := 0, locals := 0 }) (hcPc G [.int x0] [] sz) (va_Qi (fun (r : Int32) (u : Unit) => post r) (hcB G (va_A [] sz) (fun u : Unit => [])) (va_A [] sz)) 0 0 (va_A [] sz) := by
  refine Met.ofW (cc := cX10_isKind) (maxL := 1) (ret := (some .boolean)) (by decide) rfl ?_
  intro p e s m args below meth c s₁ B hml hv
  obtain ⟨rfl, hsz, hP, hK, hD0⟩ := hv
  have hx := B.exec
  have hb := B.bytes
  have hr := B.returns
  have hts := atoms_spec (ws := wsX10_isKind) B.pre
  have hown : s.vm.findClass RX10 = some m.cls := findClass_of_methodNamed B.named
  have hlocks := B.notSynchronized
  subst hsz
  have hD := hD0.self (sz := s.heap.size)
  generalize hAe : va_A [] s.heap.size = A at hD ⊢
  have hA : ∀ q : Nat, s.heap.size ≤ q → A q := fun q h => by rw [← hAe]; exact Or.inr h
  have hS : va_S A s.heap s.heap [] := va_S.rf
  have hP : va_P G.1 vwCl [] s.heap := hP
  have hl := lv_entry ([.int x0]) (n := 1) (Nat.le_of_ble_eq_true rfl)
  rw [lg_entry_eq]
  generalize (lg_sl ([.int x0]) ++ List.replicate (1 - (lg_sl ([.int x0])).length) Slot.unset).toArray = ls at hl ⊢
  have hl : lv_has ls 1 [(0, .int x0)] := hl
  unfold wp_X10_isKind at h
  refine lv_iload_n hx hb dX10_isKind_0 rfl (lv_at hl 0 rfl) ?_
  refine lv_if_lt (tgt := 14) hx hb dX10_isKind_1 (by decide) (fun c => ?_) (fun c => ?_)
  · replace h := h.1 c
    refine lv_iconst (v := nI 0) hx hb dX10_isKind_14 kc_0 ?_
    exact W.zret (v := nI 0) hx hb hr rfl (fun t ht hW => ⟨⟨_, (), rfl, h, ⟨by rw [ht]; exact hP, hD⟩⟩, hS.F ht⟩) hS.2.2 dX10_isKind_15
  · replace h := h.2 c
    refine lv_iload_n hx hb dX10_isKind_4 rfl (lv_at hl 0 rfl) ?_
    refine lv_bipush (v := nI 6) hx hb dX10_isKind_5 kb_6 ?_
    refine lv_icmp_ge (tgt := 14) hx hb dX10_isKind_7 (by decide) (fun c => ?_) (fun c => ?_)
    · replace h := h.1 c
      refine lv_iconst (v := nI 0) hx hb dX10_isKind_14 kc_0 ?_
      exact W.zret (v := nI 0) hx hb hr rfl (fun t ht hW => ⟨⟨_, (), rfl, h, ⟨by rw [ht]; exact hP, hD⟩⟩, hS.F ht⟩) hS.2.2 dX10_isKind_15
    · replace h := h.2 c
      refine lv_iconst (v := nI 1) hx hb dX10_isKind_10 kc_1 ?_
      refine lv_goto (tgt := 15) hx hb dX10_isKind_11 (by decide) ?_
      exact W.zret (v := nI 1) hx hb hr rfl (fun t ht hW => ⟨⟨_, (), rfl, h, ⟨by rw [ht]; exact hP, hD⟩⟩, hS.F ht⟩) hS.2.2 dX10_isKind_15
set_option maxHeartbeats 4000000 in
set_option maxRecDepth 100000 in
theorem c_X5_applyKind (l : Launch) (G : hcG) (h0 : Nat) (a_letters : Nat) (a_draft : Nat) (sz : Nat) (s_draft_size : Int32) (s_draft_heard : Int32) (s_draft_mode : Int32) (s_draft_cast : Int64) (s_draft_figures : Int64) (s_draft_voices : Int64) (s_draft_attacks : Int64) (s_draft_supports : Int64) (x1 : Int32) (x2 : Int32) (x3 : Int32) (post : Int32 → Int64 → Int64 → Prop) (h : wp_X5_applyKind post s_draft_cast s_draft_figures x1 x2 x3) : Met l yX5_applyKind wsX5_applyKind ({ frames := 2, cells := 0, slots := 0, locals := 47 }) (hcPc G [.ref h0, .int x1, .int x2, .int x3] [ceX5 h0 a_letters a_draft, ceX3 a_draft s_draft_size s_draft_heard s_draft_mode s_draft_cast s_draft_figures s_draft_voices s_draft_attacks s_draft_supports] sz) (va_Qi (fun (r : Int32) (u : Int64 × Int64) => post r u.1 u.2) (hcB G (va_A [ceX5 h0 a_letters a_draft, ceX3 a_draft s_draft_size s_draft_heard s_draft_mode s_draft_cast s_draft_figures s_draft_voices s_draft_attacks s_draft_supports] sz) (fun u : Int64 × Int64 => [ceX5 h0 a_letters a_draft, ceX3 a_draft s_draft_size s_draft_heard s_draft_mode u.1 u.2 s_draft_voices s_draft_attacks s_draft_supports])) (va_A [ceX5 h0 a_letters a_draft, ceX3 a_draft s_draft_size s_draft_heard s_draft_mode s_draft_cast s_draft_figures s_draft_voices s_draft_attacks s_draft_supports] sz)) 0 0 (va_A [ceX5 h0 a_letters a_draft, ceX3 a_draft s_draft_size s_draft_heard s_draft_mode s_draft_cast s_draft_figures s_draft_voices s_draft_attacks s_draft_supports] sz) := by
  refine Met.ofW (cc := cX5_applyKind) (maxL := 4) (ret := (some .boolean)) (by decide) rfl ?_
  intro p e s m args below meth c s₁ B hml hv
  obtain ⟨rfl, hsz, hP, hK, hD0⟩ := hv
  have hx := B.exec
  have hb := B.bytes
  have hr := B.returns
  have hts := atoms_spec (ws := wsX5_applyKind) B.pre
  have hown : s.vm.findClass RX5 = some m.cls := findClass_of_methodNamed B.named
  have hlocks := B.notSynchronized
  subst hsz
  have hD := hD0.self (sz := s.heap.size)
  generalize hAe : va_A [ceX5 h0 a_letters a_draft, ceX3 a_draft s_draft_size s_draft_heard s_draft_mode s_draft_cast s_draft_figures s_draft_voices s_draft_attacks s_draft_supports] s.heap.size = A at hD ⊢
  have hA : ∀ q : Nat, s.heap.size ≤ q → A q := fun q h => by rw [← hAe]; exact Or.inr h
  have hS : va_S A s.heap s.heap [] := va_S.rf
  have hP : va_P G.1 vwCl [ceX5 h0 a_letters a_draft, ceX3 a_draft s_draft_size s_draft_heard s_draft_mode s_draft_cast s_draft_figures s_draft_voices s_draft_attacks s_draft_supports] s.heap := hP
  have hl := lv_entry ([.ref h0, .int x1, .int x2, .int x3]) (n := 4) (Nat.le_of_ble_eq_true rfl)
  rw [lg_entry_eq]
  generalize (lg_sl ([.ref h0, .int x1, .int x2, .int x3]) ++ List.replicate (4 - (lg_sl ([.ref h0, .int x1, .int x2, .int x3])).length) Slot.unset).toArray = ls at hl ⊢
  have hl : lv_has ls 4 [(0, .ref h0), (1, .int x1), (2, .int x2), (3, .int x3)] := hl
  have kf0 := hts (.initialized RX10) (List.mem_of_getElem? (i := 3) (by decide +kernel))
  have kf1 := hts (.static yX10_isKind) (List.mem_of_getElem? (i := 2) (by decide +kernel))
  have kf2 := hts (.fieldLink RX5 23 "HallOfClaims$Reader" "draft" "LHallOfClaims$Hall;") (List.mem_of_getElem? (i := 1) (by decide +kernel))
  have ki_X5 : ∀ w ∈ u_ws RX5 TX5 2, w ∈ wsX5_applyKind := by decide +kernel
  unfold wp_X5_applyKind at h
  refine lv_iload_n hx hb dX5_applyKind_0 rfl (lv_at hl 2 rfl) ?_
  refine hc_ki (wr := [ceX5 h0 a_letters a_draft, ceX3 a_draft s_draft_size s_draft_heard s_draft_mode s_draft_cast s_draft_figures s_draft_voices s_draft_attacks s_draft_supports]) (va_runSN (As := [.int x2]) (rest := []) ⟨hx, hb, hml, hown, hts⟩ (c_X10_isKind l G s.heap.size x2 _ h) ⟨va_cnB (own := RX5) (index := 96) 1 hts gX5_applyKind_X10_isKind_n96 rfl rfl rfl hK.isKind kf0 (by decide +kernel) ⟨Nat.le_of_ble_eq_true rfl, Nat.le_of_ble_eq_true rfl⟩, kf1, trivial⟩ (hc_pS hK hP hD [] rfl rfl) rfl rfl hl.1 rfl (lv_room (Nat.le_of_ble_eq_true rfl)) dX5_applyKind_1 ⟨Nat.le_refl _, Nat.le_refl _⟩) hP hD hS hA [] [0, 1] rfl rfl rfl (by decide) (fun r1 u H locs h hP hD hS => ?_)
  try dsimp only at h
  have hP : va_P G.1 vwCl [ceX5 h0 a_letters a_draft, ceX3 a_draft s_draft_size s_draft_heard s_draft_mode s_draft_cast s_draft_figures s_draft_voices s_draft_attacks s_draft_supports] H := hP
  have hD : va_D A [ceX5 h0 a_letters a_draft, ceX3 a_draft s_draft_size s_draft_heard s_draft_mode s_draft_cast s_draft_figures s_draft_voices s_draft_attacks s_draft_supports] := hD
  refine lv_if_ne (tgt := 9) hx hb dX5_applyKind_4 (by decide) (fun c => ?_) (fun c => ?_)
  · replace h := h.1 c
    refine lv_aload_n hx hb dX5_applyKind_9 rfl (lv_at hl 0 rfl) ?_
    refine va_get (D := G.1) (ci := 3) (v := .ref a_draft) (C := RX5) (T := TX5) (N := 2) hx hb hts ki_X5 hown hK.1 hP 0 rfl rfl 1 (by decide) kf2 (fun _ h9 => h9) rfl dX5_applyKind_10 ?_
    refine lv_iload_n hx hb dX5_applyKind_13 rfl (lv_at hl 1 rfl) ?_
    refine lv_iload_n hx hb dX5_applyKind_14 rfl (lv_at hl 2 rfl) ?_
    refine lv_iload_n hx hb dX5_applyKind_15 rfl (lv_at hl 3 rfl) ?_
    refine hc_kv (wr := [ceX5 h0 a_letters a_draft]) (va_runV (As := [.int x1, .int x2, .int x3]) (rest := []) ⟨hx, hb, hml, hown, hts⟩ (c_X3_recast l G a_draft H.size s_draft_size s_draft_heard s_draft_mode s_draft_cast s_draft_figures s_draft_voices s_draft_attacks s_draft_supports x1 x2 x3 _ h) (cwV 3 hts gX5_applyKind_X3_recast rfl rfl rfl (by decide +kernel) ⟨Nat.le_of_ble_eq_true rfl, Nat.le_of_ble_eq_true rfl⟩) (hc_pV hK hP hD [1] rfl rfl (ci := 2) 1 rfl rfl) rfl rfl hl.1 rfl (lv_room (Nat.le_of_ble_eq_true rfl)) dX5_applyKind_16 ⟨Nat.le_refl _, Nat.le_refl _⟩) hP hD hS hA [1] [0] rfl rfl rfl (by decide) (fun u H locs h hP hD hS => ?_)
    obtain ⟨s_draft_cast_16, s_draft_figures_16⟩ := u
    try dsimp only at h
    have hP : va_P G.1 vwCl [ceX5 h0 a_letters a_draft, ceX3 a_draft s_draft_size s_draft_heard s_draft_mode s_draft_cast_16 s_draft_figures_16 s_draft_voices s_draft_attacks s_draft_supports] H := hP
    have hD : va_D A [ceX5 h0 a_letters a_draft, ceX3 a_draft s_draft_size s_draft_heard s_draft_mode s_draft_cast_16 s_draft_figures_16 s_draft_voices s_draft_attacks s_draft_supports] := hD
    refine lv_iconst (v := nI 1) hx hb dX5_applyKind_19 kc_1 ?_
    exact W.zret (v := nI 1) hx hb hr rfl (fun t ht hW => ⟨⟨_, ⟨s_draft_cast_16, s_draft_figures_16⟩, rfl, h, ⟨by rw [ht]; exact hP, hD⟩⟩, hS.F ht⟩) hS.2.2 dX5_applyKind_20
  · replace h := h.2 c
    refine lv_iconst (v := nI 0) hx hb dX5_applyKind_7 kc_0 ?_
    exact W.zret (v := nI 0) hx hb hr rfl (fun t ht hW => ⟨⟨_, ⟨s_draft_cast, s_draft_figures⟩, rfl, h, ⟨by rw [ht]; exact hP, hD⟩⟩, hS.F ht⟩) hS.2.2 dX5_applyKind_8
set_option maxHeartbeats 4000000 in
set_option maxRecDepth 100000 in
theorem c_X5_applyMode (l : Launch) (G : hcG) (h0 : Nat) (a_letters : Nat) (a_draft : Nat) (sz : Nat) (s_draft_size : Int32) (s_draft_heard : Int32) (s_draft_mode : Int32) (s_draft_cast : Int64) (s_draft_figures : Int64) (s_draft_voices : Int64) (s_draft_attacks : Int64) (s_draft_supports : Int64) (x1 : Int32) (post : Int32 → Int32 → Prop) (h : wp_X5_applyMode post s_draft_mode x1) : Met l yX5_applyMode wsX5_applyMode ({ frames := 0, cells := 0, slots := 0, locals := 0 }) (hcPc G [.ref h0, .int x1] [ceX5 h0 a_letters a_draft, ceX3 a_draft s_draft_size s_draft_heard s_draft_mode s_draft_cast s_draft_figures s_draft_voices s_draft_attacks s_draft_supports] sz) (va_Qi (fun (r : Int32) (u : Int32) => post r u) (hcB G (va_A [ceX5 h0 a_letters a_draft, ceX3 a_draft s_draft_size s_draft_heard s_draft_mode s_draft_cast s_draft_figures s_draft_voices s_draft_attacks s_draft_supports] sz) (fun u : Int32 => [ceX5 h0 a_letters a_draft, ceX3 a_draft s_draft_size s_draft_heard u s_draft_cast s_draft_figures s_draft_voices s_draft_attacks s_draft_supports])) (va_A [ceX5 h0 a_letters a_draft, ceX3 a_draft s_draft_size s_draft_heard s_draft_mode s_draft_cast s_draft_figures s_draft_voices s_draft_attacks s_draft_supports] sz)) 0 0 (va_A [ceX5 h0 a_letters a_draft, ceX3 a_draft s_draft_size s_draft_heard s_draft_mode s_draft_cast s_draft_figures s_draft_voices s_draft_attacks s_draft_supports] sz) := by
  refine Met.ofW (cc := cX5_applyMode) (maxL := 2) (ret := (some .boolean)) (by decide) rfl ?_
  intro p e s m args below meth c s₁ B hml hv
  obtain ⟨rfl, hsz, hP, hK, hD0⟩ := hv
  have hx := B.exec
  have hb := B.bytes
  have hr := B.returns
  have hts := atoms_spec (ws := wsX5_applyMode) B.pre
  have hown : s.vm.findClass RX5 = some m.cls := findClass_of_methodNamed B.named
  have hlocks := B.notSynchronized
  subst hsz
  have hD := hD0.self (sz := s.heap.size)
  generalize hAe : va_A [ceX5 h0 a_letters a_draft, ceX3 a_draft s_draft_size s_draft_heard s_draft_mode s_draft_cast s_draft_figures s_draft_voices s_draft_attacks s_draft_supports] s.heap.size = A at hD ⊢
  have hA : ∀ q : Nat, s.heap.size ≤ q → A q := fun q h => by rw [← hAe]; exact Or.inr h
  have hS : va_S A s.heap s.heap [] := va_S.rf
  have hP : va_P G.1 vwCl [ceX5 h0 a_letters a_draft, ceX3 a_draft s_draft_size s_draft_heard s_draft_mode s_draft_cast s_draft_figures s_draft_voices s_draft_attacks s_draft_supports] s.heap := hP
  have hl := lv_entry ([.ref h0, .int x1]) (n := 2) (Nat.le_of_ble_eq_true rfl)
  rw [lg_entry_eq]
  generalize (lg_sl ([.ref h0, .int x1]) ++ List.replicate (2 - (lg_sl ([.ref h0, .int x1])).length) Slot.unset).toArray = ls at hl ⊢
  have hl : lv_has ls 2 [(0, .ref h0), (1, .int x1)] := hl
  have kf0 := hts (.fieldLink RX5 23 "HallOfClaims$Reader" "draft" "LHallOfClaims$Hall;") (List.mem_of_getElem? (i := 1) (by decide +kernel))
  have kf1 := hts (.fieldLink RX5 107 "HallOfClaims$Hall" "mode" "I") (List.mem_of_getElem? (i := 2) (by decide +kernel))
  have ki_X5 : ∀ w ∈ u_ws RX5 TX5 2, w ∈ wsX5_applyMode := by decide +kernel
  have ki_X3 : ∀ w ∈ u_ws RX3 TX3 8, w ∈ wsX5_applyMode := by decide +kernel
  unfold wp_X5_applyMode at h
  refine lv_iload_n hx hb dX5_applyMode_0 rfl (lv_at hl 1 rfl) ?_
  refine lv_if_lt (tgt := 9) hx hb dX5_applyMode_1 (by decide) (fun c => ?_) (fun c => ?_)
  · replace h := h.1 c
    refine lv_iconst (v := nI 0) hx hb dX5_applyMode_9 kc_0 ?_
    exact W.zret (v := nI 0) hx hb hr rfl (fun t ht hW => ⟨⟨_, s_draft_mode, rfl, h, ⟨by rw [ht]; exact hP, hD⟩⟩, hS.F ht⟩) hS.2.2 dX5_applyMode_10
  · replace h := h.2 c
    refine lv_iload_n hx hb dX5_applyMode_4 rfl (lv_at hl 1 rfl) ?_
    refine lv_iconst (v := nI 4) hx hb dX5_applyMode_5 kc_4 ?_
    refine lv_icmp_lt (tgt := 11) hx hb dX5_applyMode_6 (by decide) (fun c => ?_) (fun c => ?_)
    · replace h := h.1 c
      refine lv_aload_n hx hb dX5_applyMode_11 rfl (lv_at hl 0 rfl) ?_
      refine va_get (D := G.1) (ci := 3) (v := .ref a_draft) (C := RX5) (T := TX5) (N := 2) hx hb hts ki_X5 hown hK.1 hP 0 rfl rfl 1 (by decide) kf0 (fun _ h9 => h9) rfl dX5_applyMode_12 ?_
      refine lv_iload_n hx hb dX5_applyMode_15 rfl (lv_at hl 1 rfl) ?_
      refine va_put (D := G.1) (ci := 2) (v := .int x1) (ty := .int) (C := RX3) (T := TX3) (N := 8) hx hb hts ki_X3 tyX3 tyX3_ok nmX3 hown hK.1 hP hD hS 1 rfl rfl 2 (by decide) kf1 (fun _ h9 => h9) rfl (by decide +kernel) rfl rfl (Nat.le_of_ble_eq_true rfl) dX5_applyMode_16 (fun H locs hP hD hS => ?_)
      have hP : va_P G.1 vwCl [ceX5 h0 a_letters a_draft, ceX3 a_draft s_draft_size s_draft_heard x1 s_draft_cast s_draft_figures s_draft_voices s_draft_attacks s_draft_supports] H := hP
      have hD : va_D A [ceX5 h0 a_letters a_draft, ceX3 a_draft s_draft_size s_draft_heard x1 s_draft_cast s_draft_figures s_draft_voices s_draft_attacks s_draft_supports] := hD
      refine lv_iconst (v := nI 1) hx hb dX5_applyMode_19 kc_1 ?_
      exact W.zret (v := nI 1) hx hb hr rfl (fun t ht hW => ⟨⟨_, x1, rfl, h, ⟨by rw [ht]; exact hP, hD⟩⟩, hS.F ht⟩) hS.2.2 dX5_applyMode_20
    · replace h := h.2 c
      refine lv_iconst (v := nI 0) hx hb dX5_applyMode_9 kc_0 ?_
      exact W.zret (v := nI 0) hx hb hr rfl (fun t ht hW => ⟨⟨_, s_draft_mode, rfl, h, ⟨by rw [ht]; exact hP, hD⟩⟩, hS.F ht⟩) hS.2.2 dX5_applyMode_10
set_option maxHeartbeats 4000000 in
set_option maxRecDepth 100000 in
theorem c_X5_digitAt (l : Launch) (G : hcG) (h0 : Nat) (a_letters : Nat) (a_draft : Nat) (a_letters_numbers : Nat) (sz : Nat) (s_letters_length : Int32) (g_letters_numbers : Nat → Int32) (x1 : Int32) (post : Int32 → Prop) (h : wp_X5_digitAt post g_letters_numbers s_letters_length x1) : Met l yX5_digitAt wsX5_digitAt ({ frames := 1, cells := 0, slots := 0, locals := 22 }) (hcPc G [.ref h0, .int x1] [ceX5 h0 a_letters a_draft, ceX6 a_letters a_letters_numbers s_letters_length, caI G a_letters_numbers 96 g_letters_numbers] sz) (va_Qi (fun (r : Int32) (u : Unit) => post r) (hcB G (va_A [ceX5 h0 a_letters a_draft, ceX6 a_letters a_letters_numbers s_letters_length, caI G a_letters_numbers 96 g_letters_numbers] sz) (fun u : Unit => [ceX5 h0 a_letters a_draft, ceX6 a_letters a_letters_numbers s_letters_length, caI G a_letters_numbers 96 g_letters_numbers])) (va_A [ceX5 h0 a_letters a_draft, ceX6 a_letters a_letters_numbers s_letters_length, caI G a_letters_numbers 96 g_letters_numbers] sz)) 0 0 (va_A [ceX5 h0 a_letters a_draft, ceX6 a_letters a_letters_numbers s_letters_length, caI G a_letters_numbers 96 g_letters_numbers] sz) := by
  refine Met.ofW (cc := cX5_digitAt) (maxL := 2) (ret := (some .int)) (by decide) rfl ?_
  intro p e s m args below meth c s₁ B hml hv
  obtain ⟨rfl, hsz, hP, hK, hD0⟩ := hv
  have hx := B.exec
  have hb := B.bytes
  have hr := B.returns
  have hts := atoms_spec (ws := wsX5_digitAt) B.pre
  have hown : s.vm.findClass RX5 = some m.cls := findClass_of_methodNamed B.named
  have hlocks := B.notSynchronized
  subst hsz
  have hD := hD0.self (sz := s.heap.size)
  generalize hAe : va_A [ceX5 h0 a_letters a_draft, ceX6 a_letters a_letters_numbers s_letters_length, caI G a_letters_numbers 96 g_letters_numbers] s.heap.size = A at hD ⊢
  have hA : ∀ q : Nat, s.heap.size ≤ q → A q := fun q h => by rw [← hAe]; exact Or.inr h
  have hS : va_S A s.heap s.heap [] := va_S.rf
  have hP : va_P G.1 vwCl [ceX5 h0 a_letters a_draft, ceX6 a_letters a_letters_numbers s_letters_length, caI G a_letters_numbers 96 g_letters_numbers] s.heap := hP
  have hl := lv_entry ([.ref h0, .int x1]) (n := 2) (Nat.le_of_ble_eq_true rfl)
  rw [lg_entry_eq]
  generalize (lg_sl ([.ref h0, .int x1]) ++ List.replicate (2 - (lg_sl ([.ref h0, .int x1])).length) Slot.unset).toArray = ls at hl ⊢
  have hl : lv_has ls 2 [(0, .ref h0), (1, .int x1)] := hl
  have kf0 := hts (.fieldLink RX5 14 "HallOfClaims$Reader" "letters" "LHallOfClaims$Row;") (List.mem_of_getElem? (i := 1) (by decide +kernel))
  have ki_X5 : ∀ w ∈ u_ws RX5 TX5 2, w ∈ wsX5_digitAt := by decide +kernel
  unfold wp_X5_digitAt at h
  refine lv_aload_n hx hb dX5_digitAt_0 rfl (lv_at hl 0 rfl) ?_
  refine va_get (D := G.1) (ci := 3) (v := .ref a_letters) (C := RX5) (T := TX5) (N := 2) hx hb hts ki_X5 hown hK.1 hP 0 rfl rfl 0 (by decide) kf0 (fun _ h9 => h9) rfl dX5_digitAt_1 ?_
  refine lv_iload_n hx hb dX5_digitAt_4 rfl (lv_at hl 1 rfl) ?_
  refine lv_iconst (v := (-1 : Int32)) hx hb dX5_digitAt_5 kc_m1 ?_
  refine hc_ki (wr := [ceX5 h0 a_letters a_draft]) (va_runV (As := [.int x1, .int ((-1 : Int32))]) (rest := []) ⟨hx, hb, hml, hown, hts⟩ (c_X6_at l G a_letters a_letters_numbers s.heap.size 96 s_letters_length g_letters_numbers x1 ((-1 : Int32)) _ h) (cwV 2 hts gX5_digitAt_X6_at rfl rfl rfl (by decide +kernel) ⟨Nat.le_of_ble_eq_true rfl, Nat.le_of_ble_eq_true rfl⟩) (hc_pV hK hP hD [1, 2] rfl rfl (ci := 4) 1 rfl rfl) rfl rfl hl.1 rfl (lv_room (Nat.le_of_ble_eq_true rfl)) dX5_digitAt_6 ⟨Nat.le_refl _, Nat.le_refl _⟩) hP hD hS hA [1, 2] [0] rfl rfl rfl (by decide) (fun r6 u H locs h hP hD hS => ?_)
  try dsimp only at h
  have hP : va_P G.1 vwCl [ceX5 h0 a_letters a_draft, ceX6 a_letters a_letters_numbers s_letters_length, caI G a_letters_numbers 96 g_letters_numbers] H := hP
  have hD : va_D A [ceX5 h0 a_letters a_draft, ceX6 a_letters a_letters_numbers s_letters_length, caI G a_letters_numbers 96 g_letters_numbers] := hD
  refine lv_bipush (v := nI 48) hx hb dX5_digitAt_9 kb_48 ?_
  refine lv_isub hx hb dX5_digitAt_11 ?_
  exact W.iret (v := r6 - (nI 48)) hx hb hr (fun t ht hW => ⟨⟨_, (), rfl, h, ⟨by rw [ht]; exact hP, hD⟩⟩, hS.F ht⟩) hS.2.2 dX5_digitAt_12
set_option maxHeartbeats 4000000 in
set_option maxRecDepth 100000 in
theorem c_X5_applyNew (l : Launch) (G : hcG) (h0 : Nat) (a_letters : Nat) (a_draft : Nat) (a_letters_numbers : Nat) (sz : Nat) (s_letters_length : Int32) (s_draft_size : Int32) (s_draft_heard : Int32) (s_draft_mode : Int32) (s_draft_cast : Int64) (s_draft_figures : Int64) (s_draft_voices : Int64) (s_draft_attacks : Int64) (s_draft_supports : Int64) (g_letters_numbers : Nat → Int32) (x1 : Int32) (post : Int32 → Int32 → Int32 → Int64 → Int64 → Int64 → Prop) (h : wp_X5_applyNew post g_letters_numbers s_letters_length s_draft_size s_draft_heard s_draft_cast s_draft_figures s_draft_voices x1) : Met l yX5_applyNew wsX5_applyNew ({ frames := 2, cells := 0, slots := 0, locals := 48 }) (hcPc G [.ref h0, .int x1] [ceX5 h0 a_letters a_draft, ceX6 a_letters a_letters_numbers s_letters_length, ceX3 a_draft s_draft_size s_draft_heard s_draft_mode s_draft_cast s_draft_figures s_draft_voices s_draft_attacks s_draft_supports, caI G a_letters_numbers 96 g_letters_numbers] sz) (va_Qi (fun (r : Int32) (u : Int32 × Int32 × Int64 × Int64 × Int64) => post r u.1 u.2.1 u.2.2.1 u.2.2.2.1 u.2.2.2.2) (hcB G (va_A [ceX5 h0 a_letters a_draft, ceX6 a_letters a_letters_numbers s_letters_length, ceX3 a_draft s_draft_size s_draft_heard s_draft_mode s_draft_cast s_draft_figures s_draft_voices s_draft_attacks s_draft_supports, caI G a_letters_numbers 96 g_letters_numbers] sz) (fun u : Int32 × Int32 × Int64 × Int64 × Int64 => [ceX5 h0 a_letters a_draft, ceX6 a_letters a_letters_numbers s_letters_length, ceX3 a_draft u.1 u.2.1 s_draft_mode u.2.2.1 u.2.2.2.1 u.2.2.2.2 s_draft_attacks s_draft_supports, caI G a_letters_numbers 96 g_letters_numbers])) (va_A [ceX5 h0 a_letters a_draft, ceX6 a_letters a_letters_numbers s_letters_length, ceX3 a_draft s_draft_size s_draft_heard s_draft_mode s_draft_cast s_draft_figures s_draft_voices s_draft_attacks s_draft_supports, caI G a_letters_numbers 96 g_letters_numbers] sz)) 0 0 (va_A [ceX5 h0 a_letters a_draft, ceX6 a_letters a_letters_numbers s_letters_length, ceX3 a_draft s_draft_size s_draft_heard s_draft_mode s_draft_cast s_draft_figures s_draft_voices s_draft_attacks s_draft_supports, caI G a_letters_numbers 96 g_letters_numbers] sz) := by
  refine Met.ofW (cc := cX5_applyNew) (maxL := 3) (ret := (some .boolean)) (by decide) rfl ?_
  intro p e s m args below meth c s₁ B hml hv
  obtain ⟨rfl, hsz, hP, hK, hD0⟩ := hv
  have hx := B.exec
  have hb := B.bytes
  have hr := B.returns
  have hts := atoms_spec (ws := wsX5_applyNew) B.pre
  have hown : s.vm.findClass RX5 = some m.cls := findClass_of_methodNamed B.named
  have hlocks := B.notSynchronized
  subst hsz
  have hD := hD0.self (sz := s.heap.size)
  generalize hAe : va_A [ceX5 h0 a_letters a_draft, ceX6 a_letters a_letters_numbers s_letters_length, ceX3 a_draft s_draft_size s_draft_heard s_draft_mode s_draft_cast s_draft_figures s_draft_voices s_draft_attacks s_draft_supports, caI G a_letters_numbers 96 g_letters_numbers] s.heap.size = A at hD ⊢
  have hA : ∀ q : Nat, s.heap.size ≤ q → A q := fun q h => by rw [← hAe]; exact Or.inr h
  have hS : va_S A s.heap s.heap [] := va_S.rf
  have hP : va_P G.1 vwCl [ceX5 h0 a_letters a_draft, ceX6 a_letters a_letters_numbers s_letters_length, ceX3 a_draft s_draft_size s_draft_heard s_draft_mode s_draft_cast s_draft_figures s_draft_voices s_draft_attacks s_draft_supports, caI G a_letters_numbers 96 g_letters_numbers] s.heap := hP
  have hl := lv_entry ([.ref h0, .int x1]) (n := 3) (Nat.le_of_ble_eq_true rfl)
  rw [lg_entry_eq]
  generalize (lg_sl ([.ref h0, .int x1]) ++ List.replicate (3 - (lg_sl ([.ref h0, .int x1])).length) Slot.unset).toArray = ls at hl ⊢
  have hl : lv_has ls 3 [(0, .ref h0), (1, .int x1)] := hl
  have kf0 := hts (.initialized RX10) (List.mem_of_getElem? (i := 16) (by decide +kernel))
  have kf1 := hts (.static yX10_isKind) (List.mem_of_getElem? (i := 15) (by decide +kernel))
  have kf2 := hts (.fieldLink RX5 23 "HallOfClaims$Reader" "draft" "LHallOfClaims$Hall;") (List.mem_of_getElem? (i := 1) (by decide +kernel))
  have ki_X5 : ∀ w ∈ u_ws RX5 TX5 2, w ∈ wsX5_applyNew := by decide +kernel
  unfold wp_X5_applyNew at h
  refine lv_aload_n hx hb dX5_applyNew_0 rfl (lv_at hl 0 rfl) ?_
  refine lv_iload_n hx hb dX5_applyNew_1 rfl (lv_at hl 1 rfl) ?_
  refine lv_iconst (v := nI 1) hx hb dX5_applyNew_2 kc_1 ?_
  refine lv_iadd hx hb dX5_applyNew_3 ?_
  refine hc_ki (wr := [ceX3 a_draft s_draft_size s_draft_heard s_draft_mode s_draft_cast s_draft_figures s_draft_voices s_draft_attacks s_draft_supports]) (va_runV (As := [.int (x1 + (nI 1))]) (rest := []) ⟨hx, hb, hml, hown, hts⟩ (c_X5_digitAt l G h0 a_letters a_draft a_letters_numbers s.heap.size s_letters_length g_letters_numbers (x1 + (nI 1)) _ h) (cwV 1 hts gX5_applyNew_X5_digitAt rfl rfl rfl (by decide +kernel) ⟨Nat.le_of_ble_eq_true rfl, Nat.le_of_ble_eq_true rfl⟩) (hc_pV hK hP hD [0, 1, 3] rfl rfl (ci := 3) 0 rfl rfl) rfl rfl hl.1 rfl (lv_room (Nat.le_of_ble_eq_true rfl)) dX5_applyNew_4 ⟨Nat.le_refl _, Nat.le_refl _⟩) hP hD hS hA [0, 1, 3] [2] rfl rfl rfl (by decide) (fun r4 u H locs h hP hD hS => ?_)
  try dsimp only at h
  have hP : va_P G.1 vwCl [ceX3 a_draft s_draft_size s_draft_heard s_draft_mode s_draft_cast s_draft_figures s_draft_voices s_draft_attacks s_draft_supports, ceX5 h0 a_letters a_draft, ceX6 a_letters a_letters_numbers s_letters_length, caI G a_letters_numbers 96 g_letters_numbers] H := hP
  have hD : va_D A [ceX3 a_draft s_draft_size s_draft_heard s_draft_mode s_draft_cast s_draft_figures s_draft_voices s_draft_attacks s_draft_supports, ceX5 h0 a_letters a_draft, ceX6 a_letters a_letters_numbers s_letters_length, caI G a_letters_numbers 96 g_letters_numbers] := hD
  refine lv_istore_n (lv' := [(2, .int r4), (0, .ref h0), (1, .int x1)]) hx hb dX5_applyNew_7 rfl hl (by decide) rfl (fun ls hl => ?_)
  refine lv_iload_n hx hb dX5_applyNew_8 rfl (lv_at hl 0 rfl) ?_
  refine hc_ki (wr := [ceX3 a_draft s_draft_size s_draft_heard s_draft_mode s_draft_cast s_draft_figures s_draft_voices s_draft_attacks s_draft_supports, ceX5 h0 a_letters a_draft, ceX6 a_letters a_letters_numbers s_letters_length, caI G a_letters_numbers 96 g_letters_numbers]) (va_runSN (As := [.int r4]) (rest := []) ⟨hx, hb, hml, hown, hts⟩ (c_X10_isKind l G H.size r4 _ h) ⟨va_cnB (own := RX5) (index := 96) 1 hts gX5_applyNew_X10_isKind_n96 rfl rfl rfl hK.isKind kf0 (by decide +kernel) ⟨Nat.le_of_ble_eq_true rfl, Nat.le_of_ble_eq_true rfl⟩, kf1, trivial⟩ (hc_pS hK hP hD [] rfl rfl) rfl rfl hl.1 rfl (lv_room (Nat.le_of_ble_eq_true rfl)) dX5_applyNew_9 ⟨Nat.le_refl _, Nat.le_refl _⟩) hP hD hS hA [] [0, 1, 2, 3] rfl rfl rfl (by decide) (fun r9 u H locs h hP hD hS => ?_)
  try dsimp only at h
  have hP : va_P G.1 vwCl [ceX3 a_draft s_draft_size s_draft_heard s_draft_mode s_draft_cast s_draft_figures s_draft_voices s_draft_attacks s_draft_supports, ceX5 h0 a_letters a_draft, ceX6 a_letters a_letters_numbers s_letters_length, caI G a_letters_numbers 96 g_letters_numbers] H := hP
  have hD : va_D A [ceX3 a_draft s_draft_size s_draft_heard s_draft_mode s_draft_cast s_draft_figures s_draft_voices s_draft_attacks s_draft_supports, ceX5 h0 a_letters a_draft, ceX6 a_letters a_letters_numbers s_letters_length, caI G a_letters_numbers 96 g_letters_numbers] := hD
  refine lv_if_eq (tgt := 25) hx hb dX5_applyNew_12 (by decide) (fun c => ?_) (fun c => ?_)
  · replace h := h.1 c
    refine lv_iconst (v := nI 0) hx hb dX5_applyNew_25 kc_0 ?_
    exact W.zret (v := nI 0) hx hb hr rfl (fun t ht hW => ⟨⟨_, ⟨s_draft_size, s_draft_heard, s_draft_cast, s_draft_figures, s_draft_voices⟩, rfl, h, ⟨by rw [ht]; exact (hP.sub [1, 2, 0, 3] rfl), (hD.sub [1, 2, 0, 3] (by decide) rfl)⟩⟩, hS.F ht⟩) hS.2.2 dX5_applyNew_26
  · replace h := h.2 c
    refine lv_aload_n hx hb dX5_applyNew_15 rfl (lv_at hl 1 rfl) ?_
    refine va_get (D := G.1) (ci := 3) (v := .ref a_draft) (C := RX5) (T := TX5) (N := 2) hx hb hts ki_X5 hown hK.1 hP 1 rfl rfl 1 (by decide) kf2 (fun _ h9 => h9) rfl dX5_applyNew_16 ?_
    refine hc_ki (wr := [ceX5 h0 a_letters a_draft, ceX6 a_letters a_letters_numbers s_letters_length, caI G a_letters_numbers 96 g_letters_numbers]) (va_runV (As := []) (rest := []) ⟨hx, hb, hml, hown, hts⟩ (c_X3_isFull l G a_draft H.size s_draft_size s_draft_heard s_draft_mode s_draft_cast s_draft_figures s_draft_voices s_draft_attacks s_draft_supports _ h) (cwV 0 hts gX5_applyNew_X3_isFull rfl rfl rfl (by decide +kernel) ⟨Nat.le_of_ble_eq_true rfl, Nat.le_of_ble_eq_true rfl⟩) (hc_pV hK hP hD [0] rfl rfl (ci := 2) 0 rfl rfl) rfl rfl hl.1 rfl (lv_room (Nat.le_of_ble_eq_true rfl)) dX5_applyNew_19 ⟨Nat.le_refl _, Nat.le_refl _⟩) hP hD hS hA [0] [1, 2, 3] rfl rfl rfl (by decide) (fun r19 u H locs h hP hD hS => ?_)
    try dsimp only at h
    have hP : va_P G.1 vwCl [ceX5 h0 a_letters a_draft, ceX6 a_letters a_letters_numbers s_letters_length, caI G a_letters_numbers 96 g_letters_numbers, ceX3 a_draft s_draft_size s_draft_heard s_draft_mode s_draft_cast s_draft_figures s_draft_voices s_draft_attacks s_draft_supports] H := hP
    have hD : va_D A [ceX5 h0 a_letters a_draft, ceX6 a_letters a_letters_numbers s_letters_length, caI G a_letters_numbers 96 g_letters_numbers, ceX3 a_draft s_draft_size s_draft_heard s_draft_mode s_draft_cast s_draft_figures s_draft_voices s_draft_attacks s_draft_supports] := hD
    refine lv_if_eq (tgt := 27) hx hb dX5_applyNew_22 (by decide) (fun c => ?_) (fun c => ?_)
    · replace h := h.1 c
      refine lv_aload_n hx hb dX5_applyNew_27 rfl (lv_at hl 1 rfl) ?_
      refine va_get (D := G.1) (ci := 3) (v := .ref a_draft) (C := RX5) (T := TX5) (N := 2) hx hb hts ki_X5 hown hK.1 hP 0 rfl rfl 1 (by decide) kf2 (fun _ h9 => h9) rfl dX5_applyNew_28 ?_
      refine lv_iload_n hx hb dX5_applyNew_31 rfl (lv_at hl 0 rfl) ?_
      refine lv_aload_n hx hb dX5_applyNew_32 rfl (lv_at hl 1 rfl) ?_
      refine lv_iload_n hx hb dX5_applyNew_33 rfl (lv_at hl 2 rfl) ?_
      refine lv_iconst (v := nI 2) hx hb dX5_applyNew_34 kc_2 ?_
      refine lv_iadd hx hb dX5_applyNew_35 ?_
      refine hc_ki (wr := [ceX3 a_draft s_draft_size s_draft_heard s_draft_mode s_draft_cast s_draft_figures s_draft_voices s_draft_attacks s_draft_supports]) (va_runV (As := [.int (x1 + (nI 2))]) (rest := [.int r4, .ref a_draft]) ⟨hx, hb, hml, hown, hts⟩ (c_X5_digitAt l G h0 a_letters a_draft a_letters_numbers H.size s_letters_length g_letters_numbers (x1 + (nI 2)) _ h) (cwV 1 hts gX5_applyNew_X5_digitAt rfl rfl rfl (by decide +kernel) ⟨Nat.le_of_ble_eq_true rfl, Nat.le_of_ble_eq_true rfl⟩) (hc_pV hK hP hD [0, 1, 2] rfl rfl (ci := 3) 0 rfl rfl) rfl rfl hl.1 rfl (lv_room (Nat.le_of_ble_eq_true rfl)) dX5_applyNew_36 ⟨Nat.le_refl _, Nat.le_refl _⟩) hP hD hS hA [0, 1, 2] [3] rfl rfl rfl (by decide) (fun r36 u H locs h hP hD hS => ?_)
      try dsimp only at h
      have hP : va_P G.1 vwCl [ceX3 a_draft s_draft_size s_draft_heard s_draft_mode s_draft_cast s_draft_figures s_draft_voices s_draft_attacks s_draft_supports, ceX5 h0 a_letters a_draft, ceX6 a_letters a_letters_numbers s_letters_length, caI G a_letters_numbers 96 g_letters_numbers] H := hP
      have hD : va_D A [ceX3 a_draft s_draft_size s_draft_heard s_draft_mode s_draft_cast s_draft_figures s_draft_voices s_draft_attacks s_draft_supports, ceX5 h0 a_letters a_draft, ceX6 a_letters a_letters_numbers s_letters_length, caI G a_letters_numbers 96 g_letters_numbers] := hD
      refine lv_aload_n hx hb dX5_applyNew_39 rfl (lv_at hl 1 rfl) ?_
      refine lv_iload_n hx hb dX5_applyNew_40 rfl (lv_at hl 2 rfl) ?_
      refine lv_iconst (v := nI 3) hx hb dX5_applyNew_41 kc_3 ?_
      refine lv_iadd hx hb dX5_applyNew_42 ?_
      refine hc_ki (wr := [ceX3 a_draft s_draft_size s_draft_heard s_draft_mode s_draft_cast s_draft_figures s_draft_voices s_draft_attacks s_draft_supports]) (va_runV (As := [.int (x1 + (nI 3))]) (rest := [.int r36, .int r4, .ref a_draft]) ⟨hx, hb, hml, hown, hts⟩ (c_X5_digitAt l G h0 a_letters a_draft a_letters_numbers H.size s_letters_length g_letters_numbers (x1 + (nI 3)) _ h) (cwV 1 hts gX5_applyNew_X5_digitAt rfl rfl rfl (by decide +kernel) ⟨Nat.le_of_ble_eq_true rfl, Nat.le_of_ble_eq_true rfl⟩) (hc_pV hK hP hD [1, 2, 3] rfl rfl (ci := 3) 1 rfl rfl) rfl rfl hl.1 rfl (lv_room (Nat.le_of_ble_eq_true rfl)) dX5_applyNew_43 ⟨Nat.le_refl _, Nat.le_refl _⟩) hP hD hS hA [1, 2, 3] [0] rfl rfl rfl (by decide) (fun r43 u H locs h hP hD hS => ?_)
      try dsimp only at h
      have hP : va_P G.1 vwCl [ceX3 a_draft s_draft_size s_draft_heard s_draft_mode s_draft_cast s_draft_figures s_draft_voices s_draft_attacks s_draft_supports, ceX5 h0 a_letters a_draft, ceX6 a_letters a_letters_numbers s_letters_length, caI G a_letters_numbers 96 g_letters_numbers] H := hP
      have hD : va_D A [ceX3 a_draft s_draft_size s_draft_heard s_draft_mode s_draft_cast s_draft_figures s_draft_voices s_draft_attacks s_draft_supports, ceX5 h0 a_letters a_draft, ceX6 a_letters a_letters_numbers s_letters_length, caI G a_letters_numbers 96 g_letters_numbers] := hD
      refine hc_ki (wr := [ceX5 h0 a_letters a_draft, ceX6 a_letters a_letters_numbers s_letters_length, caI G a_letters_numbers 96 g_letters_numbers]) (va_runV (As := [.int r4, .int r36, .int r43]) (rest := []) ⟨hx, hb, hml, hown, hts⟩ (c_X3_add l G a_draft H.size s_draft_size s_draft_heard s_draft_mode s_draft_cast s_draft_figures s_draft_voices s_draft_attacks s_draft_supports r4 r36 r43 _ h) (cwV 3 hts gX5_applyNew_X3_add rfl rfl rfl (by decide +kernel) ⟨Nat.le_of_ble_eq_true rfl, Nat.le_of_ble_eq_true rfl⟩) (hc_pV hK hP hD [0] rfl rfl (ci := 2) 0 rfl rfl) rfl rfl hl.1 rfl (lv_room (Nat.le_of_ble_eq_true rfl)) dX5_applyNew_46 ⟨Nat.le_refl _, Nat.le_refl _⟩) hP hD hS hA [0] [1, 2, 3] rfl rfl rfl (by decide) (fun r46 u H locs h hP hD hS => ?_)
      obtain ⟨s_draft_size_46, s_draft_heard_46, s_draft_cast_46, s_draft_figures_46, s_draft_voices_46⟩ := u
      try dsimp only at h
      have hP : va_P G.1 vwCl [ceX5 h0 a_letters a_draft, ceX6 a_letters a_letters_numbers s_letters_length, caI G a_letters_numbers 96 g_letters_numbers, ceX3 a_draft s_draft_size_46 s_draft_heard_46 s_draft_mode s_draft_cast_46 s_draft_figures_46 s_draft_voices_46 s_draft_attacks s_draft_supports] H := hP
      have hD : va_D A [ceX5 h0 a_letters a_draft, ceX6 a_letters a_letters_numbers s_letters_length, caI G a_letters_numbers 96 g_letters_numbers, ceX3 a_draft s_draft_size_46 s_draft_heard_46 s_draft_mode s_draft_cast_46 s_draft_figures_46 s_draft_voices_46 s_draft_attacks s_draft_supports] := hD
      refine lv_pop hx hb dX5_applyNew_49 rfl ?_
      refine lv_iconst (v := nI 1) hx hb dX5_applyNew_50 kc_1 ?_
      exact W.zret (v := nI 1) hx hb hr rfl (fun t ht hW => ⟨⟨_, ⟨s_draft_size_46, s_draft_heard_46, s_draft_cast_46, s_draft_figures_46, s_draft_voices_46⟩, rfl, h, ⟨by rw [ht]; exact (hP.sub [0, 1, 3, 2] rfl), (hD.sub [0, 1, 3, 2] (by decide) rfl)⟩⟩, hS.F ht⟩) hS.2.2 dX5_applyNew_51
    · replace h := h.2 c
      refine lv_iconst (v := nI 0) hx hb dX5_applyNew_25 kc_0 ?_
      exact W.zret (v := nI 0) hx hb hr rfl (fun t ht hW => ⟨⟨_, ⟨s_draft_size, s_draft_heard, s_draft_cast, s_draft_figures, s_draft_voices⟩, rfl, h, ⟨by rw [ht]; exact (hP.sub [0, 1, 3, 2] rfl), (hD.sub [0, 1, 3, 2] (by decide) rfl)⟩⟩, hS.F ht⟩) hS.2.2 dX5_applyNew_26
set_option maxHeartbeats 4000000 in
set_option maxRecDepth 100000 in
theorem c_X5_apply (l : Launch) (G : hcG) (h0 : Nat) (a_letters : Nat) (a_draft : Nat) (a_letters_numbers : Nat) (sz : Nat) (s_letters_length : Int32) (s_draft_size : Int32) (s_draft_heard : Int32) (s_draft_mode : Int32) (s_draft_cast : Int64) (s_draft_figures : Int64) (s_draft_voices : Int64) (s_draft_attacks : Int64) (s_draft_supports : Int64) (g_letters_numbers : Nat → Int32) (x1 : Int32) (x2 : Int32) (post : Int32 → Int32 → Int32 → Int32 → Int64 → Int64 → Int64 → Int64 → Int64 → Prop) (h : wp_X5_apply post g_letters_numbers s_letters_length s_draft_size s_draft_heard s_draft_mode s_draft_cast s_draft_figures s_draft_voices s_draft_attacks s_draft_supports x1 x2) : Met l yX5_apply wsX5_apply ({ frames := 3, cells := 0, slots := 0, locals := 70 }) (hcPc G [.ref h0, .int x1, .int x2] [ceX5 h0 a_letters a_draft, ceX6 a_letters a_letters_numbers s_letters_length, ceX3 a_draft s_draft_size s_draft_heard s_draft_mode s_draft_cast s_draft_figures s_draft_voices s_draft_attacks s_draft_supports, caI G a_letters_numbers 96 g_letters_numbers] sz) (va_Qi (fun (r : Int32) (u : Int32 × Int32 × Int32 × Int64 × Int64 × Int64 × Int64 × Int64) => post r u.1 u.2.1 u.2.2.1 u.2.2.2.1 u.2.2.2.2.1 u.2.2.2.2.2.1 u.2.2.2.2.2.2.1 u.2.2.2.2.2.2.2) (hcB G (va_A [ceX5 h0 a_letters a_draft, ceX6 a_letters a_letters_numbers s_letters_length, ceX3 a_draft s_draft_size s_draft_heard s_draft_mode s_draft_cast s_draft_figures s_draft_voices s_draft_attacks s_draft_supports, caI G a_letters_numbers 96 g_letters_numbers] sz) (fun u : Int32 × Int32 × Int32 × Int64 × Int64 × Int64 × Int64 × Int64 => [ceX5 h0 a_letters a_draft, ceX6 a_letters a_letters_numbers s_letters_length, ceX3 a_draft u.1 u.2.1 u.2.2.1 u.2.2.2.1 u.2.2.2.2.1 u.2.2.2.2.2.1 u.2.2.2.2.2.2.1 u.2.2.2.2.2.2.2, caI G a_letters_numbers 96 g_letters_numbers])) (va_A [ceX5 h0 a_letters a_draft, ceX6 a_letters a_letters_numbers s_letters_length, ceX3 a_draft s_draft_size s_draft_heard s_draft_mode s_draft_cast s_draft_figures s_draft_voices s_draft_attacks s_draft_supports, caI G a_letters_numbers 96 g_letters_numbers] sz)) 0 0 (va_A [ceX5 h0 a_letters a_draft, ceX6 a_letters a_letters_numbers s_letters_length, ceX3 a_draft s_draft_size s_draft_heard s_draft_mode s_draft_cast s_draft_figures s_draft_voices s_draft_attacks s_draft_supports, caI G a_letters_numbers 96 g_letters_numbers] sz) := by
  refine Met.ofW (cc := cX5_apply) (maxL := 6) (ret := (some .boolean)) (by decide) rfl ?_
  intro p e s m args below meth c s₁ B hml hv
  obtain ⟨rfl, hsz, hP, hK, hD0⟩ := hv
  have hx := B.exec
  have hb := B.bytes
  have hr := B.returns
  have hts := atoms_spec (ws := wsX5_apply) B.pre
  have hown : s.vm.findClass RX5 = some m.cls := findClass_of_methodNamed B.named
  have hlocks := B.notSynchronized
  subst hsz
  have hD := hD0.self (sz := s.heap.size)
  generalize hAe : va_A [ceX5 h0 a_letters a_draft, ceX6 a_letters a_letters_numbers s_letters_length, ceX3 a_draft s_draft_size s_draft_heard s_draft_mode s_draft_cast s_draft_figures s_draft_voices s_draft_attacks s_draft_supports, caI G a_letters_numbers 96 g_letters_numbers] s.heap.size = A at hD ⊢
  have hA : ∀ q : Nat, s.heap.size ≤ q → A q := fun q h => by rw [← hAe]; exact Or.inr h
  have hS : va_S A s.heap s.heap [] := va_S.rf
  have hP : va_P G.1 vwCl [ceX5 h0 a_letters a_draft, ceX6 a_letters a_letters_numbers s_letters_length, ceX3 a_draft s_draft_size s_draft_heard s_draft_mode s_draft_cast s_draft_figures s_draft_voices s_draft_attacks s_draft_supports, caI G a_letters_numbers 96 g_letters_numbers] s.heap := hP
  have hl := lv_entry ([.ref h0, .int x1, .int x2]) (n := 6) (Nat.le_of_ble_eq_true rfl)
  rw [lg_entry_eq]
  generalize (lg_sl ([.ref h0, .int x1, .int x2]) ++ List.replicate (6 - (lg_sl ([.ref h0, .int x1, .int x2])).length) Slot.unset).toArray = ls at hl ⊢
  have hl : lv_has ls 6 [(0, .ref h0), (1, .int x1), (2, .int x2)] := hl
  have kf0 := hts (.fieldLink RX5 14 "HallOfClaims$Reader" "letters" "LHallOfClaims$Row;") (List.mem_of_getElem? (i := 1) (by decide +kernel))
  have kf1 := hts (.fieldLink RX5 23 "HallOfClaims$Reader" "draft" "LHallOfClaims$Hall;") (List.mem_of_getElem? (i := 2) (by decide +kernel))
  have ki_X5 : ∀ w ∈ u_ws RX5 TX5 2, w ∈ wsX5_apply := by decide +kernel
  unfold wp_X5_apply at h
  refine lv_aload_n hx hb dX5_apply_0 rfl (lv_at hl 0 rfl) ?_
  refine va_get (D := G.1) (ci := 3) (v := .ref a_letters) (C := RX5) (T := TX5) (N := 2) hx hb hts ki_X5 hown hK.1 hP 0 rfl rfl 0 (by decide) kf0 (fun _ h9 => h9) rfl dX5_apply_1 ?_
  refine lv_iload_n hx hb dX5_apply_4 rfl (lv_at hl 1 rfl) ?_
  refine lv_iconst (v := (-1 : Int32)) hx hb dX5_apply_5 kc_m1 ?_
  refine hc_ki (wr := [ceX5 h0 a_letters a_draft, ceX3 a_draft s_draft_size s_draft_heard s_draft_mode s_draft_cast s_draft_figures s_draft_voices s_draft_attacks s_draft_supports]) (va_runV (As := [.int x1, .int ((-1 : Int32))]) (rest := []) ⟨hx, hb, hml, hown, hts⟩ (c_X6_at l G a_letters a_letters_numbers s.heap.size 96 s_letters_length g_letters_numbers x1 ((-1 : Int32)) _ h) (cwV 2 hts gX5_apply_X6_at rfl rfl rfl (by decide +kernel) ⟨Nat.le_of_ble_eq_true rfl, Nat.le_of_ble_eq_true rfl⟩) (hc_pV hK hP hD [1, 3] rfl rfl (ci := 4) 1 rfl rfl) rfl rfl hl.1 rfl (lv_room (Nat.le_of_ble_eq_true rfl)) dX5_apply_6 ⟨Nat.le_refl _, Nat.le_refl _⟩) hP hD hS hA [1, 3] [0, 2] rfl rfl rfl (by decide) (fun r6 u H locs h hP hD hS => ?_)
  try dsimp only at h
  have hP : va_P G.1 vwCl [ceX5 h0 a_letters a_draft, ceX3 a_draft s_draft_size s_draft_heard s_draft_mode s_draft_cast s_draft_figures s_draft_voices s_draft_attacks s_draft_supports, ceX6 a_letters a_letters_numbers s_letters_length, caI G a_letters_numbers 96 g_letters_numbers] H := hP
  have hD : va_D A [ceX5 h0 a_letters a_draft, ceX3 a_draft s_draft_size s_draft_heard s_draft_mode s_draft_cast s_draft_figures s_draft_voices s_draft_attacks s_draft_supports, ceX6 a_letters a_letters_numbers s_letters_length, caI G a_letters_numbers 96 g_letters_numbers] := hD
  refine lv_istore_n (lv' := [(3, .int r6), (0, .ref h0), (1, .int x1), (2, .int x2)]) hx hb dX5_apply_9 rfl hl (by decide) rfl (fun ls hl => ?_)
  refine lv_iload_n hx hb dX5_apply_10 rfl (lv_at hl 0 rfl) ?_
  refine lv_bipush (v := nI 42) hx hb dX5_apply_11 kb_42 ?_
  refine lv_icmp_ne (tgt := 22) hx hb dX5_apply_13 (by decide) (fun c => ?_) (fun c => ?_)
  · replace h := h.1 c
    refine lv_iload_n hx hb dX5_apply_22 rfl (lv_at hl 0 rfl) ?_
    refine lv_bipush (v := nI 109) hx hb dX5_apply_23 kb_109 ?_
    refine lv_icmp_ne (tgt := 40) hx hb dX5_apply_25 (by decide) (fun c => ?_) (fun c => ?_)
    · replace h := h.1 c
      refine lv_aload_n hx hb dX5_apply_40 rfl (lv_at hl 1 rfl) ?_
      refine lv_iload_n hx hb dX5_apply_41 rfl (lv_at hl 2 rfl) ?_
      refine hc_ki (wr := [ceX3 a_draft s_draft_size s_draft_heard s_draft_mode s_draft_cast s_draft_figures s_draft_voices s_draft_attacks s_draft_supports]) (va_runV (As := [.int x1]) (rest := []) ⟨hx, hb, hml, hown, hts⟩ (c_X5_claimAt l G h0 a_letters a_draft a_letters_numbers H.size s_letters_length g_letters_numbers x1 _ h) (cwV 1 hts gX5_apply_X5_claimAt rfl rfl rfl (by decide +kernel) ⟨Nat.le_of_ble_eq_true rfl, Nat.le_of_ble_eq_true rfl⟩) (hc_pV hK hP hD [0, 2, 3] rfl rfl (ci := 3) 0 rfl rfl) rfl rfl hl.1 rfl (lv_room (Nat.le_of_ble_eq_true rfl)) dX5_apply_42 ⟨Nat.le_refl _, Nat.le_refl _⟩) hP hD hS hA [0, 2, 3] [1] rfl rfl rfl (by decide) (fun r42 u H locs h hP hD hS => ?_)
      try dsimp only at h
      have hP : va_P G.1 vwCl [ceX3 a_draft s_draft_size s_draft_heard s_draft_mode s_draft_cast s_draft_figures s_draft_voices s_draft_attacks s_draft_supports, ceX5 h0 a_letters a_draft, ceX6 a_letters a_letters_numbers s_letters_length, caI G a_letters_numbers 96 g_letters_numbers] H := hP
      have hD : va_D A [ceX3 a_draft s_draft_size s_draft_heard s_draft_mode s_draft_cast s_draft_figures s_draft_voices s_draft_attacks s_draft_supports, ceX5 h0 a_letters a_draft, ceX6 a_letters a_letters_numbers s_letters_length, caI G a_letters_numbers 96 g_letters_numbers] := hD
      refine lv_istore (lv' := [(4, .int r42), (3, .int r6), (0, .ref h0), (1, .int x1), (2, .int x2)]) hx hb dX5_apply_45 hl (by decide) rfl (fun ls hl => ?_)
      refine lv_aload_n hx hb dX5_apply_47 rfl (lv_at hl 2 rfl) ?_
      refine va_get (D := G.1) (ci := 3) (v := .ref a_draft) (C := RX5) (T := TX5) (N := 2) hx hb hts ki_X5 hown hK.1 hP 1 rfl rfl 1 (by decide) kf1 (fun _ h9 => h9) rfl dX5_apply_48 ?_
      refine lv_iload hx hb dX5_apply_51 (lv_at hl 0 rfl) ?_
      refine hc_ki (wr := [ceX5 h0 a_letters a_draft, ceX6 a_letters a_letters_numbers s_letters_length, caI G a_letters_numbers 96 g_letters_numbers]) (va_runV (As := [.int r42]) (rest := []) ⟨hx, hb, hml, hown, hts⟩ (c_X3_knows l G a_draft H.size s_draft_size s_draft_heard s_draft_mode s_draft_cast s_draft_figures s_draft_voices s_draft_attacks s_draft_supports r42 _ h) (cwV 1 hts gX5_apply_X3_knows rfl rfl rfl (by decide +kernel) ⟨Nat.le_of_ble_eq_true rfl, Nat.le_of_ble_eq_true rfl⟩) (hc_pV hK hP hD [0] rfl rfl (ci := 2) 0 rfl rfl) rfl rfl hl.1 rfl (lv_room (Nat.le_of_ble_eq_true rfl)) dX5_apply_53 ⟨Nat.le_refl _, Nat.le_refl _⟩) hP hD hS hA [0] [1, 2, 3] rfl rfl rfl (by decide) (fun r53 u H locs h hP hD hS => ?_)
      try dsimp only at h
      have hP : va_P G.1 vwCl [ceX5 h0 a_letters a_draft, ceX6 a_letters a_letters_numbers s_letters_length, caI G a_letters_numbers 96 g_letters_numbers, ceX3 a_draft s_draft_size s_draft_heard s_draft_mode s_draft_cast s_draft_figures s_draft_voices s_draft_attacks s_draft_supports] H := hP
      have hD : va_D A [ceX5 h0 a_letters a_draft, ceX6 a_letters a_letters_numbers s_letters_length, caI G a_letters_numbers 96 g_letters_numbers, ceX3 a_draft s_draft_size s_draft_heard s_draft_mode s_draft_cast s_draft_figures s_draft_voices s_draft_attacks s_draft_supports] := hD
      refine lv_if_ne (tgt := 61) hx hb dX5_apply_56 (by decide) (fun c => ?_) (fun c => ?_)
      · replace h := h.1 c
        refine lv_aload_n hx hb dX5_apply_61 rfl (lv_at hl 2 rfl) ?_
        refine va_get (D := G.1) (ci := 3) (v := .ref a_letters) (C := RX5) (T := TX5) (N := 2) hx hb hts ki_X5 hown hK.1 hP 0 rfl rfl 0 (by decide) kf0 (fun _ h9 => h9) rfl dX5_apply_62 ?_
        refine lv_iload_n hx hb dX5_apply_65 rfl (lv_at hl 3 rfl) ?_
        refine lv_iconst (v := nI 1) hx hb dX5_apply_66 kc_1 ?_
        refine lv_iadd hx hb dX5_apply_67 ?_
        refine lv_iconst (v := (-1 : Int32)) hx hb dX5_apply_68 kc_m1 ?_
        refine hc_ki (wr := [ceX5 h0 a_letters a_draft, ceX3 a_draft s_draft_size s_draft_heard s_draft_mode s_draft_cast s_draft_figures s_draft_voices s_draft_attacks s_draft_supports]) (va_runV (As := [.int (x1 + (nI 1)), .int ((-1 : Int32))]) (rest := []) ⟨hx, hb, hml, hown, hts⟩ (c_X6_at l G a_letters a_letters_numbers H.size 96 s_letters_length g_letters_numbers (x1 + (nI 1)) ((-1 : Int32)) _ h) (cwV 2 hts gX5_apply_X6_at rfl rfl rfl (by decide +kernel) ⟨Nat.le_of_ble_eq_true rfl, Nat.le_of_ble_eq_true rfl⟩) (hc_pV hK hP hD [1, 2] rfl rfl (ci := 4) 1 rfl rfl) rfl rfl hl.1 rfl (lv_room (Nat.le_of_ble_eq_true rfl)) dX5_apply_69 ⟨Nat.le_refl _, Nat.le_refl _⟩) hP hD hS hA [1, 2] [0, 3] rfl rfl rfl (by decide) (fun r69 u H locs h hP hD hS => ?_)
        try dsimp only at h
        have hP : va_P G.1 vwCl [ceX5 h0 a_letters a_draft, ceX3 a_draft s_draft_size s_draft_heard s_draft_mode s_draft_cast s_draft_figures s_draft_voices s_draft_attacks s_draft_supports, ceX6 a_letters a_letters_numbers s_letters_length, caI G a_letters_numbers 96 g_letters_numbers] H := hP
        have hD : va_D A [ceX5 h0 a_letters a_draft, ceX3 a_draft s_draft_size s_draft_heard s_draft_mode s_draft_cast s_draft_figures s_draft_voices s_draft_attacks s_draft_supports, ceX6 a_letters a_letters_numbers s_letters_length, caI G a_letters_numbers 96 g_letters_numbers] := hD
        refine lv_istore (lv' := [(5, .int r69), (4, .int r42), (3, .int r6), (0, .ref h0), (1, .int x1), (2, .int x2)]) hx hb dX5_apply_72 hl (by decide) rfl (fun ls hl => ?_)
        refine lv_iload hx hb dX5_apply_74 (lv_at hl 0 rfl) ?_
        refine lv_bipush (v := nI 58) hx hb dX5_apply_76 kb_58 ?_
        refine lv_icmp_ne (tgt := 102) hx hb dX5_apply_78 (by decide) (fun c => ?_) (fun c => ?_)
        · replace h := h.1 c
          refine lv_iload hx hb dX5_apply_102 (lv_at hl 0 rfl) ?_
          refine lv_bipush (v := nI 33) hx hb dX5_apply_104 kb_33 ?_
          refine lv_icmp_ne (tgt := 120) hx hb dX5_apply_106 (by decide) (fun c => ?_) (fun c => ?_)
          · replace h := h.1 c
            refine lv_aload_n hx hb dX5_apply_120 rfl (lv_at hl 3 rfl) ?_
            refine lv_iload_n hx hb dX5_apply_121 rfl (lv_at hl 4 rfl) ?_
            refine lv_iload_n hx hb dX5_apply_122 rfl (lv_at hl 5 rfl) ?_
            refine hc_ki (wr := []) (va_runV (As := [.int x1, .int x2]) (rest := []) ⟨hx, hb, hml, hown, hts⟩ (c_X5_applyChain l G h0 a_letters a_draft a_letters_numbers H.size s_letters_length s_draft_size s_draft_heard s_draft_mode s_draft_cast s_draft_figures s_draft_voices s_draft_attacks s_draft_supports g_letters_numbers x1 x2 _ h) (cwV 2 hts gX5_apply_X5_applyChain rfl rfl rfl (by decide +kernel) ⟨Nat.le_of_ble_eq_true rfl, Nat.le_of_ble_eq_true rfl⟩) (hc_pV hK hP hD [0, 2, 1, 3] rfl rfl (ci := 3) 0 rfl rfl) rfl rfl hl.1 rfl (lv_room (Nat.le_of_ble_eq_true rfl)) dX5_apply_123 ⟨Nat.le_refl _, Nat.le_refl _⟩) hP hD hS hA [0, 2, 1, 3] [] rfl rfl rfl (by decide) (fun r123 u H locs h hP hD hS => ?_)
            obtain ⟨s_draft_attacks_123, s_draft_supports_123⟩ := u
            try dsimp only at h
            have hP : va_P G.1 vwCl [ceX5 h0 a_letters a_draft, ceX6 a_letters a_letters_numbers s_letters_length, ceX3 a_draft s_draft_size s_draft_heard s_draft_mode s_draft_cast s_draft_figures s_draft_voices s_draft_attacks_123 s_draft_supports_123, caI G a_letters_numbers 96 g_letters_numbers] H := hP
            have hD : va_D A [ceX5 h0 a_letters a_draft, ceX6 a_letters a_letters_numbers s_letters_length, ceX3 a_draft s_draft_size s_draft_heard s_draft_mode s_draft_cast s_draft_figures s_draft_voices s_draft_attacks_123 s_draft_supports_123, caI G a_letters_numbers 96 g_letters_numbers] := hD
            have hz := h.1
            replace h := h.2
            exact W.zret (v := r123) hx hb hr (hc_nar hz) (fun t ht hW => ⟨⟨_, ⟨s_draft_size, s_draft_heard, s_draft_mode, s_draft_cast, s_draft_figures, s_draft_voices, s_draft_attacks_123, s_draft_supports_123⟩, rfl, h, ⟨by rw [ht]; exact hP, hD⟩⟩, hS.F ht⟩) hS.2.2 dX5_apply_126
          · replace h := h.2 c
            refine lv_aload_n hx hb dX5_apply_109 rfl (lv_at hl 3 rfl) ?_
            refine va_get (D := G.1) (ci := 3) (v := .ref a_draft) (C := RX5) (T := TX5) (N := 2) hx hb hts ki_X5 hown hK.1 hP 0 rfl rfl 1 (by decide) kf1 (fun _ h9 => h9) rfl dX5_apply_110 ?_
            refine lv_iload hx hb dX5_apply_113 (lv_at hl 1 rfl) ?_
            refine hc_kv (wr := [ceX5 h0 a_letters a_draft, ceX6 a_letters a_letters_numbers s_letters_length, caI G a_letters_numbers 96 g_letters_numbers]) (va_runV (As := [.int r42]) (rest := []) ⟨hx, hb, hml, hown, hts⟩ (c_X3_flipHeard l G a_draft H.size s_draft_size s_draft_heard s_draft_mode s_draft_cast s_draft_figures s_draft_voices s_draft_attacks s_draft_supports r42 _ h) (cwV 1 hts gX5_apply_X3_flipHeard rfl rfl rfl (by decide +kernel) ⟨Nat.le_of_ble_eq_true rfl, Nat.le_of_ble_eq_true rfl⟩) (hc_pV hK hP hD [1] rfl rfl (ci := 2) 1 rfl rfl) rfl rfl hl.1 rfl (lv_room (Nat.le_of_ble_eq_true rfl)) dX5_apply_115 ⟨Nat.le_refl _, Nat.le_refl _⟩) hP hD hS hA [1] [0, 2, 3] rfl rfl rfl (by decide) (fun u H locs h hP hD hS => ?_)
            obtain ⟨s_draft_heard_115, rfl⟩ : ∃ z, z = u := ⟨_, rfl⟩
            try dsimp only at h
            have hP : va_P G.1 vwCl [ceX5 h0 a_letters a_draft, ceX6 a_letters a_letters_numbers s_letters_length, caI G a_letters_numbers 96 g_letters_numbers, ceX3 a_draft s_draft_size s_draft_heard_115 s_draft_mode s_draft_cast s_draft_figures s_draft_voices s_draft_attacks s_draft_supports] H := hP
            have hD : va_D A [ceX5 h0 a_letters a_draft, ceX6 a_letters a_letters_numbers s_letters_length, caI G a_letters_numbers 96 g_letters_numbers, ceX3 a_draft s_draft_size s_draft_heard_115 s_draft_mode s_draft_cast s_draft_figures s_draft_voices s_draft_attacks s_draft_supports] := hD
            refine lv_iconst (v := nI 1) hx hb dX5_apply_118 kc_1 ?_
            exact W.zret (v := nI 1) hx hb hr rfl (fun t ht hW => ⟨⟨_, ⟨s_draft_size, s_draft_heard_115, s_draft_mode, s_draft_cast, s_draft_figures, s_draft_voices, s_draft_attacks, s_draft_supports⟩, rfl, h, ⟨by rw [ht]; exact (hP.sub [0, 1, 3, 2] rfl), (hD.sub [0, 1, 3, 2] (by decide) rfl)⟩⟩, hS.F ht⟩) hS.2.2 dX5_apply_119
        · replace h := h.2 c
          refine lv_aload_n hx hb dX5_apply_81 rfl (lv_at hl 3 rfl) ?_
          refine lv_iload hx hb dX5_apply_82 (lv_at hl 1 rfl) ?_
          refine lv_aload_n hx hb dX5_apply_84 rfl (lv_at hl 3 rfl) ?_
          refine lv_iload_n hx hb dX5_apply_85 rfl (lv_at hl 4 rfl) ?_
          refine lv_iconst (v := nI 2) hx hb dX5_apply_86 kc_2 ?_
          refine lv_iadd hx hb dX5_apply_87 ?_
          refine hc_ki (wr := [ceX3 a_draft s_draft_size s_draft_heard s_draft_mode s_draft_cast s_draft_figures s_draft_voices s_draft_attacks s_draft_supports]) (va_runV (As := [.int (x1 + (nI 2))]) (rest := [.int r42, .ref h0]) ⟨hx, hb, hml, hown, hts⟩ (c_X5_digitAt l G h0 a_letters a_draft a_letters_numbers H.size s_letters_length g_letters_numbers (x1 + (nI 2)) _ h) (cwV 1 hts gX5_apply_X5_digitAt rfl rfl rfl (by decide +kernel) ⟨Nat.le_of_ble_eq_true rfl, Nat.le_of_ble_eq_true rfl⟩) (hc_pV hK hP hD [0, 2, 3] rfl rfl (ci := 3) 0 rfl rfl) rfl rfl hl.1 rfl (lv_room (Nat.le_of_ble_eq_true rfl)) dX5_apply_88 ⟨Nat.le_refl _, Nat.le_refl _⟩) hP hD hS hA [0, 2, 3] [1] rfl rfl rfl (by decide) (fun r88 u H locs h hP hD hS => ?_)
          try dsimp only at h
          have hP : va_P G.1 vwCl [ceX3 a_draft s_draft_size s_draft_heard s_draft_mode s_draft_cast s_draft_figures s_draft_voices s_draft_attacks s_draft_supports, ceX5 h0 a_letters a_draft, ceX6 a_letters a_letters_numbers s_letters_length, caI G a_letters_numbers 96 g_letters_numbers] H := hP
          have hD : va_D A [ceX3 a_draft s_draft_size s_draft_heard s_draft_mode s_draft_cast s_draft_figures s_draft_voices s_draft_attacks s_draft_supports, ceX5 h0 a_letters a_draft, ceX6 a_letters a_letters_numbers s_letters_length, caI G a_letters_numbers 96 g_letters_numbers] := hD
          refine lv_aload_n hx hb dX5_apply_91 rfl (lv_at hl 3 rfl) ?_
          refine lv_iload_n hx hb dX5_apply_92 rfl (lv_at hl 4 rfl) ?_
          refine lv_iconst (v := nI 3) hx hb dX5_apply_93 kc_3 ?_
          refine lv_iadd hx hb dX5_apply_94 ?_
          refine hc_ki (wr := [ceX3 a_draft s_draft_size s_draft_heard s_draft_mode s_draft_cast s_draft_figures s_draft_voices s_draft_attacks s_draft_supports]) (va_runV (As := [.int (x1 + (nI 3))]) (rest := [.int r88, .int r42, .ref h0]) ⟨hx, hb, hml, hown, hts⟩ (c_X5_digitAt l G h0 a_letters a_draft a_letters_numbers H.size s_letters_length g_letters_numbers (x1 + (nI 3)) _ h) (cwV 1 hts gX5_apply_X5_digitAt rfl rfl rfl (by decide +kernel) ⟨Nat.le_of_ble_eq_true rfl, Nat.le_of_ble_eq_true rfl⟩) (hc_pV hK hP hD [1, 2, 3] rfl rfl (ci := 3) 1 rfl rfl) rfl rfl hl.1 rfl (lv_room (Nat.le_of_ble_eq_true rfl)) dX5_apply_95 ⟨Nat.le_refl _, Nat.le_refl _⟩) hP hD hS hA [1, 2, 3] [0] rfl rfl rfl (by decide) (fun r95 u H locs h hP hD hS => ?_)
          try dsimp only at h
          have hP : va_P G.1 vwCl [ceX3 a_draft s_draft_size s_draft_heard s_draft_mode s_draft_cast s_draft_figures s_draft_voices s_draft_attacks s_draft_supports, ceX5 h0 a_letters a_draft, ceX6 a_letters a_letters_numbers s_letters_length, caI G a_letters_numbers 96 g_letters_numbers] H := hP
          have hD : va_D A [ceX3 a_draft s_draft_size s_draft_heard s_draft_mode s_draft_cast s_draft_figures s_draft_voices s_draft_attacks s_draft_supports, ceX5 h0 a_letters a_draft, ceX6 a_letters a_letters_numbers s_letters_length, caI G a_letters_numbers 96 g_letters_numbers] := hD
          refine hc_ki (wr := [ceX6 a_letters a_letters_numbers s_letters_length, caI G a_letters_numbers 96 g_letters_numbers]) (va_runV (As := [.int r42, .int r88, .int r95]) (rest := []) ⟨hx, hb, hml, hown, hts⟩ (c_X5_applyKind l G h0 a_letters a_draft H.size s_draft_size s_draft_heard s_draft_mode s_draft_cast s_draft_figures s_draft_voices s_draft_attacks s_draft_supports r42 r88 r95 _ h) (cwV 3 hts gX5_apply_X5_applyKind rfl rfl rfl (by decide +kernel) ⟨Nat.le_of_ble_eq_true rfl, Nat.le_of_ble_eq_true rfl⟩) (hc_pV hK hP hD [1, 0] rfl rfl (ci := 3) 1 rfl rfl) rfl rfl hl.1 rfl (lv_room (Nat.le_of_ble_eq_true rfl)) dX5_apply_98 ⟨Nat.le_refl _, Nat.le_refl _⟩) hP hD hS hA [1, 0] [2, 3] rfl rfl rfl (by decide) (fun r98 u H locs h hP hD hS => ?_)
          obtain ⟨s_draft_cast_98, s_draft_figures_98⟩ := u
          try dsimp only at h
          have hP : va_P G.1 vwCl [ceX6 a_letters a_letters_numbers s_letters_length, caI G a_letters_numbers 96 g_letters_numbers, ceX5 h0 a_letters a_draft, ceX3 a_draft s_draft_size s_draft_heard s_draft_mode s_draft_cast_98 s_draft_figures_98 s_draft_voices s_draft_attacks s_draft_supports] H := hP
          have hD : va_D A [ceX6 a_letters a_letters_numbers s_letters_length, caI G a_letters_numbers 96 g_letters_numbers, ceX5 h0 a_letters a_draft, ceX3 a_draft s_draft_size s_draft_heard s_draft_mode s_draft_cast_98 s_draft_figures_98 s_draft_voices s_draft_attacks s_draft_supports] := hD
          have hz := h.1
          replace h := h.2
          exact W.zret (v := r98) hx hb hr (hc_nar hz) (fun t ht hW => ⟨⟨_, ⟨s_draft_size, s_draft_heard, s_draft_mode, s_draft_cast_98, s_draft_figures_98, s_draft_voices, s_draft_attacks, s_draft_supports⟩, rfl, h, ⟨by rw [ht]; exact (hP.sub [2, 0, 3, 1] rfl), (hD.sub [2, 0, 3, 1] (by decide) rfl)⟩⟩, hS.F ht⟩) hS.2.2 dX5_apply_101
      · replace h := h.2 c
        refine lv_iconst (v := nI 0) hx hb dX5_apply_59 kc_0 ?_
        exact W.zret (v := nI 0) hx hb hr rfl (fun t ht hW => ⟨⟨_, ⟨s_draft_size, s_draft_heard, s_draft_mode, s_draft_cast, s_draft_figures, s_draft_voices, s_draft_attacks, s_draft_supports⟩, rfl, h, ⟨by rw [ht]; exact (hP.sub [0, 1, 3, 2] rfl), (hD.sub [0, 1, 3, 2] (by decide) rfl)⟩⟩, hS.F ht⟩) hS.2.2 dX5_apply_60
    · replace h := h.2 c
      refine lv_aload_n hx hb dX5_apply_28 rfl (lv_at hl 1 rfl) ?_
      refine lv_aload_n hx hb dX5_apply_29 rfl (lv_at hl 1 rfl) ?_
      refine lv_iload_n hx hb dX5_apply_30 rfl (lv_at hl 2 rfl) ?_
      refine lv_iconst (v := nI 1) hx hb dX5_apply_31 kc_1 ?_
      refine lv_iadd hx hb dX5_apply_32 ?_
      refine hc_ki (wr := [ceX3 a_draft s_draft_size s_draft_heard s_draft_mode s_draft_cast s_draft_figures s_draft_voices s_draft_attacks s_draft_supports]) (va_runV (As := [.int (x1 + (nI 1))]) (rest := [.ref h0]) ⟨hx, hb, hml, hown, hts⟩ (c_X5_digitAt l G h0 a_letters a_draft a_letters_numbers H.size s_letters_length g_letters_numbers (x1 + (nI 1)) _ h) (cwV 1 hts gX5_apply_X5_digitAt rfl rfl rfl (by decide +kernel) ⟨Nat.le_of_ble_eq_true rfl, Nat.le_of_ble_eq_true rfl⟩) (hc_pV hK hP hD [0, 2, 3] rfl rfl (ci := 3) 0 rfl rfl) rfl rfl hl.1 rfl (lv_room (Nat.le_of_ble_eq_true rfl)) dX5_apply_33 ⟨Nat.le_refl _, Nat.le_refl _⟩) hP hD hS hA [0, 2, 3] [1] rfl rfl rfl (by decide) (fun r33 u H locs h hP hD hS => ?_)
      try dsimp only at h
      have hP : va_P G.1 vwCl [ceX3 a_draft s_draft_size s_draft_heard s_draft_mode s_draft_cast s_draft_figures s_draft_voices s_draft_attacks s_draft_supports, ceX5 h0 a_letters a_draft, ceX6 a_letters a_letters_numbers s_letters_length, caI G a_letters_numbers 96 g_letters_numbers] H := hP
      have hD : va_D A [ceX3 a_draft s_draft_size s_draft_heard s_draft_mode s_draft_cast s_draft_figures s_draft_voices s_draft_attacks s_draft_supports, ceX5 h0 a_letters a_draft, ceX6 a_letters a_letters_numbers s_letters_length, caI G a_letters_numbers 96 g_letters_numbers] := hD
      refine hc_ki (wr := [ceX6 a_letters a_letters_numbers s_letters_length, caI G a_letters_numbers 96 g_letters_numbers]) (va_runV (As := [.int r33]) (rest := []) ⟨hx, hb, hml, hown, hts⟩ (c_X5_applyMode l G h0 a_letters a_draft H.size s_draft_size s_draft_heard s_draft_mode s_draft_cast s_draft_figures s_draft_voices s_draft_attacks s_draft_supports r33 _ h) (cwV 1 hts gX5_apply_X5_applyMode rfl rfl rfl (by decide +kernel) ⟨Nat.le_of_ble_eq_true rfl, Nat.le_of_ble_eq_true rfl⟩) (hc_pV hK hP hD [1, 0] rfl rfl (ci := 3) 1 rfl rfl) rfl rfl hl.1 rfl (lv_room (Nat.le_of_ble_eq_true rfl)) dX5_apply_36 ⟨Nat.le_refl _, Nat.le_refl _⟩) hP hD hS hA [1, 0] [2, 3] rfl rfl rfl (by decide) (fun r36 u H locs h hP hD hS => ?_)
      obtain ⟨s_draft_mode_36, rfl⟩ : ∃ z, z = u := ⟨_, rfl⟩
      try dsimp only at h
      have hP : va_P G.1 vwCl [ceX6 a_letters a_letters_numbers s_letters_length, caI G a_letters_numbers 96 g_letters_numbers, ceX5 h0 a_letters a_draft, ceX3 a_draft s_draft_size s_draft_heard s_draft_mode_36 s_draft_cast s_draft_figures s_draft_voices s_draft_attacks s_draft_supports] H := hP
      have hD : va_D A [ceX6 a_letters a_letters_numbers s_letters_length, caI G a_letters_numbers 96 g_letters_numbers, ceX5 h0 a_letters a_draft, ceX3 a_draft s_draft_size s_draft_heard s_draft_mode_36 s_draft_cast s_draft_figures s_draft_voices s_draft_attacks s_draft_supports] := hD
      have hz := h.1
      replace h := h.2
      exact W.zret (v := r36) hx hb hr (hc_nar hz) (fun t ht hW => ⟨⟨_, ⟨s_draft_size, s_draft_heard, s_draft_mode_36, s_draft_cast, s_draft_figures, s_draft_voices, s_draft_attacks, s_draft_supports⟩, rfl, h, ⟨by rw [ht]; exact (hP.sub [2, 0, 3, 1] rfl), (hD.sub [2, 0, 3, 1] (by decide) rfl)⟩⟩, hS.F ht⟩) hS.2.2 dX5_apply_39
  · replace h := h.2 c
    refine lv_aload_n hx hb dX5_apply_16 rfl (lv_at hl 1 rfl) ?_
    refine lv_iload_n hx hb dX5_apply_17 rfl (lv_at hl 2 rfl) ?_
    refine hc_ki (wr := []) (va_runV (As := [.int x1]) (rest := []) ⟨hx, hb, hml, hown, hts⟩ (c_X5_applyNew l G h0 a_letters a_draft a_letters_numbers H.size s_letters_length s_draft_size s_draft_heard s_draft_mode s_draft_cast s_draft_figures s_draft_voices s_draft_attacks s_draft_supports g_letters_numbers x1 _ h) (cwV 1 hts gX5_apply_X5_applyNew rfl rfl rfl (by decide +kernel) ⟨Nat.le_of_ble_eq_true rfl, Nat.le_of_ble_eq_true rfl⟩) (hc_pV hK hP hD [0, 2, 1, 3] rfl rfl (ci := 3) 0 rfl rfl) rfl rfl hl.1 rfl (lv_room (Nat.le_of_ble_eq_true rfl)) dX5_apply_18 ⟨Nat.le_refl _, Nat.le_refl _⟩) hP hD hS hA [0, 2, 1, 3] [] rfl rfl rfl (by decide) (fun r18 u H locs h hP hD hS => ?_)
    obtain ⟨s_draft_size_18, s_draft_heard_18, s_draft_cast_18, s_draft_figures_18, s_draft_voices_18⟩ := u
    try dsimp only at h
    have hP : va_P G.1 vwCl [ceX5 h0 a_letters a_draft, ceX6 a_letters a_letters_numbers s_letters_length, ceX3 a_draft s_draft_size_18 s_draft_heard_18 s_draft_mode s_draft_cast_18 s_draft_figures_18 s_draft_voices_18 s_draft_attacks s_draft_supports, caI G a_letters_numbers 96 g_letters_numbers] H := hP
    have hD : va_D A [ceX5 h0 a_letters a_draft, ceX6 a_letters a_letters_numbers s_letters_length, ceX3 a_draft s_draft_size_18 s_draft_heard_18 s_draft_mode s_draft_cast_18 s_draft_figures_18 s_draft_voices_18 s_draft_attacks s_draft_supports, caI G a_letters_numbers 96 g_letters_numbers] := hD
    have hz := h.1
    replace h := h.2
    exact W.zret (v := r18) hx hb hr (hc_nar hz) (fun t ht hW => ⟨⟨_, ⟨s_draft_size_18, s_draft_heard_18, s_draft_mode, s_draft_cast_18, s_draft_figures_18, s_draft_voices_18, s_draft_attacks, s_draft_supports⟩, rfl, h, ⟨by rw [ht]; exact hP, hD⟩⟩, hS.F ht⟩) hS.2.2 dX5_apply_21
set_option maxHeartbeats 4000000 in
set_option maxRecDepth 100000 in
theorem c_X5_applied (l : Launch) (G : hcG) (h0 : Nat) (a_letters : Nat) (a_draft : Nat) (hp1 : Nat) (a_letters_numbers : Nat) (sz : Nat) (s_p1_size : Int32) (s_p1_heard : Int32) (s_p1_mode : Int32) (s_p1_cast : Int64) (s_p1_figures : Int64) (s_p1_voices : Int64) (s_p1_attacks : Int64) (s_p1_supports : Int64) (s_letters_length : Int32) (s_draft_size : Int32) (s_draft_heard : Int32) (s_draft_mode : Int32) (s_draft_cast : Int64) (s_draft_figures : Int64) (s_draft_voices : Int64) (s_draft_attacks : Int64) (s_draft_supports : Int64) (g_letters_numbers : Nat → Int32) (post : Int32 → Int32 → Int32 → Int32 → Int64 → Int64 → Int64 → Int64 → Int64 → Int32 → Int32 → Int32 → Int64 → Int64 → Int64 → Int64 → Int64 → Prop) (h : wp_X5_applied post g_letters_numbers s_letters_length s_draft_size s_draft_heard s_draft_mode s_draft_cast s_draft_figures s_draft_voices s_draft_attacks s_draft_supports s_p1_size s_p1_heard s_p1_mode s_p1_cast s_p1_figures s_p1_voices s_p1_attacks s_p1_supports) : Met l yX5_applied wsX5_applied ({ frames := 4, cells := 0, slots := 0, locals := 95 }) (hcPc G [.ref h0, .ref hp1] [ceX5 h0 a_letters a_draft, ceX3 hp1 s_p1_size s_p1_heard s_p1_mode s_p1_cast s_p1_figures s_p1_voices s_p1_attacks s_p1_supports, ceX6 a_letters a_letters_numbers s_letters_length, ceX3 a_draft s_draft_size s_draft_heard s_draft_mode s_draft_cast s_draft_figures s_draft_voices s_draft_attacks s_draft_supports, caI G a_letters_numbers 96 g_letters_numbers] sz) (va_Qi (fun (r : Int32) (u : Int32 × Int32 × Int32 × Int64 × Int64 × Int64 × Int64 × Int64 × Int32 × Int32 × Int32 × Int64 × Int64 × Int64 × Int64 × Int64) => post r u.1 u.2.1 u.2.2.1 u.2.2.2.1 u.2.2.2.2.1 u.2.2.2.2.2.1 u.2.2.2.2.2.2.1 u.2.2.2.2.2.2.2.1 u.2.2.2.2.2.2.2.2.1 u.2.2.2.2.2.2.2.2.2.1 u.2.2.2.2.2.2.2.2.2.2.1 u.2.2.2.2.2.2.2.2.2.2.2.1 u.2.2.2.2.2.2.2.2.2.2.2.2.1 u.2.2.2.2.2.2.2.2.2.2.2.2.2.1 u.2.2.2.2.2.2.2.2.2.2.2.2.2.2.1 u.2.2.2.2.2.2.2.2.2.2.2.2.2.2.2) (hcB G (va_A [ceX5 h0 a_letters a_draft, ceX3 hp1 s_p1_size s_p1_heard s_p1_mode s_p1_cast s_p1_figures s_p1_voices s_p1_attacks s_p1_supports, ceX6 a_letters a_letters_numbers s_letters_length, ceX3 a_draft s_draft_size s_draft_heard s_draft_mode s_draft_cast s_draft_figures s_draft_voices s_draft_attacks s_draft_supports, caI G a_letters_numbers 96 g_letters_numbers] sz) (fun u : Int32 × Int32 × Int32 × Int64 × Int64 × Int64 × Int64 × Int64 × Int32 × Int32 × Int32 × Int64 × Int64 × Int64 × Int64 × Int64 => [ceX5 h0 a_letters a_draft, ceX3 hp1 u.2.2.2.2.2.2.2.2.1 u.2.2.2.2.2.2.2.2.2.1 u.2.2.2.2.2.2.2.2.2.2.1 u.2.2.2.2.2.2.2.2.2.2.2.1 u.2.2.2.2.2.2.2.2.2.2.2.2.1 u.2.2.2.2.2.2.2.2.2.2.2.2.2.1 u.2.2.2.2.2.2.2.2.2.2.2.2.2.2.1 u.2.2.2.2.2.2.2.2.2.2.2.2.2.2.2, ceX6 a_letters a_letters_numbers s_letters_length, ceX3 a_draft u.1 u.2.1 u.2.2.1 u.2.2.2.1 u.2.2.2.2.1 u.2.2.2.2.2.1 u.2.2.2.2.2.2.1 u.2.2.2.2.2.2.2.1, caI G a_letters_numbers 96 g_letters_numbers])) (va_A [ceX5 h0 a_letters a_draft, ceX3 hp1 s_p1_size s_p1_heard s_p1_mode s_p1_cast s_p1_figures s_p1_voices s_p1_attacks s_p1_supports, ceX6 a_letters a_letters_numbers s_letters_length, ceX3 a_draft s_draft_size s_draft_heard s_draft_mode s_draft_cast s_draft_figures s_draft_voices s_draft_attacks s_draft_supports, caI G a_letters_numbers 96 g_letters_numbers] sz)) 0 0 (va_A [ceX5 h0 a_letters a_draft, ceX3 hp1 s_p1_size s_p1_heard s_p1_mode s_p1_cast s_p1_figures s_p1_voices s_p1_attacks s_p1_supports, ceX6 a_letters a_letters_numbers s_letters_length, ceX3 a_draft s_draft_size s_draft_heard s_draft_mode s_draft_cast s_draft_figures s_draft_voices s_draft_attacks s_draft_supports, caI G a_letters_numbers 96 g_letters_numbers] sz) := by
  refine Met.ofW (cc := cX5_applied) (maxL := 5) (ret := (some .int)) (by decide) rfl ?_
  intro p e s m args below meth c s₁ B hml hv
  obtain ⟨rfl, hsz, hP, hK, hD0⟩ := hv
  have hx := B.exec
  have hb := B.bytes
  have hr := B.returns
  have hts := atoms_spec (ws := wsX5_applied) B.pre
  have hown : s.vm.findClass RX5 = some m.cls := findClass_of_methodNamed B.named
  have hlocks := B.notSynchronized
  subst hsz
  have hD := hD0.self (sz := s.heap.size)
  generalize hAe : va_A [ceX5 h0 a_letters a_draft, ceX3 hp1 s_p1_size s_p1_heard s_p1_mode s_p1_cast s_p1_figures s_p1_voices s_p1_attacks s_p1_supports, ceX6 a_letters a_letters_numbers s_letters_length, ceX3 a_draft s_draft_size s_draft_heard s_draft_mode s_draft_cast s_draft_figures s_draft_voices s_draft_attacks s_draft_supports, caI G a_letters_numbers 96 g_letters_numbers] s.heap.size = A at hD ⊢
  have hA : ∀ q : Nat, s.heap.size ≤ q → A q := fun q h => by rw [← hAe]; exact Or.inr h
  have hS : va_S A s.heap s.heap [] := va_S.rf
  have hP : va_P G.1 vwCl [ceX5 h0 a_letters a_draft, ceX3 hp1 s_p1_size s_p1_heard s_p1_mode s_p1_cast s_p1_figures s_p1_voices s_p1_attacks s_p1_supports, ceX6 a_letters a_letters_numbers s_letters_length, ceX3 a_draft s_draft_size s_draft_heard s_draft_mode s_draft_cast s_draft_figures s_draft_voices s_draft_attacks s_draft_supports, caI G a_letters_numbers 96 g_letters_numbers] s.heap := hP
  have hl := lv_entry ([.ref h0, .ref hp1]) (n := 5) (Nat.le_of_ble_eq_true rfl)
  rw [lg_entry_eq]
  generalize (lg_sl ([.ref h0, .ref hp1]) ++ List.replicate (5 - (lg_sl ([.ref h0, .ref hp1])).length) Slot.unset).toArray = ls at hl ⊢
  have hl : lv_has ls 5 [(0, .ref h0), (1, .ref hp1)] := hl
  have kf0 := hts (.fieldLink RX5 23 "HallOfClaims$Reader" "draft" "LHallOfClaims$Hall;") (List.mem_of_getElem? (i := 1) (by decide +kernel))
  have kf1 := hts (.fieldLink RX5 14 "HallOfClaims$Reader" "letters" "LHallOfClaims$Row;") (List.mem_of_getElem? (i := 2) (by decide +kernel))
  have kf2 := hts (.fieldLink RX5 35 "HallOfClaims$Row" "length" "I") (List.mem_of_getElem? (i := 3) (by decide +kernel))
  have ki_X5 : ∀ w ∈ u_ws RX5 TX5 2, w ∈ wsX5_applied := by decide +kernel
  have ki_X6 : ∀ w ∈ u_ws RX6 TX6 2, w ∈ wsX5_applied := by decide +kernel
  have w15 : ∀ (n : Nat) (v2 : Int32) (v3 : Int32) (v4 : Int32) (s_draft_size : Int32) (s_draft_heard : Int32) (s_draft_mode : Int32) (s_draft_cast : Int64) (s_draft_figures : Int64) (s_draft_voices : Int64) (s_draft_attacks : Int64) (s_draft_supports : Int64) (s_p1_size : Int32) (s_p1_heard : Int32) (s_p1_mode : Int32) (s_p1_cast : Int64) (s_p1_figures : Int64) (s_p1_voices : Int64) (s_p1_attacks : Int64) (s_p1_supports : Int64) , wp_X5_applied_15 post g_letters_numbers s_letters_length n v2 v3 v4 s_draft_size s_draft_heard s_draft_mode s_draft_cast s_draft_figures s_draft_voices s_draft_attacks s_draft_supports s_p1_size s_p1_heard s_p1_mode s_p1_cast s_p1_figures s_p1_voices s_p1_attacks s_p1_supports → ∀ (H : Heap) (locs : List Loc) (ls : Array Slot), va_P G.1 vwCl [ceX5 h0 a_letters a_draft, ceX3 hp1 s_p1_size s_p1_heard s_p1_mode s_p1_cast s_p1_figures s_p1_voices s_p1_attacks s_p1_supports, ceX6 a_letters a_letters_numbers s_letters_length, ceX3 a_draft s_draft_size s_draft_heard s_draft_mode s_draft_cast s_draft_figures s_draft_voices s_draft_attacks s_draft_supports, caI G a_letters_numbers 96 g_letters_numbers] H → va_D A [ceX5 h0 a_letters a_draft, ceX3 hp1 s_p1_size s_p1_heard s_p1_mode s_p1_cast s_p1_figures s_p1_voices s_p1_attacks s_p1_supports, ceX6 a_letters a_letters_numbers s_letters_length, ceX3 a_draft s_draft_size s_draft_heard s_draft_mode s_draft_cast s_draft_figures s_draft_voices s_draft_attacks s_draft_supports, caI G a_letters_numbers 96 g_letters_numbers] → va_S A s.heap H locs → lv_has ls 5 [(0, .ref h0), (1, .ref hp1), (2, .int v2), (3, .int v3), (4, .int v4)] → W p l e (headSpec wsX5_applied ({ frames := 4, cells := 0, slots := 0, locals := 95 })).room s m ([.ref h0, .ref hp1] : List Value).toArray below meth c H locs 0 0 (MQ below (va_Qi (fun (r : Int32) (u : Int32 × Int32 × Int32 × Int64 × Int64 × Int64 × Int64 × Int64 × Int32 × Int32 × Int32 × Int64 × Int64 × Int64 × Int64 × Int64) => post r u.1 u.2.1 u.2.2.1 u.2.2.2.1 u.2.2.2.2.1 u.2.2.2.2.2.1 u.2.2.2.2.2.2.1 u.2.2.2.2.2.2.2.1 u.2.2.2.2.2.2.2.2.1 u.2.2.2.2.2.2.2.2.2.1 u.2.2.2.2.2.2.2.2.2.2.1 u.2.2.2.2.2.2.2.2.2.2.2.1 u.2.2.2.2.2.2.2.2.2.2.2.2.1 u.2.2.2.2.2.2.2.2.2.2.2.2.2.1 u.2.2.2.2.2.2.2.2.2.2.2.2.2.2.1 u.2.2.2.2.2.2.2.2.2.2.2.2.2.2.2) (hcB G A (fun u : Int32 × Int32 × Int32 × Int64 × Int64 × Int64 × Int64 × Int64 × Int32 × Int32 × Int32 × Int64 × Int64 × Int64 × Int64 × Int64 => [ceX5 h0 a_letters a_draft, ceX3 hp1 u.2.2.2.2.2.2.2.2.1 u.2.2.2.2.2.2.2.2.2.1 u.2.2.2.2.2.2.2.2.2.2.1 u.2.2.2.2.2.2.2.2.2.2.2.1 u.2.2.2.2.2.2.2.2.2.2.2.2.1 u.2.2.2.2.2.2.2.2.2.2.2.2.2.1 u.2.2.2.2.2.2.2.2.2.2.2.2.2.2.1 u.2.2.2.2.2.2.2.2.2.2.2.2.2.2.2, ceX6 a_letters a_letters_numbers s_letters_length, ceX3 a_draft u.1 u.2.1 u.2.2.1 u.2.2.2.1 u.2.2.2.2.1 u.2.2.2.2.2.1 u.2.2.2.2.2.2.1 u.2.2.2.2.2.2.2.1, caI G a_letters_numbers 96 g_letters_numbers])) A) ([.ref h0, .ref hp1] : List Value).toArray s 0 0 A) (F0 m 15 ls []) := by
    intro n
    induction n with
    | zero => intro v2 v3 v4 s_draft_size s_draft_heard s_draft_mode s_draft_cast s_draft_figures s_draft_voices s_draft_attacks s_draft_supports s_p1_size s_p1_heard s_p1_mode s_p1_cast s_p1_figures s_p1_voices s_p1_attacks s_p1_supports h; exact h.elim
    | succ n ih =>
      intro v2 v3 v4 s_draft_size s_draft_heard s_draft_mode s_draft_cast s_draft_figures s_draft_voices s_draft_attacks s_draft_supports s_p1_size s_p1_heard s_p1_mode s_p1_cast s_p1_figures s_p1_voices s_p1_attacks s_p1_supports h H locs ls hP hD hS hl
      unfold wp_X5_applied_15 at h
      refine lv_iload hx hb dX5_applied_15 (lv_at hl 4 rfl) ?_
      refine lv_aload_n hx hb dX5_applied_17 rfl (lv_at hl 0 rfl) ?_
      refine va_get (D := G.1) (ci := 3) (v := .ref a_letters) (C := RX5) (T := TX5) (N := 2) hx hb hts ki_X5 hown hK.1 hP 0 rfl rfl 0 (by decide) kf1 (fun _ h9 => h9) rfl dX5_applied_18 ?_
      refine va_get (D := G.1) (ci := 4) (v := .int s_letters_length) (C := RX6) (T := TX6) (N := 2) hx hb hts ki_X6 hown hK.1 hP 2 rfl rfl 1 (by decide) kf2 (fun _ h9 => h9) rfl dX5_applied_21 ?_
      refine lv_icmp_ge (tgt := 72) hx hb dX5_applied_24 (by decide) (fun c => ?_) (fun c => ?_)
      · replace h := h.1 c
        refine lv_aload_n hx hb dX5_applied_72 rfl (lv_at hl 1 rfl) ?_
        refine lv_aload_n hx hb dX5_applied_73 rfl (lv_at hl 0 rfl) ?_
        refine va_get (D := G.1) (ci := 3) (v := .ref a_draft) (C := RX5) (T := TX5) (N := 2) hx hb hts ki_X5 hown hK.1 hP 0 rfl rfl 1 (by decide) kf0 (fun _ h9 => h9) rfl dX5_applied_74 ?_
        refine hc_kv (wr := [ceX5 h0 a_letters a_draft, ceX6 a_letters a_letters_numbers s_letters_length, caI G a_letters_numbers 96 g_letters_numbers]) (va_runV (As := [.ref a_draft]) (rest := []) ⟨hx, hb, hml, hown, hts⟩ (c_X3_take l G hp1 a_draft H.size s_p1_size s_p1_heard s_p1_mode s_p1_cast s_p1_figures s_p1_voices s_p1_attacks s_p1_supports s_draft_size s_draft_heard s_draft_mode s_draft_cast s_draft_figures s_draft_voices s_draft_attacks s_draft_supports _ h) (cwV 1 hts gX5_applied_X3_take rfl rfl rfl (by decide +kernel) ⟨Nat.le_of_ble_eq_true rfl, Nat.le_of_ble_eq_true rfl⟩) (hc_pV hK hP hD [1, 3] rfl rfl (ci := 2) 1 rfl rfl) rfl rfl hl.1 rfl (lv_room (Nat.le_of_ble_eq_true rfl)) dX5_applied_77 ⟨Nat.le_refl _, Nat.le_refl _⟩) hP hD hS hA [1, 3] [0, 2, 4] rfl rfl rfl (by decide) (fun u H locs h hP hD hS => ?_)
        obtain ⟨s_p1_size_77, s_p1_heard_77, s_p1_mode_77, s_p1_cast_77, s_p1_figures_77, s_p1_voices_77, s_p1_attacks_77, s_p1_supports_77⟩ := u
        try dsimp only at h
        have hP : va_P G.1 vwCl [ceX5 h0 a_letters a_draft, ceX6 a_letters a_letters_numbers s_letters_length, caI G a_letters_numbers 96 g_letters_numbers, ceX3 hp1 s_p1_size_77 s_p1_heard_77 s_p1_mode_77 s_p1_cast_77 s_p1_figures_77 s_p1_voices_77 s_p1_attacks_77 s_p1_supports_77, ceX3 a_draft s_draft_size s_draft_heard s_draft_mode s_draft_cast s_draft_figures s_draft_voices s_draft_attacks s_draft_supports] H := hP
        have hD : va_D A [ceX5 h0 a_letters a_draft, ceX6 a_letters a_letters_numbers s_letters_length, caI G a_letters_numbers 96 g_letters_numbers, ceX3 hp1 s_p1_size_77 s_p1_heard_77 s_p1_mode_77 s_p1_cast_77 s_p1_figures_77 s_p1_voices_77 s_p1_attacks_77 s_p1_supports_77, ceX3 a_draft s_draft_size s_draft_heard s_draft_mode s_draft_cast s_draft_figures s_draft_voices s_draft_attacks s_draft_supports] := hD
        refine lv_iload_n hx hb dX5_applied_80 rfl (lv_at hl 2 rfl) ?_
        exact W.iret (v := v2) hx hb hr (fun t ht hW => ⟨⟨_, ⟨s_draft_size, s_draft_heard, s_draft_mode, s_draft_cast, s_draft_figures, s_draft_voices, s_draft_attacks, s_draft_supports, s_p1_size_77, s_p1_heard_77, s_p1_mode_77, s_p1_cast_77, s_p1_figures_77, s_p1_voices_77, s_p1_attacks_77, s_p1_supports_77⟩, rfl, h, ⟨by rw [ht]; exact (hP.sub [0, 3, 1, 4, 2] rfl), (hD.sub [0, 3, 1, 4, 2] (by decide) rfl)⟩⟩, hS.F ht⟩) hS.2.2 dX5_applied_81
      · replace h := h.2 c
        refine lv_aload_n hx hb dX5_applied_27 rfl (lv_at hl 0 rfl) ?_
        refine va_get (D := G.1) (ci := 3) (v := .ref a_letters) (C := RX5) (T := TX5) (N := 2) hx hb hts ki_X5 hown hK.1 hP 0 rfl rfl 0 (by decide) kf1 (fun _ h9 => h9) rfl dX5_applied_28 ?_
        refine lv_iload hx hb dX5_applied_31 (lv_at hl 4 rfl) ?_
        refine lv_iconst (v := (-1 : Int32)) hx hb dX5_applied_33 kc_m1 ?_
        refine hc_ki (wr := [ceX5 h0 a_letters a_draft, ceX3 hp1 s_p1_size s_p1_heard s_p1_mode s_p1_cast s_p1_figures s_p1_voices s_p1_attacks s_p1_supports, ceX3 a_draft s_draft_size s_draft_heard s_draft_mode s_draft_cast s_draft_figures s_draft_voices s_draft_attacks s_draft_supports]) (va_runV (As := [.int v4, .int ((-1 : Int32))]) (rest := []) ⟨hx, hb, hml, hown, hts⟩ (c_X6_at l G a_letters a_letters_numbers H.size 96 s_letters_length g_letters_numbers v4 ((-1 : Int32)) _ h) (cwV 2 hts gX5_applied_X6_at rfl rfl rfl (by decide +kernel) ⟨Nat.le_of_ble_eq_true rfl, Nat.le_of_ble_eq_true rfl⟩) (hc_pV hK hP hD [2, 4] rfl rfl (ci := 4) 2 rfl rfl) rfl rfl hl.1 rfl (lv_room (Nat.le_of_ble_eq_true rfl)) dX5_applied_34 ⟨Nat.le_refl _, Nat.le_refl _⟩) hP hD hS hA [2, 4] [0, 1, 3] rfl rfl rfl (by decide) (fun r34 u H locs h hP hD hS => ?_)
        try dsimp only at h
        have hP : va_P G.1 vwCl [ceX5 h0 a_letters a_draft, ceX3 hp1 s_p1_size s_p1_heard s_p1_mode s_p1_cast s_p1_figures s_p1_voices s_p1_attacks s_p1_supports, ceX3 a_draft s_draft_size s_draft_heard s_draft_mode s_draft_cast s_draft_figures s_draft_voices s_draft_attacks s_draft_supports, ceX6 a_letters a_letters_numbers s_letters_length, caI G a_letters_numbers 96 g_letters_numbers] H := hP
        have hD : va_D A [ceX5 h0 a_letters a_draft, ceX3 hp1 s_p1_size s_p1_heard s_p1_mode s_p1_cast s_p1_figures s_p1_voices s_p1_attacks s_p1_supports, ceX3 a_draft s_draft_size s_draft_heard s_draft_mode s_draft_cast s_draft_figures s_draft_voices s_draft_attacks s_draft_supports, ceX6 a_letters a_letters_numbers s_letters_length, caI G a_letters_numbers 96 g_letters_numbers] := hD
        refine lv_bipush (v := nI 59) hx hb dX5_applied_37 kb_59 ?_
        refine lv_icmp_ne (tgt := 66) hx hb dX5_applied_39 (by decide) (fun c => ?_) (fun c => ?_)
        · replace h := h.1 c
          refine lv_iinc (v := v4 + nI 1) (lv' := [(4, .int (v4 + nI 1)), (0, .ref h0), (1, .ref hp1), (2, .int v2), (3, .int v3)]) hx hb dX5_applied_66 hl (k := 4) rfl (congrArg (fun q => v4 + q) kc_1) (by decide) rfl (fun ls hl => ?_)
          refine lv_goto (tgt := 15) hx hb dX5_applied_69 (by decide) ?_
          exact ih v2 v3 (v4 + nI 1) s_draft_size s_draft_heard s_draft_mode s_draft_cast s_draft_figures s_draft_voices s_draft_attacks s_draft_supports s_p1_size s_p1_heard s_p1_mode s_p1_cast s_p1_figures s_p1_voices s_p1_attacks s_p1_supports h _ _ _ (hP.sub [0, 1, 3, 2, 4] rfl) (hD.sub [0, 1, 3, 2, 4] (by decide) rfl) hS (lv_sub hl [1, 2, 3, 4, 0] rfl)
        · replace h := h.2 c
          refine lv_aload_n hx hb dX5_applied_42 rfl (lv_at hl 0 rfl) ?_
          refine lv_iload_n hx hb dX5_applied_43 rfl (lv_at hl 3 rfl) ?_
          refine lv_iload hx hb dX5_applied_44 (lv_at hl 4 rfl) ?_
          refine hc_ki (wr := [ceX3 hp1 s_p1_size s_p1_heard s_p1_mode s_p1_cast s_p1_figures s_p1_voices s_p1_attacks s_p1_supports]) (va_runV (As := [.int v3, .int v4]) (rest := []) ⟨hx, hb, hml, hown, hts⟩ (c_X5_apply l G h0 a_letters a_draft a_letters_numbers H.size s_letters_length s_draft_size s_draft_heard s_draft_mode s_draft_cast s_draft_figures s_draft_voices s_draft_attacks s_draft_supports g_letters_numbers v3 v4 _ h) (cwV 2 hts gX5_applied_X5_apply rfl rfl rfl (by decide +kernel) ⟨Nat.le_of_ble_eq_true rfl, Nat.le_of_ble_eq_true rfl⟩) (hc_pV hK hP hD [0, 3, 2, 4] rfl rfl (ci := 3) 0 rfl rfl) rfl rfl hl.1 rfl (lv_room (Nat.le_of_ble_eq_true rfl)) dX5_applied_46 ⟨Nat.le_refl _, Nat.le_refl _⟩) hP hD hS hA [0, 3, 2, 4] [1] rfl rfl rfl (by decide) (fun r46 u H locs h hP hD hS => ?_)
          obtain ⟨s_draft_size_46, s_draft_heard_46, s_draft_mode_46, s_draft_cast_46, s_draft_figures_46, s_draft_voices_46, s_draft_attacks_46, s_draft_supports_46⟩ := u
          try dsimp only at h
          have hP : va_P G.1 vwCl [ceX3 hp1 s_p1_size s_p1_heard s_p1_mode s_p1_cast s_p1_figures s_p1_voices s_p1_attacks s_p1_supports, ceX5 h0 a_letters a_draft, ceX6 a_letters a_letters_numbers s_letters_length, ceX3 a_draft s_draft_size_46 s_draft_heard_46 s_draft_mode_46 s_draft_cast_46 s_draft_figures_46 s_draft_voices_46 s_draft_attacks_46 s_draft_supports_46, caI G a_letters_numbers 96 g_letters_numbers] H := hP
          have hD : va_D A [ceX3 hp1 s_p1_size s_p1_heard s_p1_mode s_p1_cast s_p1_figures s_p1_voices s_p1_attacks s_p1_supports, ceX5 h0 a_letters a_draft, ceX6 a_letters a_letters_numbers s_letters_length, ceX3 a_draft s_draft_size_46 s_draft_heard_46 s_draft_mode_46 s_draft_cast_46 s_draft_figures_46 s_draft_voices_46 s_draft_attacks_46 s_draft_supports_46, caI G a_letters_numbers 96 g_letters_numbers] := hD
          refine lv_if_ne (tgt := 58) hx hb dX5_applied_49 (by decide) (fun c => ?_) (fun c => ?_)
          · replace h := h.1 c
            refine lv_iinc (v := v2 + nI 1) (lv' := [(2, .int (v2 + nI 1)), (0, .ref h0), (1, .ref hp1), (3, .int v3), (4, .int v4)]) hx hb dX5_applied_58 hl (k := 2) rfl (congrArg (fun q => v2 + q) kc_1) (by decide) rfl (fun ls hl => ?_)
            refine lv_iload hx hb dX5_applied_61 (lv_at hl 4 rfl) ?_
            refine lv_iconst (v := nI 1) hx hb dX5_applied_63 kc_1 ?_
            refine lv_iadd hx hb dX5_applied_64 ?_
            refine lv_istore_n (lv' := [(3, .int (v4 + (nI 1))), (2, .int (v2 + nI 1)), (0, .ref h0), (1, .ref hp1), (4, .int v4)]) hx hb dX5_applied_65 rfl hl (by decide) rfl (fun ls hl => ?_)
            refine lv_iinc (v := v4 + nI 1) (lv' := [(4, .int (v4 + nI 1)), (3, .int (v4 + (nI 1))), (2, .int (v2 + nI 1)), (0, .ref h0), (1, .ref hp1)]) hx hb dX5_applied_66 hl (k := 4) rfl (congrArg (fun q => v4 + q) kc_1) (by decide) rfl (fun ls hl => ?_)
            refine lv_goto (tgt := 15) hx hb dX5_applied_69 (by decide) ?_
            exact ih (v2 + nI 1) (v4 + (nI 1)) (v4 + nI 1) s_draft_size_46 s_draft_heard_46 s_draft_mode_46 s_draft_cast_46 s_draft_figures_46 s_draft_voices_46 s_draft_attacks_46 s_draft_supports_46 s_p1_size s_p1_heard s_p1_mode s_p1_cast s_p1_figures s_p1_voices s_p1_attacks s_p1_supports h _ _ _ (hP.sub [1, 0, 2, 3, 4] rfl) (hD.sub [1, 0, 2, 3, 4] (by decide) rfl) hS (lv_sub hl [3, 4, 2, 1, 0] rfl)
          · replace h := h.2 c
            refine lv_sipush (v := (-2000 : Int32)) hx hb dX5_applied_52 ks_m2000 ?_
            refine lv_iload_n hx hb dX5_applied_55 rfl (lv_at hl 3 rfl) ?_
            refine lv_isub hx hb dX5_applied_56 ?_
            exact W.iret (v := ((-2000 : Int32)) - v3) hx hb hr (fun t ht hW => ⟨⟨_, ⟨s_draft_size_46, s_draft_heard_46, s_draft_mode_46, s_draft_cast_46, s_draft_figures_46, s_draft_voices_46, s_draft_attacks_46, s_draft_supports_46, s_p1_size, s_p1_heard, s_p1_mode, s_p1_cast, s_p1_figures, s_p1_voices, s_p1_attacks, s_p1_supports⟩, rfl, h, ⟨by rw [ht]; exact (hP.sub [1, 0, 2, 3, 4] rfl), (hD.sub [1, 0, 2, 3, 4] (by decide) rfl)⟩⟩, hS.F ht⟩) hS.2.2 dX5_applied_57
  unfold wp_X5_applied at h
  refine lv_aload_n hx hb dX5_applied_0 rfl (lv_at hl 0 rfl) ?_
  refine va_get (D := G.1) (ci := 3) (v := .ref a_draft) (C := RX5) (T := TX5) (N := 2) hx hb hts ki_X5 hown hK.1 hP 0 rfl rfl 1 (by decide) kf0 (fun _ h9 => h9) rfl dX5_applied_1 ?_
  refine lv_aload_n hx hb dX5_applied_4 rfl (lv_at hl 1 rfl) ?_
  refine hc_kv (wr := [ceX5 h0 a_letters a_draft, ceX6 a_letters a_letters_numbers s_letters_length, caI G a_letters_numbers 96 g_letters_numbers]) (va_runV (As := [.ref hp1]) (rest := []) ⟨hx, hb, hml, hown, hts⟩ (c_X3_take l G a_draft hp1 s.heap.size s_draft_size s_draft_heard s_draft_mode s_draft_cast s_draft_figures s_draft_voices s_draft_attacks s_draft_supports s_p1_size s_p1_heard s_p1_mode s_p1_cast s_p1_figures s_p1_voices s_p1_attacks s_p1_supports _ h) (cwV 1 hts gX5_applied_X3_take rfl rfl rfl (by decide +kernel) ⟨Nat.le_of_ble_eq_true rfl, Nat.le_of_ble_eq_true rfl⟩) (hc_pV hK hP hD [3, 1] rfl rfl (ci := 2) 3 rfl rfl) rfl rfl hl.1 rfl (lv_room (Nat.le_of_ble_eq_true rfl)) dX5_applied_5 ⟨Nat.le_refl _, Nat.le_refl _⟩) hP hD hS hA [3, 1] [0, 2, 4] rfl rfl rfl (by decide) (fun u H locs h hP hD hS => ?_)
  obtain ⟨s_draft_size_5, s_draft_heard_5, s_draft_mode_5, s_draft_cast_5, s_draft_figures_5, s_draft_voices_5, s_draft_attacks_5, s_draft_supports_5⟩ := u
  try dsimp only at h
  have hP : va_P G.1 vwCl [ceX5 h0 a_letters a_draft, ceX6 a_letters a_letters_numbers s_letters_length, caI G a_letters_numbers 96 g_letters_numbers, ceX3 a_draft s_draft_size_5 s_draft_heard_5 s_draft_mode_5 s_draft_cast_5 s_draft_figures_5 s_draft_voices_5 s_draft_attacks_5 s_draft_supports_5, ceX3 hp1 s_p1_size s_p1_heard s_p1_mode s_p1_cast s_p1_figures s_p1_voices s_p1_attacks s_p1_supports] H := hP
  have hD : va_D A [ceX5 h0 a_letters a_draft, ceX6 a_letters a_letters_numbers s_letters_length, caI G a_letters_numbers 96 g_letters_numbers, ceX3 a_draft s_draft_size_5 s_draft_heard_5 s_draft_mode_5 s_draft_cast_5 s_draft_figures_5 s_draft_voices_5 s_draft_attacks_5 s_draft_supports_5, ceX3 hp1 s_p1_size s_p1_heard s_p1_mode s_p1_cast s_p1_figures s_p1_voices s_p1_attacks s_p1_supports] := hD
  refine lv_iconst (v := nI 0) hx hb dX5_applied_8 kc_0 ?_
  refine lv_istore_n (lv' := [(2, .int (nI 0)), (0, .ref h0), (1, .ref hp1)]) hx hb dX5_applied_9 rfl hl (by decide) rfl (fun ls hl => ?_)
  refine lv_iconst (v := nI 0) hx hb dX5_applied_10 kc_0 ?_
  refine lv_istore_n (lv' := [(3, .int (nI 0)), (2, .int (nI 0)), (0, .ref h0), (1, .ref hp1)]) hx hb dX5_applied_11 rfl hl (by decide) rfl (fun ls hl => ?_)
  refine lv_iconst (v := nI 0) hx hb dX5_applied_12 kc_0 ?_
  refine lv_istore (lv' := [(4, .int (nI 0)), (3, .int (nI 0)), (2, .int (nI 0)), (0, .ref h0), (1, .ref hp1)]) hx hb dX5_applied_13 hl (by decide) rfl (fun ls hl => ?_)
  obtain ⟨n15, h⟩ := h
  exact w15  n15 (nI 0) (nI 0) (nI 0) s_draft_size_5 s_draft_heard_5 s_draft_mode_5 s_draft_cast_5 s_draft_figures_5 s_draft_voices_5 s_draft_attacks_5 s_draft_supports_5 s_p1_size s_p1_heard s_p1_mode s_p1_cast s_p1_figures s_p1_voices s_p1_attacks s_p1_supports h _ _ _ (hP.sub [0, 4, 1, 3, 2] rfl) (hD.sub [0, 4, 1, 3, 2] (by decide) rfl) hS (lv_sub hl [3, 4, 2, 1, 0] rfl)
set_option maxHeartbeats 4000000 in
set_option maxRecDepth 100000 in
theorem c_X5_isArrow (l : Launch) (G : hcG) (sz : Nat) (x0 : Int32) (post : Int32 → Prop) (h : wp_X5_isArrow post x0) : Met l yX5_isArrow wsX5_isArrow ({ frames := 0, cells := 0, slots := 0, locals := 0 }) (hcPc G [.int x0] [] sz) (va_Qi (fun (r : Int32) (u : Unit) => post r) (hcB G (va_A [] sz) (fun u : Unit => [])) (va_A [] sz)) 0 0 (va_A [] sz) := by
  refine Met.ofW (cc := cX5_isArrow) (maxL := 1) (ret := (some .boolean)) (by decide) rfl ?_
  intro p e s m args below meth c s₁ B hml hv
  obtain ⟨rfl, hsz, hP, hK, hD0⟩ := hv
  have hx := B.exec
  have hb := B.bytes
  have hr := B.returns
  have hts := atoms_spec (ws := wsX5_isArrow) B.pre
  have hown : s.vm.findClass RX5 = some m.cls := findClass_of_methodNamed B.named
  have hlocks := B.notSynchronized
  subst hsz
  have hD := hD0.self (sz := s.heap.size)
  generalize hAe : va_A [] s.heap.size = A at hD ⊢
  have hA : ∀ q : Nat, s.heap.size ≤ q → A q := fun q h => by rw [← hAe]; exact Or.inr h
  have hS : va_S A s.heap s.heap [] := va_S.rf
  have hP : va_P G.1 vwCl [] s.heap := hP
  have hl := lv_entry ([.int x0]) (n := 1) (Nat.le_of_ble_eq_true rfl)
  rw [lg_entry_eq]
  generalize (lg_sl ([.int x0]) ++ List.replicate (1 - (lg_sl ([.int x0])).length) Slot.unset).toArray = ls at hl ⊢
  have hl : lv_has ls 1 [(0, .int x0)] := hl
  unfold wp_X5_isArrow at h
  refine lv_iload_n hx hb dX5_isArrow_0 rfl (lv_at hl 0 rfl) ?_
  refine lv_bipush (v := nI 62) hx hb dX5_isArrow_1 kb_62 ?_
  refine lv_icmp_eq (tgt := 12) hx hb dX5_isArrow_3 (by decide) (fun c => ?_) (fun c => ?_)
  · replace h := h.1 c
    refine lv_iconst (v := nI 1) hx hb dX5_isArrow_12 kc_1 ?_
    refine lv_goto (tgt := 17) hx hb dX5_isArrow_13 (by decide) ?_
    exact W.zret (v := nI 1) hx hb hr rfl (fun t ht hW => ⟨⟨_, (), rfl, h, ⟨by rw [ht]; exact hP, hD⟩⟩, hS.F ht⟩) hS.2.2 dX5_isArrow_17
  · replace h := h.2 c
    refine lv_iload_n hx hb dX5_isArrow_6 rfl (lv_at hl 0 rfl) ?_
    refine lv_bipush (v := nI 43) hx hb dX5_isArrow_7 kb_43 ?_
    refine lv_icmp_ne (tgt := 16) hx hb dX5_isArrow_9 (by decide) (fun c => ?_) (fun c => ?_)
    · replace h := h.1 c
      refine lv_iconst (v := nI 0) hx hb dX5_isArrow_16 kc_0 ?_
      exact W.zret (v := nI 0) hx hb hr rfl (fun t ht hW => ⟨⟨_, (), rfl, h, ⟨by rw [ht]; exact hP, hD⟩⟩, hS.F ht⟩) hS.2.2 dX5_isArrow_17
    · replace h := h.2 c
      refine lv_iconst (v := nI 1) hx hb dX5_isArrow_12 kc_1 ?_
      refine lv_goto (tgt := 17) hx hb dX5_isArrow_13 (by decide) ?_
      exact W.zret (v := nI 1) hx hb hr rfl (fun t ht hW => ⟨⟨_, (), rfl, h, ⟨by rw [ht]; exact hP, hD⟩⟩, hS.F ht⟩) hS.2.2 dX5_isArrow_17
set_option maxHeartbeats 4000000 in
set_option maxRecDepth 100000 in
theorem c_X5_behindClaim (l : Launch) (G : hcG) (sz : Nat) (x0 : Int32) (post : Int32 → Prop) (h : wp_X5_behindClaim post x0) : Met l yX5_behindClaim wsX5_behindClaim ({ frames := 1, cells := 0, slots := 0, locals := 20 }) (hcPc G [.int x0] [] sz) (va_Qi (fun (r : Int32) (u : Unit) => post r) (hcB G (va_A [] sz) (fun u : Unit => [])) (va_A [] sz)) 0 0 (va_A [] sz) := by
  refine Met.ofW (cc := cX5_behindClaim) (maxL := 1) (ret := (some .int)) (by decide) rfl ?_
  intro p e s m args below meth c s₁ B hml hv
  obtain ⟨rfl, hsz, hP, hK, hD0⟩ := hv
  have hx := B.exec
  have hb := B.bytes
  have hr := B.returns
  have hts := atoms_spec (ws := wsX5_behindClaim) B.pre
  have hown : s.vm.findClass RX5 = some m.cls := findClass_of_methodNamed B.named
  have hlocks := B.notSynchronized
  subst hsz
  have hD := hD0.self (sz := s.heap.size)
  generalize hAe : va_A [] s.heap.size = A at hD ⊢
  have hA : ∀ q : Nat, s.heap.size ≤ q → A q := fun q h => by rw [← hAe]; exact Or.inr h
  have hS : va_S A s.heap s.heap [] := va_S.rf
  have hP : va_P G.1 vwCl [] s.heap := hP
  have hl := lv_entry ([.int x0]) (n := 1) (Nat.le_of_ble_eq_true rfl)
  rw [lg_entry_eq]
  generalize (lg_sl ([.int x0]) ++ List.replicate (1 - (lg_sl ([.int x0])).length) Slot.unset).toArray = ls at hl ⊢
  have hl : lv_has ls 1 [(0, .int x0)] := hl
  unfold wp_X5_behindClaim at h
  refine lv_iload_n hx hb dX5_behindClaim_0 rfl (lv_at hl 0 rfl) ?_
  refine lv_bipush (v := nI 58) hx hb dX5_behindClaim_1 kb_58 ?_
  refine lv_icmp_ne (tgt := 8) hx hb dX5_behindClaim_3 (by decide) (fun c => ?_) (fun c => ?_)
  · replace h := h.1 c
    refine lv_iload_n hx hb dX5_behindClaim_8 rfl (lv_at hl 0 rfl) ?_
    refine lv_bipush (v := nI 33) hx hb dX5_behindClaim_9 kb_33 ?_
    refine lv_icmp_ne (tgt := 16) hx hb dX5_behindClaim_11 (by decide) (fun c => ?_) (fun c => ?_)
    · replace h := h.1 c
      refine lv_iload_n hx hb dX5_behindClaim_16 rfl (lv_at hl 0 rfl) ?_
      refine hc_ki (wr := []) (va_runS (As := [.int x0]) (rest := []) ⟨hx, hb, hml, hown, hts⟩ (c_X5_isArrow l G s.heap.size x0 _ h) (va_cwS 1 hts gX5_behindClaim_X5_isArrow rfl rfl rfl (by decide +kernel) ⟨Nat.le_of_ble_eq_true rfl, Nat.le_of_ble_eq_true rfl⟩) (hc_pS hK hP hD [] rfl rfl) rfl rfl hl.1 rfl (lv_room (Nat.le_of_ble_eq_true rfl)) dX5_behindClaim_17 ⟨Nat.le_refl _, Nat.le_refl _⟩) hP hD hS hA [] [] rfl rfl rfl (by decide) (fun r17 u H locs h hP hD hS => ?_)
      try dsimp only at h
      have hP : va_P G.1 vwCl [] H := hP
      have hD : va_D A [] := hD
      refine lv_if_eq (tgt := 28) hx hb dX5_behindClaim_20 (by decide) (fun c => ?_) (fun c => ?_)
      · replace h := h.1 c
        refine lv_bipush (v := nI 8) hx hb dX5_behindClaim_28 kb_8 ?_
        exact W.iret (v := nI 8) hx hb hr (fun t ht hW => ⟨⟨_, (), rfl, h, ⟨by rw [ht]; exact hP, hD⟩⟩, hS.F ht⟩) hS.2.2 dX5_behindClaim_30
      · replace h := h.2 c
        refine lv_bipush (v := nI 6) hx hb dX5_behindClaim_23 kb_6 ?_
        refine lv_goto (tgt := 30) hx hb dX5_behindClaim_25 (by decide) ?_
        exact W.iret (v := nI 6) hx hb hr (fun t ht hW => ⟨⟨_, (), rfl, h, ⟨by rw [ht]; exact hP, hD⟩⟩, hS.F ht⟩) hS.2.2 dX5_behindClaim_30
    · replace h := h.2 c
      refine lv_iconst (v := nI 4) hx hb dX5_behindClaim_14 kc_4 ?_
      exact W.iret (v := nI 4) hx hb hr (fun t ht hW => ⟨⟨_, (), rfl, h, ⟨by rw [ht]; exact hP, hD⟩⟩, hS.F ht⟩) hS.2.2 dX5_behindClaim_15
  · replace h := h.2 c
    refine lv_iconst (v := nI 2) hx hb dX5_behindClaim_6 kc_2 ?_
    exact W.iret (v := nI 2) hx hb hr (fun t ht hW => ⟨⟨_, (), rfl, h, ⟨by rw [ht]; exact hP, hD⟩⟩, hS.F ht⟩) hS.2.2 dX5_behindClaim_7
set_option maxHeartbeats 4000000 in
set_option maxRecDepth 100000 in
theorem c_X5_isClaim (l : Launch) (G : hcG) (sz : Nat) (x0 : Int32) (post : Int32 → Prop) (h : wp_X5_isClaim post x0) : Met l yX5_isClaim wsX5_isClaim ({ frames := 0, cells := 0, slots := 0, locals := 0 }) (hcPc G [.int x0] [] sz) (va_Qi (fun (r : Int32) (u : Unit) => post r) (hcB G (va_A [] sz) (fun u : Unit => [])) (va_A [] sz)) 0 0 (va_A [] sz) := by
  refine Met.ofW (cc := cX5_isClaim) (maxL := 1) (ret := (some .boolean)) (by decide) rfl ?_
  intro p e s m args below meth c s₁ B hml hv
  obtain ⟨rfl, hsz, hP, hK, hD0⟩ := hv
  have hx := B.exec
  have hb := B.bytes
  have hr := B.returns
  have hts := atoms_spec (ws := wsX5_isClaim) B.pre
  have hown : s.vm.findClass RX5 = some m.cls := findClass_of_methodNamed B.named
  have hlocks := B.notSynchronized
  subst hsz
  have hD := hD0.self (sz := s.heap.size)
  generalize hAe : va_A [] s.heap.size = A at hD ⊢
  have hA : ∀ q : Nat, s.heap.size ≤ q → A q := fun q h => by rw [← hAe]; exact Or.inr h
  have hS : va_S A s.heap s.heap [] := va_S.rf
  have hP : va_P G.1 vwCl [] s.heap := hP
  have hl := lv_entry ([.int x0]) (n := 1) (Nat.le_of_ble_eq_true rfl)
  rw [lg_entry_eq]
  generalize (lg_sl ([.int x0]) ++ List.replicate (1 - (lg_sl ([.int x0])).length) Slot.unset).toArray = ls at hl ⊢
  have hl : lv_has ls 1 [(0, .int x0)] := hl
  unfold wp_X5_isClaim at h
  refine lv_iload_n hx hb dX5_isClaim_0 rfl (lv_at hl 0 rfl) ?_
  refine lv_bipush (v := nI 97) hx hb dX5_isClaim_1 kb_97 ?_
  refine lv_icmp_lt (tgt := 22) hx hb dX5_isClaim_3 (by decide) (fun c => ?_) (fun c => ?_)
  · replace h := h.1 c
    refine lv_iconst (v := nI 0) hx hb dX5_isClaim_22 kc_0 ?_
    exact W.zret (v := nI 0) hx hb hr rfl (fun t ht hW => ⟨⟨_, (), rfl, h, ⟨by rw [ht]; exact hP, hD⟩⟩, hS.F ht⟩) hS.2.2 dX5_isClaim_23
  · replace h := h.2 c
    refine lv_iload_n hx hb dX5_isClaim_6 rfl (lv_at hl 0 rfl) ?_
    refine lv_bipush (v := nI 122) hx hb dX5_isClaim_7 kb_122 ?_
    refine lv_icmp_gt (tgt := 22) hx hb dX5_isClaim_9 (by decide) (fun c => ?_) (fun c => ?_)
    · replace h := h.1 c
      refine lv_iconst (v := nI 0) hx hb dX5_isClaim_22 kc_0 ?_
      exact W.zret (v := nI 0) hx hb hr rfl (fun t ht hW => ⟨⟨_, (), rfl, h, ⟨by rw [ht]; exact hP, hD⟩⟩, hS.F ht⟩) hS.2.2 dX5_isClaim_23
    · replace h := h.2 c
      refine lv_iload_n hx hb dX5_isClaim_12 rfl (lv_at hl 0 rfl) ?_
      refine lv_bipush (v := nI 109) hx hb dX5_isClaim_13 kb_109 ?_
      refine lv_icmp_eq (tgt := 22) hx hb dX5_isClaim_15 (by decide) (fun c => ?_) (fun c => ?_)
      · replace h := h.1 c
        refine lv_iconst (v := nI 0) hx hb dX5_isClaim_22 kc_0 ?_
        exact W.zret (v := nI 0) hx hb hr rfl (fun t ht hW => ⟨⟨_, (), rfl, h, ⟨by rw [ht]; exact hP, hD⟩⟩, hS.F ht⟩) hS.2.2 dX5_isClaim_23
      · replace h := h.2 c
        refine lv_iconst (v := nI 1) hx hb dX5_isClaim_18 kc_1 ?_
        refine lv_goto (tgt := 23) hx hb dX5_isClaim_19 (by decide) ?_
        exact W.zret (v := nI 1) hx hb hr rfl (fun t ht hW => ⟨⟨_, (), rfl, h, ⟨by rw [ht]; exact hP, hD⟩⟩, hS.F ht⟩) hS.2.2 dX5_isClaim_23
set_option maxHeartbeats 4000000 in
set_option maxRecDepth 100000 in
theorem c_X5_isDigit (l : Launch) (G : hcG) (sz : Nat) (x0 : Int32) (post : Int32 → Prop) (h : wp_X5_isDigit post x0) : Met l yX5_isDigit wsX5_isDigit ({ frames := 0, cells := 0, slots := 0, locals := 0 }) (hcPc G [.int x0] [] sz) (va_Qi (fun (r : Int32) (u : Unit) => post r) (hcB G (va_A [] sz) (fun u : Unit => [])) (va_A [] sz)) 0 0 (va_A [] sz) := by
  refine Met.ofW (cc := cX5_isDigit) (maxL := 1) (ret := (some .boolean)) (by decide) rfl ?_
  intro p e s m args below meth c s₁ B hml hv
  obtain ⟨rfl, hsz, hP, hK, hD0⟩ := hv
  have hx := B.exec
  have hb := B.bytes
  have hr := B.returns
  have hts := atoms_spec (ws := wsX5_isDigit) B.pre
  have hown : s.vm.findClass RX5 = some m.cls := findClass_of_methodNamed B.named
  have hlocks := B.notSynchronized
  subst hsz
  have hD := hD0.self (sz := s.heap.size)
  generalize hAe : va_A [] s.heap.size = A at hD ⊢
  have hA : ∀ q : Nat, s.heap.size ≤ q → A q := fun q h => by rw [← hAe]; exact Or.inr h
  have hS : va_S A s.heap s.heap [] := va_S.rf
  have hP : va_P G.1 vwCl [] s.heap := hP
  have hl := lv_entry ([.int x0]) (n := 1) (Nat.le_of_ble_eq_true rfl)
  rw [lg_entry_eq]
  generalize (lg_sl ([.int x0]) ++ List.replicate (1 - (lg_sl ([.int x0])).length) Slot.unset).toArray = ls at hl ⊢
  have hl : lv_has ls 1 [(0, .int x0)] := hl
  unfold wp_X5_isDigit at h
  refine lv_iload_n hx hb dX5_isDigit_0 rfl (lv_at hl 0 rfl) ?_
  refine lv_bipush (v := nI 48) hx hb dX5_isDigit_1 kb_48 ?_
  refine lv_icmp_lt (tgt := 16) hx hb dX5_isDigit_3 (by decide) (fun c => ?_) (fun c => ?_)
  · replace h := h.1 c
    refine lv_iconst (v := nI 0) hx hb dX5_isDigit_16 kc_0 ?_
    exact W.zret (v := nI 0) hx hb hr rfl (fun t ht hW => ⟨⟨_, (), rfl, h, ⟨by rw [ht]; exact hP, hD⟩⟩, hS.F ht⟩) hS.2.2 dX5_isDigit_17
  · replace h := h.2 c
    refine lv_iload_n hx hb dX5_isDigit_6 rfl (lv_at hl 0 rfl) ?_
    refine lv_bipush (v := nI 57) hx hb dX5_isDigit_7 kb_57 ?_
    refine lv_icmp_gt (tgt := 16) hx hb dX5_isDigit_9 (by decide) (fun c => ?_) (fun c => ?_)
    · replace h := h.1 c
      refine lv_iconst (v := nI 0) hx hb dX5_isDigit_16 kc_0 ?_
      exact W.zret (v := nI 0) hx hb hr rfl (fun t ht hW => ⟨⟨_, (), rfl, h, ⟨by rw [ht]; exact hP, hD⟩⟩, hS.F ht⟩) hS.2.2 dX5_isDigit_17
    · replace h := h.2 c
      refine lv_iconst (v := nI 1) hx hb dX5_isDigit_12 kc_1 ?_
      refine lv_goto (tgt := 17) hx hb dX5_isDigit_13 (by decide) ?_
      exact W.zret (v := nI 1) hx hb hr rfl (fun t ht hW => ⟨⟨_, (), rfl, h, ⟨by rw [ht]; exact hP, hD⟩⟩, hS.F ht⟩) hS.2.2 dX5_isDigit_17
set_option maxHeartbeats 4000000 in
set_option maxRecDepth 100000 in
theorem c_X5_startBy (l : Launch) (G : hcG) (sz : Nat) (x0 : Int32) (post : Int32 → Prop) (h : wp_X5_startBy post x0) : Met l yX5_startBy wsX5_startBy ({ frames := 1, cells := 0, slots := 0, locals := 20 }) (hcPc G [.int x0] [] sz) (va_Qi (fun (r : Int32) (u : Unit) => post r) (hcB G (va_A [] sz) (fun u : Unit => [])) (va_A [] sz)) 0 0 (va_A [] sz) := by
  refine Met.ofW (cc := cX5_startBy) (maxL := 1) (ret := (some .int)) (by decide) rfl ?_
  intro p e s m args below meth c s₁ B hml hv
  obtain ⟨rfl, hsz, hP, hK, hD0⟩ := hv
  have hx := B.exec
  have hb := B.bytes
  have hr := B.returns
  have hts := atoms_spec (ws := wsX5_startBy) B.pre
  have hown : s.vm.findClass RX5 = some m.cls := findClass_of_methodNamed B.named
  have hlocks := B.notSynchronized
  subst hsz
  have hD := hD0.self (sz := s.heap.size)
  generalize hAe : va_A [] s.heap.size = A at hD ⊢
  have hA : ∀ q : Nat, s.heap.size ≤ q → A q := fun q h => by rw [← hAe]; exact Or.inr h
  have hS : va_S A s.heap s.heap [] := va_S.rf
  have hP : va_P G.1 vwCl [] s.heap := hP
  have hl := lv_entry ([.int x0]) (n := 1) (Nat.le_of_ble_eq_true rfl)
  rw [lg_entry_eq]
  generalize (lg_sl ([.int x0]) ++ List.replicate (1 - (lg_sl ([.int x0])).length) Slot.unset).toArray = ls at hl ⊢
  have hl : lv_has ls 1 [(0, .int x0)] := hl
  unfold wp_X5_startBy at h
  refine lv_iload_n hx hb dX5_startBy_0 rfl (lv_at hl 0 rfl) ?_
  refine lv_bipush (v := nI 42) hx hb dX5_startBy_1 kb_42 ?_
  refine lv_icmp_ne (tgt := 8) hx hb dX5_startBy_3 (by decide) (fun c => ?_) (fun c => ?_)
  · replace h := h.1 c
    refine lv_iload_n hx hb dX5_startBy_8 rfl (lv_at hl 0 rfl) ?_
    refine lv_bipush (v := nI 109) hx hb dX5_startBy_9 kb_109 ?_
    refine lv_icmp_ne (tgt := 16) hx hb dX5_startBy_11 (by decide) (fun c => ?_) (fun c => ?_)
    · replace h := h.1 c
      refine lv_iload_n hx hb dX5_startBy_16 rfl (lv_at hl 0 rfl) ?_
      refine hc_ki (wr := []) (va_runS (As := [.int x0]) (rest := []) ⟨hx, hb, hml, hown, hts⟩ (c_X5_isClaim l G s.heap.size x0 _ h) (va_cwS 1 hts gX5_startBy_X5_isClaim rfl rfl rfl (by decide +kernel) ⟨Nat.le_of_ble_eq_true rfl, Nat.le_of_ble_eq_true rfl⟩) (hc_pS hK hP hD [] rfl rfl) rfl rfl hl.1 rfl (lv_room (Nat.le_of_ble_eq_true rfl)) dX5_startBy_17 ⟨Nat.le_refl _, Nat.le_refl _⟩) hP hD hS hA [] [] rfl rfl rfl (by decide) (fun r17 u H locs h hP hD hS => ?_)
      try dsimp only at h
      have hP : va_P G.1 vwCl [] H := hP
      have hD : va_D A [] := hD
      refine lv_if_eq (tgt := 27) hx hb dX5_startBy_20 (by decide) (fun c => ?_) (fun c => ?_)
      · replace h := h.1 c
        refine lv_bipush (v := nI 8) hx hb dX5_startBy_27 kb_8 ?_
        exact W.iret (v := nI 8) hx hb hr (fun t ht hW => ⟨⟨_, (), rfl, h, ⟨by rw [ht]; exact hP, hD⟩⟩, hS.F ht⟩) hS.2.2 dX5_startBy_29
      · replace h := h.2 c
        refine lv_iconst (v := nI 5) hx hb dX5_startBy_23 kc_5 ?_
        refine lv_goto (tgt := 29) hx hb dX5_startBy_24 (by decide) ?_
        exact W.iret (v := nI 5) hx hb hr (fun t ht hW => ⟨⟨_, (), rfl, h, ⟨by rw [ht]; exact hP, hD⟩⟩, hS.F ht⟩) hS.2.2 dX5_startBy_29
    · replace h := h.2 c
      refine lv_iconst (v := nI 3) hx hb dX5_startBy_14 kc_3 ?_
      exact W.iret (v := nI 3) hx hb hr (fun t ht hW => ⟨⟨_, (), rfl, h, ⟨by rw [ht]; exact hP, hD⟩⟩, hS.F ht⟩) hS.2.2 dX5_startBy_15
  · replace h := h.2 c
    refine lv_iconst (v := nI 1) hx hb dX5_startBy_6 kc_1 ?_
    exact W.iret (v := nI 1) hx hb hr (fun t ht hW => ⟨⟨_, (), rfl, h, ⟨by rw [ht]; exact hP, hD⟩⟩, hS.F ht⟩) hS.2.2 dX5_startBy_7
set_option maxHeartbeats 4000000 in
set_option maxRecDepth 100000 in
theorem c_X5_stepBy (l : Launch) (G : hcG) (sz : Nat) (x0 : Int32) (x1 : Int32) (post : Int32 → Prop) (h : wp_X5_stepBy post x0 x1) : Met l yX5_stepBy wsX5_stepBy ({ frames := 2, cells := 0, slots := 0, locals := 40 }) (hcPc G [.int x0, .int x1] [] sz) (va_Qi (fun (r : Int32) (u : Unit) => post r) (hcB G (va_A [] sz) (fun u : Unit => [])) (va_A [] sz)) 0 0 (va_A [] sz) := by
  refine Met.ofW (cc := cX5_stepBy) (maxL := 2) (ret := (some .int)) (by decide) rfl ?_
  intro p e s m args below meth c s₁ B hml hv
  obtain ⟨rfl, hsz, hP, hK, hD0⟩ := hv
  have hx := B.exec
  have hb := B.bytes
  have hr := B.returns
  have hts := atoms_spec (ws := wsX5_stepBy) B.pre
  have hown : s.vm.findClass RX5 = some m.cls := findClass_of_methodNamed B.named
  have hlocks := B.notSynchronized
  subst hsz
  have hD := hD0.self (sz := s.heap.size)
  generalize hAe : va_A [] s.heap.size = A at hD ⊢
  have hA : ∀ q : Nat, s.heap.size ≤ q → A q := fun q h => by rw [← hAe]; exact Or.inr h
  have hS : va_S A s.heap s.heap [] := va_S.rf
  have hP : va_P G.1 vwCl [] s.heap := hP
  have hl := lv_entry ([.int x0, .int x1]) (n := 2) (Nat.le_of_ble_eq_true rfl)
  rw [lg_entry_eq]
  generalize (lg_sl ([.int x0, .int x1]) ++ List.replicate (2 - (lg_sl ([.int x0, .int x1])).length) Slot.unset).toArray = ls at hl ⊢
  have hl : lv_has ls 2 [(0, .int x0), (1, .int x1)] := hl
  unfold wp_X5_stepBy at h
  refine lv_iload_n hx hb dX5_stepBy_0 rfl (lv_at hl 0 rfl) ?_
  rcases hc_sw7 x0 with c | c | c | c | c | c | c | c | c
  · refine lv_tableOut (tgt := 151) hx hb dX5_stepBy_1 c (by decide) ?_
    replace h := h.1 c
    refine lv_bipush (v := nI 8) hx hb dX5_stepBy_151 kb_8 ?_
    exact W.iret (v := nI 8) hx hb hr (fun t ht hW => ⟨⟨_, (), rfl, h, ⟨by rw [ht]; exact hP, hD⟩⟩, hS.F ht⟩) hS.2.2 dX5_stepBy_153
  · refine lv_tableIn (tgt := 48) (off := 47) hx hb dX5_stepBy_1 (by rw [c]; decide) (by rw [c]; decide) (by rw [c]; decide +kernel) (by decide) ?_
    replace h := h.2.1 c
    refine lv_iload_n hx hb dX5_stepBy_48 rfl (lv_at hl 1 rfl) ?_
    refine hc_ki (wr := []) (va_runS (As := [.int x1]) (rest := []) ⟨hx, hb, hml, hown, hts⟩ (c_X5_startBy l G s.heap.size x1 _ h) (va_cwS 1 hts gX5_stepBy_X5_startBy rfl rfl rfl (by decide +kernel) ⟨Nat.le_of_ble_eq_true rfl, Nat.le_of_ble_eq_true rfl⟩) (hc_pS hK hP hD [] rfl rfl) rfl rfl hl.1 rfl (lv_room (Nat.le_of_ble_eq_true rfl)) dX5_stepBy_49 ⟨Nat.le_refl _, Nat.le_refl _⟩) hP hD hS hA [] [] rfl rfl rfl (by decide) (fun r49 u H locs h hP hD hS => ?_)
    try dsimp only at h
    have hP : va_P G.1 vwCl [] H := hP
    have hD : va_D A [] := hD
    exact W.iret (v := r49) hx hb hr (fun t ht hW => ⟨⟨_, (), rfl, h, ⟨by rw [ht]; exact hP, hD⟩⟩, hS.F ht⟩) hS.2.2 dX5_stepBy_52
  · refine lv_tableIn (tgt := 53) (off := 52) hx hb dX5_stepBy_1 (by rw [c]; decide) (by rw [c]; decide) (by rw [c]; decide +kernel) (by decide) ?_
    replace h := h.2.2.1 c
    refine lv_iload_n hx hb dX5_stepBy_53 rfl (lv_at hl 1 rfl) ?_
    refine hc_ki (wr := []) (va_runS (As := [.int x1]) (rest := []) ⟨hx, hb, hml, hown, hts⟩ (c_X5_isDigit l G s.heap.size x1 _ h) (va_cwS 1 hts gX5_stepBy_X5_isDigit rfl rfl rfl (by decide +kernel) ⟨Nat.le_of_ble_eq_true rfl, Nat.le_of_ble_eq_true rfl⟩) (hc_pS hK hP hD [] rfl rfl) rfl rfl hl.1 rfl (lv_room (Nat.le_of_ble_eq_true rfl)) dX5_stepBy_54 ⟨Nat.le_refl _, Nat.le_refl _⟩) hP hD hS hA [] [] rfl rfl rfl (by decide) (fun r54 u H locs h hP hD hS => ?_)
    try dsimp only at h
    have hP : va_P G.1 vwCl [] H := hP
    have hD : va_D A [] := hD
    refine lv_if_eq (tgt := 64) hx hb dX5_stepBy_57 (by decide) (fun c => ?_) (fun c => ?_)
    · replace h := h.1 c
      refine lv_bipush (v := nI 8) hx hb dX5_stepBy_64 kb_8 ?_
      exact W.iret (v := nI 8) hx hb hr (fun t ht hW => ⟨⟨_, (), rfl, h, ⟨by rw [ht]; exact hP, hD⟩⟩, hS.F ht⟩) hS.2.2 dX5_stepBy_66
    · replace h := h.2 c
      refine lv_iconst (v := nI 2) hx hb dX5_stepBy_60 kc_2 ?_
      refine lv_goto (tgt := 66) hx hb dX5_stepBy_61 (by decide) ?_
      exact W.iret (v := nI 2) hx hb hr (fun t ht hW => ⟨⟨_, (), rfl, h, ⟨by rw [ht]; exact hP, hD⟩⟩, hS.F ht⟩) hS.2.2 dX5_stepBy_66
  · refine lv_tableIn (tgt := 67) (off := 66) hx hb dX5_stepBy_1 (by rw [c]; decide) (by rw [c]; decide) (by rw [c]; decide +kernel) (by decide) ?_
    replace h := h.2.2.2.1 c
    refine lv_iload_n hx hb dX5_stepBy_67 rfl (lv_at hl 1 rfl) ?_
    refine hc_ki (wr := []) (va_runS (As := [.int x1]) (rest := []) ⟨hx, hb, hml, hown, hts⟩ (c_X5_isDigit l G s.heap.size x1 _ h) (va_cwS 1 hts gX5_stepBy_X5_isDigit rfl rfl rfl (by decide +kernel) ⟨Nat.le_of_ble_eq_true rfl, Nat.le_of_ble_eq_true rfl⟩) (hc_pS hK hP hD [] rfl rfl) rfl rfl hl.1 rfl (lv_room (Nat.le_of_ble_eq_true rfl)) dX5_stepBy_68 ⟨Nat.le_refl _, Nat.le_refl _⟩) hP hD hS hA [] [] rfl rfl rfl (by decide) (fun r68 u H locs h hP hD hS => ?_)
    try dsimp only at h
    have hP : va_P G.1 vwCl [] H := hP
    have hD : va_D A [] := hD
    refine lv_if_eq (tgt := 78) hx hb dX5_stepBy_71 (by decide) (fun c => ?_) (fun c => ?_)
    · replace h := h.1 c
      refine lv_bipush (v := nI 8) hx hb dX5_stepBy_78 kb_8 ?_
      exact W.iret (v := nI 8) hx hb hr (fun t ht hW => ⟨⟨_, (), rfl, h, ⟨by rw [ht]; exact hP, hD⟩⟩, hS.F ht⟩) hS.2.2 dX5_stepBy_80
    · replace h := h.2 c
      refine lv_iconst (v := nI 3) hx hb dX5_stepBy_74 kc_3 ?_
      refine lv_goto (tgt := 80) hx hb dX5_stepBy_75 (by decide) ?_
      exact W.iret (v := nI 3) hx hb hr (fun t ht hW => ⟨⟨_, (), rfl, h, ⟨by rw [ht]; exact hP, hD⟩⟩, hS.F ht⟩) hS.2.2 dX5_stepBy_80
  · refine lv_tableIn (tgt := 81) (off := 80) hx hb dX5_stepBy_1 (by rw [c]; decide) (by rw [c]; decide) (by rw [c]; decide +kernel) (by decide) ?_
    replace h := h.2.2.2.2.1 c
    refine lv_iload_n hx hb dX5_stepBy_81 rfl (lv_at hl 1 rfl) ?_
    refine hc_ki (wr := []) (va_runS (As := [.int x1]) (rest := []) ⟨hx, hb, hml, hown, hts⟩ (c_X5_isDigit l G s.heap.size x1 _ h) (va_cwS 1 hts gX5_stepBy_X5_isDigit rfl rfl rfl (by decide +kernel) ⟨Nat.le_of_ble_eq_true rfl, Nat.le_of_ble_eq_true rfl⟩) (hc_pS hK hP hD [] rfl rfl) rfl rfl hl.1 rfl (lv_room (Nat.le_of_ble_eq_true rfl)) dX5_stepBy_82 ⟨Nat.le_refl _, Nat.le_refl _⟩) hP hD hS hA [] [] rfl rfl rfl (by decide) (fun r82 u H locs h hP hD hS => ?_)
    try dsimp only at h
    have hP : va_P G.1 vwCl [] H := hP
    have hD : va_D A [] := hD
    refine lv_if_eq (tgt := 92) hx hb dX5_stepBy_85 (by decide) (fun c => ?_) (fun c => ?_)
    · replace h := h.1 c
      refine lv_bipush (v := nI 8) hx hb dX5_stepBy_92 kb_8 ?_
      exact W.iret (v := nI 8) hx hb hr (fun t ht hW => ⟨⟨_, (), rfl, h, ⟨by rw [ht]; exact hP, hD⟩⟩, hS.F ht⟩) hS.2.2 dX5_stepBy_94
    · replace h := h.2 c
      refine lv_iconst (v := nI 4) hx hb dX5_stepBy_88 kc_4 ?_
      refine lv_goto (tgt := 94) hx hb dX5_stepBy_89 (by decide) ?_
      exact W.iret (v := nI 4) hx hb hr (fun t ht hW => ⟨⟨_, (), rfl, h, ⟨by rw [ht]; exact hP, hD⟩⟩, hS.F ht⟩) hS.2.2 dX5_stepBy_94
  · refine lv_tableIn (tgt := 95) (off := 94) hx hb dX5_stepBy_1 (by rw [c]; decide) (by rw [c]; decide) (by rw [c]; decide +kernel) (by decide) ?_
    replace h := h.2.2.2.2.2.1 c
    refine lv_iload_n hx hb dX5_stepBy_95 rfl (lv_at hl 1 rfl) ?_
    refine lv_bipush (v := nI 59) hx hb dX5_stepBy_96 kb_59 ?_
    refine lv_icmp_ne (tgt := 105) hx hb dX5_stepBy_98 (by decide) (fun c => ?_) (fun c => ?_)
    · replace h := h.1 c
      refine lv_bipush (v := nI 8) hx hb dX5_stepBy_105 kb_8 ?_
      exact W.iret (v := nI 8) hx hb hr (fun t ht hW => ⟨⟨_, (), rfl, h, ⟨by rw [ht]; exact hP, hD⟩⟩, hS.F ht⟩) hS.2.2 dX5_stepBy_107
    · replace h := h.2 c
      refine lv_iconst (v := nI 0) hx hb dX5_stepBy_101 kc_0 ?_
      refine lv_goto (tgt := 107) hx hb dX5_stepBy_102 (by decide) ?_
      exact W.iret (v := nI 0) hx hb hr (fun t ht hW => ⟨⟨_, (), rfl, h, ⟨by rw [ht]; exact hP, hD⟩⟩, hS.F ht⟩) hS.2.2 dX5_stepBy_107
  · refine lv_tableIn (tgt := 108) (off := 107) hx hb dX5_stepBy_1 (by rw [c]; decide) (by rw [c]; decide) (by rw [c]; decide +kernel) (by decide) ?_
    replace h := h.2.2.2.2.2.2.1 c
    refine lv_iload_n hx hb dX5_stepBy_108 rfl (lv_at hl 1 rfl) ?_
    refine hc_ki (wr := []) (va_runS (As := [.int x1]) (rest := []) ⟨hx, hb, hml, hown, hts⟩ (c_X5_behindClaim l G s.heap.size x1 _ h) (va_cwS 1 hts gX5_stepBy_X5_behindClaim rfl rfl rfl (by decide +kernel) ⟨Nat.le_of_ble_eq_true rfl, Nat.le_of_ble_eq_true rfl⟩) (hc_pS hK hP hD [] rfl rfl) rfl rfl hl.1 rfl (lv_room (Nat.le_of_ble_eq_true rfl)) dX5_stepBy_109 ⟨Nat.le_refl _, Nat.le_refl _⟩) hP hD hS hA [] [] rfl rfl rfl (by decide) (fun r109 u H locs h hP hD hS => ?_)
    try dsimp only at h
    have hP : va_P G.1 vwCl [] H := hP
    have hD : va_D A [] := hD
    exact W.iret (v := r109) hx hb hr (fun t ht hW => ⟨⟨_, (), rfl, h, ⟨by rw [ht]; exact hP, hD⟩⟩, hS.F ht⟩) hS.2.2 dX5_stepBy_112
  · refine lv_tableIn (tgt := 113) (off := 112) hx hb dX5_stepBy_1 (by rw [c]; decide) (by rw [c]; decide) (by rw [c]; decide +kernel) (by decide) ?_
    replace h := h.2.2.2.2.2.2.2.1 c
    refine lv_iload_n hx hb dX5_stepBy_113 rfl (lv_at hl 1 rfl) ?_
    refine hc_ki (wr := []) (va_runS (As := [.int x1]) (rest := []) ⟨hx, hb, hml, hown, hts⟩ (c_X5_isClaim l G s.heap.size x1 _ h) (va_cwS 1 hts gX5_stepBy_X5_isClaim rfl rfl rfl (by decide +kernel) ⟨Nat.le_of_ble_eq_true rfl, Nat.le_of_ble_eq_true rfl⟩) (hc_pS hK hP hD [] rfl rfl) rfl rfl hl.1 rfl (lv_room (Nat.le_of_ble_eq_true rfl)) dX5_stepBy_114 ⟨Nat.le_refl _, Nat.le_refl _⟩) hP hD hS hA [] [] rfl rfl rfl (by decide) (fun r114 u H locs h hP hD hS => ?_)
    try dsimp only at h
    have hP : va_P G.1 vwCl [] H := hP
    have hD : va_D A [] := hD
    refine lv_if_eq (tgt := 125) hx hb dX5_stepBy_117 (by decide) (fun c => ?_) (fun c => ?_)
    · replace h := h.1 c
      refine lv_bipush (v := nI 8) hx hb dX5_stepBy_125 kb_8 ?_
      exact W.iret (v := nI 8) hx hb hr (fun t ht hW => ⟨⟨_, (), rfl, h, ⟨by rw [ht]; exact hP, hD⟩⟩, hS.F ht⟩) hS.2.2 dX5_stepBy_127
    · replace h := h.2 c
      refine lv_bipush (v := nI 7) hx hb dX5_stepBy_120 kb_7 ?_
      refine lv_goto (tgt := 127) hx hb dX5_stepBy_122 (by decide) ?_
      exact W.iret (v := nI 7) hx hb hr (fun t ht hW => ⟨⟨_, (), rfl, h, ⟨by rw [ht]; exact hP, hD⟩⟩, hS.F ht⟩) hS.2.2 dX5_stepBy_127
  · refine lv_tableIn (tgt := 128) (off := 127) hx hb dX5_stepBy_1 (by rw [c]; decide) (by rw [c]; decide) (by rw [c]; decide +kernel) (by decide) ?_
    replace h := h.2.2.2.2.2.2.2.2 c
    refine lv_iload_n hx hb dX5_stepBy_128 rfl (lv_at hl 1 rfl) ?_
    refine lv_bipush (v := nI 59) hx hb dX5_stepBy_129 kb_59 ?_
    refine lv_icmp_ne (tgt := 136) hx hb dX5_stepBy_131 (by decide) (fun c => ?_) (fun c => ?_)
    · replace h := h.1 c
      refine lv_iload_n hx hb dX5_stepBy_136 rfl (lv_at hl 1 rfl) ?_
      refine hc_ki (wr := []) (va_runS (As := [.int x1]) (rest := []) ⟨hx, hb, hml, hown, hts⟩ (c_X5_isArrow l G s.heap.size x1 _ h) (va_cwS 1 hts gX5_stepBy_X5_isArrow rfl rfl rfl (by decide +kernel) ⟨Nat.le_of_ble_eq_true rfl, Nat.le_of_ble_eq_true rfl⟩) (hc_pS hK hP hD [] rfl rfl) rfl rfl hl.1 rfl (lv_room (Nat.le_of_ble_eq_true rfl)) dX5_stepBy_137 ⟨Nat.le_refl _, Nat.le_refl _⟩) hP hD hS hA [] [] rfl rfl rfl (by decide) (fun r137 u H locs h hP hD hS => ?_)
      try dsimp only at h
      have hP : va_P G.1 vwCl [] H := hP
      have hD : va_D A [] := hD
      refine lv_if_eq (tgt := 148) hx hb dX5_stepBy_140 (by decide) (fun c => ?_) (fun c => ?_)
      · replace h := h.1 c
        refine lv_bipush (v := nI 8) hx hb dX5_stepBy_148 kb_8 ?_
        exact W.iret (v := nI 8) hx hb hr (fun t ht hW => ⟨⟨_, (), rfl, h, ⟨by rw [ht]; exact hP, hD⟩⟩, hS.F ht⟩) hS.2.2 dX5_stepBy_150
      · replace h := h.2 c
        refine lv_bipush (v := nI 6) hx hb dX5_stepBy_143 kb_6 ?_
        refine lv_goto (tgt := 150) hx hb dX5_stepBy_145 (by decide) ?_
        exact W.iret (v := nI 6) hx hb hr (fun t ht hW => ⟨⟨_, (), rfl, h, ⟨by rw [ht]; exact hP, hD⟩⟩, hS.F ht⟩) hS.2.2 dX5_stepBy_150
    · replace h := h.2 c
      refine lv_iconst (v := nI 0) hx hb dX5_stepBy_134 kc_0 ?_
      exact W.iret (v := nI 0) hx hb hr (fun t ht hW => ⟨⟨_, (), rfl, h, ⟨by rw [ht]; exact hP, hD⟩⟩, hS.F ht⟩) hS.2.2 dX5_stepBy_135
set_option maxHeartbeats 4000000 in
set_option maxRecDepth 100000 in
theorem c_X5_badPlace (l : Launch) (G : hcG) (h0 : Nat) (a_letters : Nat) (a_draft : Nat) (a_letters_numbers : Nat) (sz : Nat) (s_letters_length : Int32) (g_letters_numbers : Nat → Int32) (post : Int32 → Prop) (h : wp_X5_badPlace post g_letters_numbers s_letters_length) : Met l yX5_badPlace wsX5_badPlace ({ frames := 3, cells := 0, slots := 0, locals := 61 }) (hcPc G [.ref h0] [ceX5 h0 a_letters a_draft, ceX6 a_letters a_letters_numbers s_letters_length, caI G a_letters_numbers 96 g_letters_numbers] sz) (va_Qi (fun (r : Int32) (u : Unit) => post r) (hcB G (va_A [ceX5 h0 a_letters a_draft, ceX6 a_letters a_letters_numbers s_letters_length, caI G a_letters_numbers 96 g_letters_numbers] sz) (fun u : Unit => [ceX5 h0 a_letters a_draft, ceX6 a_letters a_letters_numbers s_letters_length, caI G a_letters_numbers 96 g_letters_numbers])) (va_A [ceX5 h0 a_letters a_draft, ceX6 a_letters a_letters_numbers s_letters_length, caI G a_letters_numbers 96 g_letters_numbers] sz)) 0 0 (va_A [ceX5 h0 a_letters a_draft, ceX6 a_letters a_letters_numbers s_letters_length, caI G a_letters_numbers 96 g_letters_numbers] sz) := by
  refine Met.ofW (cc := cX5_badPlace) (maxL := 3) (ret := (some .int)) (by decide) rfl ?_
  intro p e s m args below meth c s₁ B hml hv
  obtain ⟨rfl, hsz, hP, hK, hD0⟩ := hv
  have hx := B.exec
  have hb := B.bytes
  have hr := B.returns
  have hts := atoms_spec (ws := wsX5_badPlace) B.pre
  have hown : s.vm.findClass RX5 = some m.cls := findClass_of_methodNamed B.named
  have hlocks := B.notSynchronized
  subst hsz
  have hD := hD0.self (sz := s.heap.size)
  generalize hAe : va_A [ceX5 h0 a_letters a_draft, ceX6 a_letters a_letters_numbers s_letters_length, caI G a_letters_numbers 96 g_letters_numbers] s.heap.size = A at hD ⊢
  have hA : ∀ q : Nat, s.heap.size ≤ q → A q := fun q h => by rw [← hAe]; exact Or.inr h
  have hS : va_S A s.heap s.heap [] := va_S.rf
  have hP : va_P G.1 vwCl [ceX5 h0 a_letters a_draft, ceX6 a_letters a_letters_numbers s_letters_length, caI G a_letters_numbers 96 g_letters_numbers] s.heap := hP
  have hl := lv_entry ([.ref h0]) (n := 3) (Nat.le_of_ble_eq_true rfl)
  rw [lg_entry_eq]
  generalize (lg_sl ([.ref h0]) ++ List.replicate (3 - (lg_sl ([.ref h0])).length) Slot.unset).toArray = ls at hl ⊢
  have hl : lv_has ls 3 [(0, .ref h0)] := hl
  have kf0 := hts (.fieldLink RX5 14 "HallOfClaims$Reader" "letters" "LHallOfClaims$Row;") (List.mem_of_getElem? (i := 1) (by decide +kernel))
  have kf1 := hts (.fieldLink RX5 35 "HallOfClaims$Row" "length" "I") (List.mem_of_getElem? (i := 2) (by decide +kernel))
  have ki_X5 : ∀ w ∈ u_ws RX5 TX5 2, w ∈ wsX5_badPlace := by decide +kernel
  have ki_X6 : ∀ w ∈ u_ws RX6 TX6 2, w ∈ wsX5_badPlace := by decide +kernel
  have w4 : ∀ (n : Nat) (v1 : Int32) (v2 : Int32) , wp_X5_badPlace_4 post g_letters_numbers s_letters_length n v1 v2 → ∀ (H : Heap) (locs : List Loc) (ls : Array Slot), va_P G.1 vwCl [ceX5 h0 a_letters a_draft, ceX6 a_letters a_letters_numbers s_letters_length, caI G a_letters_numbers 96 g_letters_numbers] H → va_D A [ceX5 h0 a_letters a_draft, ceX6 a_letters a_letters_numbers s_letters_length, caI G a_letters_numbers 96 g_letters_numbers] → va_S A s.heap H locs → lv_has ls 3 [(0, .ref h0), (1, .int v1), (2, .int v2)] → W p l e (headSpec wsX5_badPlace ({ frames := 3, cells := 0, slots := 0, locals := 61 })).room s m ([.ref h0] : List Value).toArray below meth c H locs 0 0 (MQ below (va_Qi (fun (r : Int32) (u : Unit) => post r) (hcB G A (fun u : Unit => [ceX5 h0 a_letters a_draft, ceX6 a_letters a_letters_numbers s_letters_length, caI G a_letters_numbers 96 g_letters_numbers])) A) ([.ref h0] : List Value).toArray s 0 0 A) (F0 m 4 ls []) := by
    intro n
    induction n with
    | zero => intro v1 v2 h; exact h.elim
    | succ n ih =>
      intro v1 v2 h H locs ls hP hD hS hl
      unfold wp_X5_badPlace_4 at h
      refine lv_iload_n hx hb dX5_badPlace_4 rfl (lv_at hl 2 rfl) ?_
      refine lv_aload_n hx hb dX5_badPlace_5 rfl (lv_at hl 0 rfl) ?_
      refine va_get (D := G.1) (ci := 3) (v := .ref a_letters) (C := RX5) (T := TX5) (N := 2) hx hb hts ki_X5 hown hK.1 hP 0 rfl rfl 0 (by decide) kf0 (fun _ h9 => h9) rfl dX5_badPlace_6 ?_
      refine va_get (D := G.1) (ci := 4) (v := .int s_letters_length) (C := RX6) (T := TX6) (N := 2) hx hb hts ki_X6 hown hK.1 hP 1 rfl rfl 1 (by decide) kf1 (fun _ h9 => h9) rfl dX5_badPlace_9 ?_
      refine lv_icmp_ge (tgt := 43) hx hb dX5_badPlace_12 (by decide) (fun c => ?_) (fun c => ?_)
      · replace h := h.1 c
        refine lv_iload_n hx hb dX5_badPlace_43 rfl (lv_at hl 1 rfl) ?_
        refine lv_if_ne (tgt := 61) hx hb dX5_badPlace_44 (by decide) (fun c => ?_) (fun c => ?_)
        · replace h := h.1 c
          refine lv_aload_n hx hb dX5_badPlace_61 rfl (lv_at hl 0 rfl) ?_
          refine va_get (D := G.1) (ci := 3) (v := .ref a_letters) (C := RX5) (T := TX5) (N := 2) hx hb hts ki_X5 hown hK.1 hP 0 rfl rfl 0 (by decide) kf0 (fun _ h9 => h9) rfl dX5_badPlace_62 ?_
          refine va_get (D := G.1) (ci := 4) (v := .int s_letters_length) (C := RX6) (T := TX6) (N := 2) hx hb hts ki_X6 hown hK.1 hP 1 rfl rfl 1 (by decide) kf1 (fun _ h9 => h9) rfl dX5_badPlace_65 ?_
          exact W.iret (v := s_letters_length) hx hb hr (fun t ht hW => ⟨⟨_, (), rfl, h, ⟨by rw [ht]; exact hP, hD⟩⟩, hS.F ht⟩) hS.2.2 dX5_badPlace_68
        · replace h := h.2 c
          refine lv_aload_n hx hb dX5_badPlace_47 rfl (lv_at hl 0 rfl) ?_
          refine va_get (D := G.1) (ci := 3) (v := .ref a_letters) (C := RX5) (T := TX5) (N := 2) hx hb hts ki_X5 hown hK.1 hP 0 rfl rfl 0 (by decide) kf0 (fun _ h9 => h9) rfl dX5_badPlace_48 ?_
          refine va_get (D := G.1) (ci := 4) (v := .int s_letters_length) (C := RX6) (T := TX6) (N := 2) hx hb hts ki_X6 hown hK.1 hP 1 rfl rfl 1 (by decide) kf1 (fun _ h9 => h9) rfl dX5_badPlace_51 ?_
          refine lv_if_le (tgt := 61) hx hb dX5_badPlace_54 (by decide) (fun c => ?_) (fun c => ?_)
          · replace h := h.1 c
            refine lv_aload_n hx hb dX5_badPlace_61 rfl (lv_at hl 0 rfl) ?_
            refine va_get (D := G.1) (ci := 3) (v := .ref a_letters) (C := RX5) (T := TX5) (N := 2) hx hb hts ki_X5 hown hK.1 hP 0 rfl rfl 0 (by decide) kf0 (fun _ h9 => h9) rfl dX5_badPlace_62 ?_
            refine va_get (D := G.1) (ci := 4) (v := .int s_letters_length) (C := RX6) (T := TX6) (N := 2) hx hb hts ki_X6 hown hK.1 hP 1 rfl rfl 1 (by decide) kf1 (fun _ h9 => h9) rfl dX5_badPlace_65 ?_
            exact W.iret (v := s_letters_length) hx hb hr (fun t ht hW => ⟨⟨_, (), rfl, h, ⟨by rw [ht]; exact hP, hD⟩⟩, hS.F ht⟩) hS.2.2 dX5_badPlace_68
          · replace h := h.2 c
            refine lv_iconst (v := (-1 : Int32)) hx hb dX5_badPlace_57 kc_m1 ?_
            refine lv_goto (tgt := 68) hx hb dX5_badPlace_58 (by decide) ?_
            exact W.iret (v := (-1 : Int32)) hx hb hr (fun t ht hW => ⟨⟨_, (), rfl, h, ⟨by rw [ht]; exact hP, hD⟩⟩, hS.F ht⟩) hS.2.2 dX5_badPlace_68
      · replace h := h.2 c
        refine lv_iload_n hx hb dX5_badPlace_15 rfl (lv_at hl 1 rfl) ?_
        refine lv_aload_n hx hb dX5_badPlace_16 rfl (lv_at hl 0 rfl) ?_
        refine va_get (D := G.1) (ci := 3) (v := .ref a_letters) (C := RX5) (T := TX5) (N := 2) hx hb hts ki_X5 hown hK.1 hP 0 rfl rfl 0 (by decide) kf0 (fun _ h9 => h9) rfl dX5_badPlace_17 ?_
        refine lv_iload_n hx hb dX5_badPlace_20 rfl (lv_at hl 2 rfl) ?_
        refine lv_iconst (v := (-1 : Int32)) hx hb dX5_badPlace_21 kc_m1 ?_
        refine hc_ki (wr := [ceX5 h0 a_letters a_draft]) (va_runV (As := [.int v2, .int ((-1 : Int32))]) (rest := [.int v1]) ⟨hx, hb, hml, hown, hts⟩ (c_X6_at l G a_letters a_letters_numbers H.size 96 s_letters_length g_letters_numbers v2 ((-1 : Int32)) _ h) (cwV 2 hts gX5_badPlace_X6_at rfl rfl rfl (by decide +kernel) ⟨Nat.le_of_ble_eq_true rfl, Nat.le_of_ble_eq_true rfl⟩) (hc_pV hK hP hD [1, 2] rfl rfl (ci := 4) 1 rfl rfl) rfl rfl hl.1 rfl (lv_room (Nat.le_of_ble_eq_true rfl)) dX5_badPlace_22 ⟨Nat.le_refl _, Nat.le_refl _⟩) hP hD hS hA [1, 2] [0] rfl rfl rfl (by decide) (fun r22 u H locs h hP hD hS => ?_)
        try dsimp only at h
        have hP : va_P G.1 vwCl [ceX5 h0 a_letters a_draft, ceX6 a_letters a_letters_numbers s_letters_length, caI G a_letters_numbers 96 g_letters_numbers] H := hP
        have hD : va_D A [ceX5 h0 a_letters a_draft, ceX6 a_letters a_letters_numbers s_letters_length, caI G a_letters_numbers 96 g_letters_numbers] := hD
        refine hc_ki (wr := [ceX5 h0 a_letters a_draft, ceX6 a_letters a_letters_numbers s_letters_length, caI G a_letters_numbers 96 g_letters_numbers]) (va_runS (As := [.int v1, .int r22]) (rest := []) ⟨hx, hb, hml, hown, hts⟩ (c_X5_stepBy l G H.size v1 r22 _ h) (va_cwS 2 hts gX5_badPlace_X5_stepBy rfl rfl rfl (by decide +kernel) ⟨Nat.le_of_ble_eq_true rfl, Nat.le_of_ble_eq_true rfl⟩) (hc_pS hK hP hD [] rfl rfl) rfl rfl hl.1 rfl (lv_room (Nat.le_of_ble_eq_true rfl)) dX5_badPlace_25 ⟨Nat.le_refl _, Nat.le_refl _⟩) hP hD hS hA [] [0, 1, 2] rfl rfl rfl (by decide) (fun r25 u H locs h hP hD hS => ?_)
        try dsimp only at h
        have hP : va_P G.1 vwCl [ceX5 h0 a_letters a_draft, ceX6 a_letters a_letters_numbers s_letters_length, caI G a_letters_numbers 96 g_letters_numbers] H := hP
        have hD : va_D A [ceX5 h0 a_letters a_draft, ceX6 a_letters a_letters_numbers s_letters_length, caI G a_letters_numbers 96 g_letters_numbers] := hD
        refine lv_istore_n (lv' := [(1, .int r25), (0, .ref h0), (2, .int v2)]) hx hb dX5_badPlace_28 rfl hl (by decide) rfl (fun ls hl => ?_)
        refine lv_iload_n hx hb dX5_badPlace_29 rfl (lv_at hl 0 rfl) ?_
        refine lv_bipush (v := nI 8) hx hb dX5_badPlace_30 kb_8 ?_
        refine lv_icmp_ne (tgt := 37) hx hb dX5_badPlace_32 (by decide) (fun c => ?_) (fun c => ?_)
        · replace h := h.1 c
          refine lv_iinc (v := v2 + nI 1) (lv' := [(2, .int (v2 + nI 1)), (1, .int r25), (0, .ref h0)]) hx hb dX5_badPlace_37 hl (k := 2) rfl (congrArg (fun q => v2 + q) kc_1) (by decide) rfl (fun ls hl => ?_)
          refine lv_goto (tgt := 4) hx hb dX5_badPlace_40 (by decide) ?_
          exact ih r25 (v2 + nI 1) h _ _ _ hP hD hS (lv_sub hl [2, 1, 0] rfl)
        · replace h := h.2 c
          refine lv_iload_n hx hb dX5_badPlace_35 rfl (lv_at hl 2 rfl) ?_
          exact W.iret (v := v2) hx hb hr (fun t ht hW => ⟨⟨_, (), rfl, h, ⟨by rw [ht]; exact hP, hD⟩⟩, hS.F ht⟩) hS.2.2 dX5_badPlace_36
  unfold wp_X5_badPlace at h
  refine lv_iconst (v := nI 0) hx hb dX5_badPlace_0 kc_0 ?_
  refine lv_istore_n (lv' := [(1, .int (nI 0)), (0, .ref h0)]) hx hb dX5_badPlace_1 rfl hl (by decide) rfl (fun ls hl => ?_)
  refine lv_iconst (v := nI 0) hx hb dX5_badPlace_2 kc_0 ?_
  refine lv_istore_n (lv' := [(2, .int (nI 0)), (1, .int (nI 0)), (0, .ref h0)]) hx hb dX5_badPlace_3 rfl hl (by decide) rfl (fun ls hl => ?_)
  obtain ⟨n4, h⟩ := h
  exact w4  n4 (nI 0) (nI 0) h _ _ _ hP hD hS (lv_sub hl [2, 1, 0] rfl)
set_option maxHeartbeats 4000000 in
set_option maxRecDepth 100000 in
theorem c_X5_read (l : Launch) (G : hcG) (h0 : Nat) (a_letters : Nat) (a_draft : Nat) (hp1 : Nat) (a_letters_numbers : Nat) (sz : Nat) (s_p1_size : Int32) (s_p1_heard : Int32) (s_p1_mode : Int32) (s_p1_cast : Int64) (s_p1_figures : Int64) (s_p1_voices : Int64) (s_p1_attacks : Int64) (s_p1_supports : Int64) (s_letters_length : Int32) (s_draft_size : Int32) (s_draft_heard : Int32) (s_draft_mode : Int32) (s_draft_cast : Int64) (s_draft_figures : Int64) (s_draft_voices : Int64) (s_draft_attacks : Int64) (s_draft_supports : Int64) (g_letters_numbers : Nat → Int32) (post : Int32 → Int32 → Int32 → Int32 → Int64 → Int64 → Int64 → Int64 → Int64 → Int32 → Int32 → Int32 → Int64 → Int64 → Int64 → Int64 → Int64 → Prop) (h : wp_X5_read post g_letters_numbers s_letters_length s_draft_size s_draft_heard s_draft_mode s_draft_cast s_draft_figures s_draft_voices s_draft_attacks s_draft_supports s_p1_size s_p1_heard s_p1_mode s_p1_cast s_p1_figures s_p1_voices s_p1_attacks s_p1_supports) : Met l yX5_read wsX5_read ({ frames := 5, cells := 0, slots := 0, locals := 119 }) (hcPc G [.ref h0, .ref hp1] [ceX5 h0 a_letters a_draft, ceX3 hp1 s_p1_size s_p1_heard s_p1_mode s_p1_cast s_p1_figures s_p1_voices s_p1_attacks s_p1_supports, ceX6 a_letters a_letters_numbers s_letters_length, ceX3 a_draft s_draft_size s_draft_heard s_draft_mode s_draft_cast s_draft_figures s_draft_voices s_draft_attacks s_draft_supports, caI G a_letters_numbers 96 g_letters_numbers] sz) (va_Qi (fun (r : Int32) (u : Int32 × Int32 × Int32 × Int64 × Int64 × Int64 × Int64 × Int64 × Int32 × Int32 × Int32 × Int64 × Int64 × Int64 × Int64 × Int64) => post r u.1 u.2.1 u.2.2.1 u.2.2.2.1 u.2.2.2.2.1 u.2.2.2.2.2.1 u.2.2.2.2.2.2.1 u.2.2.2.2.2.2.2.1 u.2.2.2.2.2.2.2.2.1 u.2.2.2.2.2.2.2.2.2.1 u.2.2.2.2.2.2.2.2.2.2.1 u.2.2.2.2.2.2.2.2.2.2.2.1 u.2.2.2.2.2.2.2.2.2.2.2.2.1 u.2.2.2.2.2.2.2.2.2.2.2.2.2.1 u.2.2.2.2.2.2.2.2.2.2.2.2.2.2.1 u.2.2.2.2.2.2.2.2.2.2.2.2.2.2.2) (hcB G (va_A [ceX5 h0 a_letters a_draft, ceX3 hp1 s_p1_size s_p1_heard s_p1_mode s_p1_cast s_p1_figures s_p1_voices s_p1_attacks s_p1_supports, ceX6 a_letters a_letters_numbers s_letters_length, ceX3 a_draft s_draft_size s_draft_heard s_draft_mode s_draft_cast s_draft_figures s_draft_voices s_draft_attacks s_draft_supports, caI G a_letters_numbers 96 g_letters_numbers] sz) (fun u : Int32 × Int32 × Int32 × Int64 × Int64 × Int64 × Int64 × Int64 × Int32 × Int32 × Int32 × Int64 × Int64 × Int64 × Int64 × Int64 => [ceX5 h0 a_letters a_draft, ceX3 hp1 u.2.2.2.2.2.2.2.2.1 u.2.2.2.2.2.2.2.2.2.1 u.2.2.2.2.2.2.2.2.2.2.1 u.2.2.2.2.2.2.2.2.2.2.2.1 u.2.2.2.2.2.2.2.2.2.2.2.2.1 u.2.2.2.2.2.2.2.2.2.2.2.2.2.1 u.2.2.2.2.2.2.2.2.2.2.2.2.2.2.1 u.2.2.2.2.2.2.2.2.2.2.2.2.2.2.2, ceX6 a_letters a_letters_numbers s_letters_length, ceX3 a_draft u.1 u.2.1 u.2.2.1 u.2.2.2.1 u.2.2.2.2.1 u.2.2.2.2.2.1 u.2.2.2.2.2.2.1 u.2.2.2.2.2.2.2.1, caI G a_letters_numbers 96 g_letters_numbers])) (va_A [ceX5 h0 a_letters a_draft, ceX3 hp1 s_p1_size s_p1_heard s_p1_mode s_p1_cast s_p1_figures s_p1_voices s_p1_attacks s_p1_supports, ceX6 a_letters a_letters_numbers s_letters_length, ceX3 a_draft s_draft_size s_draft_heard s_draft_mode s_draft_cast s_draft_figures s_draft_voices s_draft_attacks s_draft_supports, caI G a_letters_numbers 96 g_letters_numbers] sz)) 0 0 (va_A [ceX5 h0 a_letters a_draft, ceX3 hp1 s_p1_size s_p1_heard s_p1_mode s_p1_cast s_p1_figures s_p1_voices s_p1_attacks s_p1_supports, ceX6 a_letters a_letters_numbers s_letters_length, ceX3 a_draft s_draft_size s_draft_heard s_draft_mode s_draft_cast s_draft_figures s_draft_voices s_draft_attacks s_draft_supports, caI G a_letters_numbers 96 g_letters_numbers] sz) := by
  refine Met.ofW (cc := cX5_read) (maxL := 3) (ret := (some .int)) (by decide) rfl ?_
  intro p e s m args below meth c s₁ B hml hv
  obtain ⟨rfl, hsz, hP, hK, hD0⟩ := hv
  have hx := B.exec
  have hb := B.bytes
  have hr := B.returns
  have hts := atoms_spec (ws := wsX5_read) B.pre
  have hown : s.vm.findClass RX5 = some m.cls := findClass_of_methodNamed B.named
  have hlocks := B.notSynchronized
  subst hsz
  have hD := hD0.self (sz := s.heap.size)
  generalize hAe : va_A [ceX5 h0 a_letters a_draft, ceX3 hp1 s_p1_size s_p1_heard s_p1_mode s_p1_cast s_p1_figures s_p1_voices s_p1_attacks s_p1_supports, ceX6 a_letters a_letters_numbers s_letters_length, ceX3 a_draft s_draft_size s_draft_heard s_draft_mode s_draft_cast s_draft_figures s_draft_voices s_draft_attacks s_draft_supports, caI G a_letters_numbers 96 g_letters_numbers] s.heap.size = A at hD ⊢
  have hA : ∀ q : Nat, s.heap.size ≤ q → A q := fun q h => by rw [← hAe]; exact Or.inr h
  have hS : va_S A s.heap s.heap [] := va_S.rf
  have hP : va_P G.1 vwCl [ceX5 h0 a_letters a_draft, ceX3 hp1 s_p1_size s_p1_heard s_p1_mode s_p1_cast s_p1_figures s_p1_voices s_p1_attacks s_p1_supports, ceX6 a_letters a_letters_numbers s_letters_length, ceX3 a_draft s_draft_size s_draft_heard s_draft_mode s_draft_cast s_draft_figures s_draft_voices s_draft_attacks s_draft_supports, caI G a_letters_numbers 96 g_letters_numbers] s.heap := hP
  have hl := lv_entry ([.ref h0, .ref hp1]) (n := 3) (Nat.le_of_ble_eq_true rfl)
  rw [lg_entry_eq]
  generalize (lg_sl ([.ref h0, .ref hp1]) ++ List.replicate (3 - (lg_sl ([.ref h0, .ref hp1])).length) Slot.unset).toArray = ls at hl ⊢
  have hl : lv_has ls 3 [(0, .ref h0), (1, .ref hp1)] := hl
  unfold wp_X5_read at h
  refine lv_aload_n hx hb dX5_read_0 rfl (lv_at hl 0 rfl) ?_
  refine hc_ki (wr := [ceX3 hp1 s_p1_size s_p1_heard s_p1_mode s_p1_cast s_p1_figures s_p1_voices s_p1_attacks s_p1_supports, ceX3 a_draft s_draft_size s_draft_heard s_draft_mode s_draft_cast s_draft_figures s_draft_voices s_draft_attacks s_draft_supports]) (va_runV (As := []) (rest := []) ⟨hx, hb, hml, hown, hts⟩ (c_X5_badPlace l G h0 a_letters a_draft a_letters_numbers s.heap.size s_letters_length g_letters_numbers _ h) (cwV 0 hts gX5_read_X5_badPlace rfl rfl rfl (by decide +kernel) ⟨Nat.le_of_ble_eq_true rfl, Nat.le_of_ble_eq_true rfl⟩) (hc_pV hK hP hD [0, 2, 4] rfl rfl (ci := 3) 0 rfl rfl) rfl rfl hl.1 rfl (lv_room (Nat.le_of_ble_eq_true rfl)) dX5_read_1 ⟨Nat.le_refl _, Nat.le_refl _⟩) hP hD hS hA [0, 2, 4] [1, 3] rfl rfl rfl (by decide) (fun r1 u H locs h hP hD hS => ?_)
  try dsimp only at h
  have hP : va_P G.1 vwCl [ceX3 hp1 s_p1_size s_p1_heard s_p1_mode s_p1_cast s_p1_figures s_p1_voices s_p1_attacks s_p1_supports, ceX3 a_draft s_draft_size s_draft_heard s_draft_mode s_draft_cast s_draft_figures s_draft_voices s_draft_attacks s_draft_supports, ceX5 h0 a_letters a_draft, ceX6 a_letters a_letters_numbers s_letters_length, caI G a_letters_numbers 96 g_letters_numbers] H := hP
  have hD : va_D A [ceX3 hp1 s_p1_size s_p1_heard s_p1_mode s_p1_cast s_p1_figures s_p1_voices s_p1_attacks s_p1_supports, ceX3 a_draft s_draft_size s_draft_heard s_draft_mode s_draft_cast s_draft_figures s_draft_voices s_draft_attacks s_draft_supports, ceX5 h0 a_letters a_draft, ceX6 a_letters a_letters_numbers s_letters_length, caI G a_letters_numbers 96 g_letters_numbers] := hD
  refine lv_istore_n (lv' := [(2, .int r1), (0, .ref h0), (1, .ref hp1)]) hx hb dX5_read_4 rfl hl (by decide) rfl (fun ls hl => ?_)
  refine lv_iload_n hx hb dX5_read_5 rfl (lv_at hl 0 rfl) ?_
  refine lv_if_lt (tgt := 17) hx hb dX5_read_6 (by decide) (fun c => ?_) (fun c => ?_)
  · replace h := h.1 c
    refine lv_aload_n hx hb dX5_read_17 rfl (lv_at hl 1 rfl) ?_
    refine lv_aload_n hx hb dX5_read_18 rfl (lv_at hl 2 rfl) ?_
    refine hc_ki (wr := []) (va_runV (As := [.ref hp1]) (rest := []) ⟨hx, hb, hml, hown, hts⟩ (c_X5_applied l G h0 a_letters a_draft hp1 a_letters_numbers H.size s_p1_size s_p1_heard s_p1_mode s_p1_cast s_p1_figures s_p1_voices s_p1_attacks s_p1_supports s_letters_length s_draft_size s_draft_heard s_draft_mode s_draft_cast s_draft_figures s_draft_voices s_draft_attacks s_draft_supports g_letters_numbers _ h) (cwV 1 hts gX5_read_X5_applied rfl rfl rfl (by decide +kernel) ⟨Nat.le_of_ble_eq_true rfl, Nat.le_of_ble_eq_true rfl⟩) (hc_pV hK hP hD [2, 0, 3, 1, 4] rfl rfl (ci := 3) 2 rfl rfl) rfl rfl hl.1 rfl (lv_room (Nat.le_of_ble_eq_true rfl)) dX5_read_19 ⟨Nat.le_refl _, Nat.le_refl _⟩) hP hD hS hA [2, 0, 3, 1, 4] [] rfl rfl rfl (by decide) (fun r19 u H locs h hP hD hS => ?_)
    obtain ⟨s_draft_size_19, s_draft_heard_19, s_draft_mode_19, s_draft_cast_19, s_draft_figures_19, s_draft_voices_19, s_draft_attacks_19, s_draft_supports_19, s_p1_size_19, s_p1_heard_19, s_p1_mode_19, s_p1_cast_19, s_p1_figures_19, s_p1_voices_19, s_p1_attacks_19, s_p1_supports_19⟩ := u
    try dsimp only at h
    have hP : va_P G.1 vwCl [ceX5 h0 a_letters a_draft, ceX3 hp1 s_p1_size_19 s_p1_heard_19 s_p1_mode_19 s_p1_cast_19 s_p1_figures_19 s_p1_voices_19 s_p1_attacks_19 s_p1_supports_19, ceX6 a_letters a_letters_numbers s_letters_length, ceX3 a_draft s_draft_size_19 s_draft_heard_19 s_draft_mode_19 s_draft_cast_19 s_draft_figures_19 s_draft_voices_19 s_draft_attacks_19 s_draft_supports_19, caI G a_letters_numbers 96 g_letters_numbers] H := hP
    have hD : va_D A [ceX5 h0 a_letters a_draft, ceX3 hp1 s_p1_size_19 s_p1_heard_19 s_p1_mode_19 s_p1_cast_19 s_p1_figures_19 s_p1_voices_19 s_p1_attacks_19 s_p1_supports_19, ceX6 a_letters a_letters_numbers s_letters_length, ceX3 a_draft s_draft_size_19 s_draft_heard_19 s_draft_mode_19 s_draft_cast_19 s_draft_figures_19 s_draft_voices_19 s_draft_attacks_19 s_draft_supports_19, caI G a_letters_numbers 96 g_letters_numbers] := hD
    exact W.iret (v := r19) hx hb hr (fun t ht hW => ⟨⟨_, ⟨s_draft_size_19, s_draft_heard_19, s_draft_mode_19, s_draft_cast_19, s_draft_figures_19, s_draft_voices_19, s_draft_attacks_19, s_draft_supports_19, s_p1_size_19, s_p1_heard_19, s_p1_mode_19, s_p1_cast_19, s_p1_figures_19, s_p1_voices_19, s_p1_attacks_19, s_p1_supports_19⟩, rfl, h, ⟨by rw [ht]; exact hP, hD⟩⟩, hS.F ht⟩) hS.2.2 dX5_read_22
  · replace h := h.2 c
    refine lv_sipush (v := (-1000 : Int32)) hx hb dX5_read_9 ks_m1000 ?_
    refine lv_iload_n hx hb dX5_read_12 rfl (lv_at hl 0 rfl) ?_
    refine lv_isub hx hb dX5_read_13 ?_
    refine lv_goto (tgt := 22) hx hb dX5_read_14 (by decide) ?_
    exact W.iret (v := ((-1000 : Int32)) - r1) hx hb hr (fun t ht hW => ⟨⟨_, ⟨s_draft_size, s_draft_heard, s_draft_mode, s_draft_cast, s_draft_figures, s_draft_voices, s_draft_attacks, s_draft_supports, s_p1_size, s_p1_heard, s_p1_mode, s_p1_cast, s_p1_figures, s_p1_voices, s_p1_attacks, s_p1_supports⟩, rfl, h, ⟨by rw [ht]; exact (hP.sub [2, 0, 3, 1, 4] rfl), (hD.sub [2, 0, 3, 1, 4] (by decide) rfl)⟩⟩, hS.F ht⟩) hS.2.2 dX5_read_22
set_option maxHeartbeats 4000000 in
set_option maxRecDepth 100000 in
theorem c_X6_isFull (l : Launch) (G : hcG) (h0 : Nat) (a_numbers : Nat) (sz : Nat) (n_numbers : Nat) (s_length : Int32) (g_numbers : Nat → Int32) (post : Int32 → Prop) (h : wp_X6_isFull post n_numbers s_length) : Met l yX6_isFull wsX6_isFull ({ frames := 0, cells := 0, slots := 0, locals := 0 }) (hcPc G [.ref h0] [ceX6 h0 a_numbers s_length, caI G a_numbers n_numbers g_numbers] sz) (va_Qi (fun (r : Int32) (u : Unit) => post r) (hcB G (va_A [ceX6 h0 a_numbers s_length, caI G a_numbers n_numbers g_numbers] sz) (fun u : Unit => [ceX6 h0 a_numbers s_length, caI G a_numbers n_numbers g_numbers])) (va_A [ceX6 h0 a_numbers s_length, caI G a_numbers n_numbers g_numbers] sz)) 0 0 (va_A [ceX6 h0 a_numbers s_length, caI G a_numbers n_numbers g_numbers] sz) := by
  refine Met.ofW (cc := cX6_isFull) (maxL := 1) (ret := (some .boolean)) (by decide) rfl ?_
  intro p e s m args below meth c s₁ B hml hv
  obtain ⟨rfl, hsz, hP, hK, hD0⟩ := hv
  have hx := B.exec
  have hb := B.bytes
  have hr := B.returns
  have hts := atoms_spec (ws := wsX6_isFull) B.pre
  have hown : s.vm.findClass RX6 = some m.cls := findClass_of_methodNamed B.named
  have hlocks := B.notSynchronized
  subst hsz
  have hD := hD0.self (sz := s.heap.size)
  generalize hAe : va_A [ceX6 h0 a_numbers s_length, caI G a_numbers n_numbers g_numbers] s.heap.size = A at hD ⊢
  have hA : ∀ q : Nat, s.heap.size ≤ q → A q := fun q h => by rw [← hAe]; exact Or.inr h
  have hS : va_S A s.heap s.heap [] := va_S.rf
  have hP : va_P G.1 vwCl [ceX6 h0 a_numbers s_length, caI G a_numbers n_numbers g_numbers] s.heap := hP
  have hl := lv_entry ([.ref h0]) (n := 1) (Nat.le_of_ble_eq_true rfl)
  rw [lg_entry_eq]
  generalize (lg_sl ([.ref h0]) ++ List.replicate (1 - (lg_sl ([.ref h0])).length) Slot.unset).toArray = ls at hl ⊢
  have hl : lv_has ls 1 [(0, .ref h0)] := hl
  have kf0 := hts (.fieldLink RX6 7 "HallOfClaims$Row" "length" "I") (List.mem_of_getElem? (i := 1) (by decide +kernel))
  have kf1 := hts (.fieldLink RX6 19 "HallOfClaims$Row" "numbers" "[I") (List.mem_of_getElem? (i := 2) (by decide +kernel))
  have ki_X6 : ∀ w ∈ u_ws RX6 TX6 2, w ∈ wsX6_isFull := by decide +kernel
  unfold wp_X6_isFull at h
  refine lv_aload_n hx hb dX6_isFull_0 rfl (lv_at hl 0 rfl) ?_
  refine va_get (D := G.1) (ci := 4) (v := .int s_length) (C := RX6) (T := TX6) (N := 2) hx hb hts ki_X6 hown hK.1 hP 0 rfl rfl 1 (by decide) kf0 (fun _ h9 => h9) rfl dX6_isFull_1 ?_
  refine lv_aload_n hx hb dX6_isFull_4 rfl (lv_at hl 0 rfl) ?_
  refine va_get (D := G.1) (ci := 4) (v := .ref a_numbers) (C := RX6) (T := TX6) (N := 2) hx hb hts ki_X6 hown hK.1 hP 0 rfl rfl 0 (by decide) kf1 (fun _ h9 => h9) rfl dX6_isFull_5 ?_
  refine va_alen hx hb hK.1 hP 1 0 rfl rfl (v := nI n_numbers) rfl dX6_isFull_8 ?_
  refine lv_icmp_lt (tgt := 16) hx hb dX6_isFull_9 (by decide) (fun c => ?_) (fun c => ?_)
  · replace h := h.1 c
    refine lv_iconst (v := nI 0) hx hb dX6_isFull_16 kc_0 ?_
    exact W.zret (v := nI 0) hx hb hr rfl (fun t ht hW => ⟨⟨_, (), rfl, h, ⟨by rw [ht]; exact hP, hD⟩⟩, hS.F ht⟩) hS.2.2 dX6_isFull_17
  · replace h := h.2 c
    refine lv_iconst (v := nI 1) hx hb dX6_isFull_12 kc_1 ?_
    refine lv_goto (tgt := 17) hx hb dX6_isFull_13 (by decide) ?_
    exact W.zret (v := nI 1) hx hb hr rfl (fun t ht hW => ⟨⟨_, (), rfl, h, ⟨by rw [ht]; exact hP, hD⟩⟩, hS.F ht⟩) hS.2.2 dX6_isFull_17
