set_option maxHeartbeats 4000000 in
set_option maxRecDepth 100000 in
theorem c_X11_does (l : Launch) (G : hcG) (h0 : Nat) (a_w : Nat) (a_kept : Nat) (a_laid : Nat) (a_refusals : Nat) (a_row : Nat) (a_letters : Nat) (a_hit : Nat) (a_lead : Nat) (a_defeat : Nat) (a_defeater : Nat) (a_order : Nat) (a_is : Nat) (a_was : Nat) (a_depths : Nat) (a_ways : Nat) (sz : Nat) (s_hasImage : Int32) (s_rows : Int32) (s_lettered : Int32) (s_ins : Int32) (s_outs : Int32) (s_ordered : Int32) (s_reading : Int32) (s_isWell : Int32) (s_z : Int32) (g_w : Nat → Int32) (g_letters : Nat → Int32) (x1 : Int32) (post : Int32 → (Nat → Int32) → Prop) (h : wp_X11_does post g_w g_letters x1) : Met l yX11_does wsX11_does ({ frames := 3, cells := 0, slots := 0, locals := 70 }) (hcPc G [.ref h0, .int x1] [ceX11 h0 a_w a_kept a_laid s_hasImage a_refusals a_row s_rows a_letters s_lettered a_hit a_lead a_defeat a_defeater s_ins s_outs a_order s_ordered a_is a_was s_reading s_isWell a_depths a_ways s_z, caI G a_w 43 g_w, caI G a_letters 96 g_letters] sz) (va_Qi (fun (r : Int32) (u : (Nat → Int32)) => post r u) (hcB G (va_A [ceX11 h0 a_w a_kept a_laid s_hasImage a_refusals a_row s_rows a_letters s_lettered a_hit a_lead a_defeat a_defeater s_ins s_outs a_order s_ordered a_is a_was s_reading s_isWell a_depths a_ways s_z, caI G a_w 43 g_w, caI G a_letters 96 g_letters] sz) (fun u : (Nat → Int32) => [ceX11 h0 a_w a_kept a_laid s_hasImage a_refusals a_row s_rows a_letters s_lettered a_hit a_lead a_defeat a_defeater s_ins s_outs a_order s_ordered a_is a_was s_reading s_isWell a_depths a_ways s_z, caI G a_w 43 u, caI G a_letters 96 g_letters])) (va_A [ceX11 h0 a_w a_kept a_laid s_hasImage a_refusals a_row s_rows a_letters s_lettered a_hit a_lead a_defeat a_defeater s_ins s_outs a_order s_ordered a_is a_was s_reading s_isWell a_depths a_ways s_z, caI G a_w 43 g_w, caI G a_letters 96 g_letters] sz)) 0 0 (va_A [ceX11 h0 a_w a_kept a_laid s_hasImage a_refusals a_row s_rows a_letters s_lettered a_hit a_lead a_defeat a_defeater s_ins s_outs a_order s_ordered a_is a_was s_reading s_isWell a_depths a_ways s_z, caI G a_w 43 g_w, caI G a_letters 96 g_letters] sz) := by
  refine Met.ofW (cc := cX11_does) (maxL := 3) (ret := (some .boolean)) (by decide) rfl ?_
  intro p e s m args below meth c s₁ B hml hv
  obtain ⟨rfl, hsz, hP, hK, hD0⟩ := hv
  have hx := B.exec
  have hb := B.bytes
  have hr := B.returns
  have hts := atoms_spec (ws := wsX11_does) B.pre
  have hown : s.vm.findClass RX11 = some m.cls := findClass_of_methodNamed B.named
  have hlocks := B.notSynchronized
  subst hsz
  have hD := hD0.self (sz := s.heap.size)
  generalize hAe : va_A [ceX11 h0 a_w a_kept a_laid s_hasImage a_refusals a_row s_rows a_letters s_lettered a_hit a_lead a_defeat a_defeater s_ins s_outs a_order s_ordered a_is a_was s_reading s_isWell a_depths a_ways s_z, caI G a_w 43 g_w, caI G a_letters 96 g_letters] s.heap.size = A at hD ⊢
  have hA : ∀ q : Nat, s.heap.size ≤ q → A q := fun q h => by rw [← hAe]; exact Or.inr h
  have hS : va_S A s.heap s.heap [] := va_S.rf
  have hP : va_P G.1 vwCl [ceX11 h0 a_w a_kept a_laid s_hasImage a_refusals a_row s_rows a_letters s_lettered a_hit a_lead a_defeat a_defeater s_ins s_outs a_order s_ordered a_is a_was s_reading s_isWell a_depths a_ways s_z, caI G a_w 43 g_w, caI G a_letters 96 g_letters] s.heap := hP
  have hl := lv_entry ([.ref h0, .int x1]) (n := 3) (Nat.le_of_ble_eq_true rfl)
  rw [lg_entry_eq]
  generalize (lg_sl ([.ref h0, .int x1]) ++ List.replicate (3 - (lg_sl ([.ref h0, .int x1])).length) Slot.unset).toArray = ls at hl ⊢
  have hl : lv_has ls 3 [(0, .ref h0), (1, .int x1)] := hl
  have kf0 := hts (.fieldLink RX11 25 "HallOfClaimsModel" "letters" "[I") (List.mem_of_getElem? (i := 1) (by decide +kernel))
  have kf1 := hts (.fieldLink RX11 9 "HallOfClaimsModel" "w" "[I") (List.mem_of_getElem? (i := 2) (by decide +kernel))
  have ki_X11 : ∀ w ∈ u_ws RX11 TX11 24, w ∈ wsX11_does := by decide +kernel
  have w160 : ∀ (g_w : Nat → Int32) (t0 : Int32) (t1 : Int32) (t2 : Int32) , wp_X11_does_160 post g_letters x1 g_w t0 t1 t2 → ∀ (H : Heap) (locs : List Loc) (ls : Array Slot), va_P G.1 vwCl [ceX11 h0 a_w a_kept a_laid s_hasImage a_refusals a_row s_rows a_letters s_lettered a_hit a_lead a_defeat a_defeater s_ins s_outs a_order s_ordered a_is a_was s_reading s_isWell a_depths a_ways s_z, caI G a_w 43 g_w, caI G a_letters 96 g_letters] H → va_D A [ceX11 h0 a_w a_kept a_laid s_hasImage a_refusals a_row s_rows a_letters s_lettered a_hit a_lead a_defeat a_defeater s_ins s_outs a_order s_ordered a_is a_was s_reading s_isWell a_depths a_ways s_z, caI G a_w 43 g_w, caI G a_letters 96 g_letters] → va_S A s.heap H locs → lv_has ls 3 [(0, .ref h0), (1, .int x1)] → W p l e (headSpec wsX11_does ({ frames := 3, cells := 0, slots := 0, locals := 70 })).room s m ([.ref h0, .int x1] : List Value).toArray below meth c H locs 0 0 (MQ below (va_Qi (fun (r : Int32) (u : (Nat → Int32)) => post r u) (hcB G A (fun u : (Nat → Int32) => [ceX11 h0 a_w a_kept a_laid s_hasImage a_refusals a_row s_rows a_letters s_lettered a_hit a_lead a_defeat a_defeater s_ins s_outs a_order s_ordered a_is a_was s_reading s_isWell a_depths a_ways s_z, caI G a_w 43 u, caI G a_letters 96 g_letters])) A) ([.ref h0, .int x1] : List Value).toArray s 0 0 A) (F0 m 160 ls [.int t0, .int t1, .int t2, .ref a_w]) := by
    intro g_w t0 t1 t2 h H locs ls hP hD hS hl
    unfold wp_X11_does_160 at h
    refine lv_ixor hx hb dX11_does_160 ?_
    have hin := h.1
    replace h := h.2
    refine va_iast hx hb hK.1 hP hD hS 1 0 rfl rfl hin dX11_does_161 (fun H locs hP hD hS => ?_)
    have hP : va_P G.1 vwCl [ceX11 h0 a_w a_kept a_laid s_hasImage a_refusals a_row s_rows a_letters s_lettered a_hit a_lead a_defeat a_defeater s_ins s_outs a_order s_ordered a_is a_was s_reading s_isWell a_depths a_ways s_z, caI G a_w 43 (upd g_w t2.toNatClampNeg (t1 ^^^ t0)), caI G a_letters 96 g_letters] H := hP
    have hD : va_D A [ceX11 h0 a_w a_kept a_laid s_hasImage a_refusals a_row s_rows a_letters s_lettered a_hit a_lead a_defeat a_defeater s_ins s_outs a_order s_ordered a_is a_was s_reading s_isWell a_depths a_ways s_z, caI G a_w 43 (upd g_w t2.toNatClampNeg (t1 ^^^ t0)), caI G a_letters 96 g_letters] := hD
    refine lv_aload_n hx hb dX11_does_162 rfl (lv_at hl 0 rfl) ?_
    refine va_get (D := G.1) (ci := 9) (v := .ref a_letters) (C := RX11) (T := TX11) (N := 24) hx hb hts ki_X11 hown hK.1 hP 0 rfl rfl 7 (by decide) kf0 (fun _ h9 => h9) rfl dX11_does_163 ?_
    refine lv_iload_n hx hb dX11_does_166 rfl (lv_at hl 1 rfl) ?_
    refine lv_iconst (v := nI 1) hx hb dX11_does_167 kc_1 ?_
    refine lv_iadd hx hb dX11_does_168 ?_
    have hin := h.1
    replace h := h.2
    refine va_iald hx hb hK.1 hP 2 0 rfl rfl hin dX11_does_169 ?_
    refine lv_bipush (v := nI 33) hx hb dX11_does_170 kb_33 ?_
    refine lv_icmp_eq (tgt := 183) hx hb dX11_does_172 (by decide) (fun c => ?_) (fun c => ?_)
    · replace h := h.1 c
      refine lv_iconst (v := nI 1) hx hb dX11_does_183 kc_1 ?_
      refine lv_goto (tgt := 188) hx hb dX11_does_184 (by decide) ?_
      exact W.zret (v := nI 1) hx hb hr rfl (fun t ht hW => ⟨⟨_, (upd g_w t2.toNatClampNeg (t1 ^^^ t0)), rfl, h, ⟨by rw [ht]; exact hP, hD⟩⟩, hS.F ht⟩) hS.2.2 dX11_does_188
    · replace h := h.2 c
      refine lv_aload_n hx hb dX11_does_175 rfl (lv_at hl 0 rfl) ?_
      refine lv_iload_n hx hb dX11_does_176 rfl (lv_at hl 1 rfl) ?_
      refine hc_ki (wr := []) (va_runV (As := [.int x1]) (rest := []) ⟨hx, hb, hml, hown, hts⟩ (c_X11_links l G h0 a_w a_kept a_laid a_refusals a_row a_letters a_hit a_lead a_defeat a_defeater a_order a_is a_was a_depths a_ways H.size s_hasImage s_rows s_lettered s_ins s_outs s_ordered s_reading s_isWell s_z (upd g_w t2.toNatClampNeg (t1 ^^^ t0)) g_letters x1 _ h) (cwV 1 hts gX11_does_X11_links rfl rfl rfl (by decide +kernel) ⟨Nat.le_of_ble_eq_true rfl, Nat.le_of_ble_eq_true rfl⟩) (hc_pV hK hP hD [0, 1, 2] rfl rfl (ci := 9) 0 rfl rfl) rfl rfl hl.1 rfl (lv_room (Nat.le_of_ble_eq_true rfl)) dX11_does_177 ⟨Nat.le_refl _, Nat.le_refl _⟩) hP hD hS hA [0, 1, 2] [] rfl rfl rfl (by decide) (fun r177 u H locs h hP hD hS => ?_)
      obtain ⟨g_w_177, rfl⟩ : ∃ z, z = u := ⟨_, rfl⟩
      try dsimp only at h
      have hP : va_P G.1 vwCl [ceX11 h0 a_w a_kept a_laid s_hasImage a_refusals a_row s_rows a_letters s_lettered a_hit a_lead a_defeat a_defeater s_ins s_outs a_order s_ordered a_is a_was s_reading s_isWell a_depths a_ways s_z, caI G a_w 43 g_w_177, caI G a_letters 96 g_letters] H := hP
      have hD : va_D A [ceX11 h0 a_w a_kept a_laid s_hasImage a_refusals a_row s_rows a_letters s_lettered a_hit a_lead a_defeat a_defeater s_ins s_outs a_order s_ordered a_is a_was s_reading s_isWell a_depths a_ways s_z, caI G a_w 43 g_w_177, caI G a_letters 96 g_letters] := hD
      refine lv_if_eq (tgt := 187) hx hb dX11_does_180 (by decide) (fun c => ?_) (fun c => ?_)
      · replace h := h.1 c
        refine lv_iconst (v := nI 0) hx hb dX11_does_187 kc_0 ?_
        exact W.zret (v := nI 0) hx hb hr rfl (fun t ht hW => ⟨⟨_, g_w_177, rfl, h, ⟨by rw [ht]; exact hP, hD⟩⟩, hS.F ht⟩) hS.2.2 dX11_does_188
      · replace h := h.2 c
        refine lv_iconst (v := nI 1) hx hb dX11_does_183 kc_1 ?_
        refine lv_goto (tgt := 188) hx hb dX11_does_184 (by decide) ?_
        exact W.zret (v := nI 1) hx hb hr rfl (fun t ht hW => ⟨⟨_, g_w_177, rfl, h, ⟨by rw [ht]; exact hP, hD⟩⟩, hS.F ht⟩) hS.2.2 dX11_does_188
  unfold wp_X11_does at h
  refine lv_aload_n hx hb dX11_does_0 rfl (lv_at hl 0 rfl) ?_
  refine va_get (D := G.1) (ci := 9) (v := .ref a_letters) (C := RX11) (T := TX11) (N := 24) hx hb hts ki_X11 hown hK.1 hP 0 rfl rfl 7 (by decide) kf0 (fun _ h9 => h9) rfl dX11_does_1 ?_
  refine lv_iload_n hx hb dX11_does_4 rfl (lv_at hl 1 rfl) ?_
  have hin := h.1
  replace h := h.2
  refine va_iald hx hb hK.1 hP 2 0 rfl rfl hin dX11_does_5 ?_
  refine lv_bipush (v := nI 42) hx hb dX11_does_6 kb_42 ?_
  refine lv_icmp_ne (tgt := 37) hx hb dX11_does_8 (by decide) (fun c => ?_) (fun c => ?_)
  · replace h := h.1 c
    refine lv_aload_n hx hb dX11_does_37 rfl (lv_at hl 0 rfl) ?_
    refine va_get (D := G.1) (ci := 9) (v := .ref a_letters) (C := RX11) (T := TX11) (N := 24) hx hb hts ki_X11 hown hK.1 hP 0 rfl rfl 7 (by decide) kf0 (fun _ h9 => h9) rfl dX11_does_38 ?_
    refine lv_iload_n hx hb dX11_does_41 rfl (lv_at hl 1 rfl) ?_
    have hin := h.1
    replace h := h.2
    refine va_iald hx hb hK.1 hP 2 0 rfl rfl hin dX11_does_42 ?_
    refine lv_bipush (v := nI 109) hx hb dX11_does_43 kb_109 ?_
    refine lv_icmp_ne (tgt := 79) hx hb dX11_does_45 (by decide) (fun c => ?_) (fun c => ?_)
    · replace h := h.1 c
      refine lv_aload_n hx hb dX11_does_79 rfl (lv_at hl 0 rfl) ?_
      refine va_get (D := G.1) (ci := 9) (v := .ref a_letters) (C := RX11) (T := TX11) (N := 24) hx hb hts ki_X11 hown hK.1 hP 0 rfl rfl 7 (by decide) kf0 (fun _ h9 => h9) rfl dX11_does_80 ?_
      refine lv_iload_n hx hb dX11_does_83 rfl (lv_at hl 1 rfl) ?_
      have hin := h.1
      replace h := h.2
      refine va_iald hx hb hK.1 hP 2 0 rfl rfl hin dX11_does_84 ?_
      refine lv_bipush (v := nI 97) hx hb dX11_does_85 kb_97 ?_
      refine lv_isub hx hb dX11_does_87 ?_
      refine lv_istore_n (lv' := [(2, .int ((g_letters x1.toNatClampNeg) - (nI 97))), (0, .ref h0), (1, .int x1)]) hx hb dX11_does_88 rfl hl (by decide) rfl (fun ls hl => ?_)
      refine lv_aload_n hx hb dX11_does_89 rfl (lv_at hl 1 rfl) ?_
      refine lv_iload_n hx hb dX11_does_90 rfl (lv_at hl 0 rfl) ?_
      refine hc_ki (wr := [caI G a_letters 96 g_letters]) (va_runV (As := [.int ((g_letters x1.toNatClampNeg) - (nI 97))]) (rest := []) ⟨hx, hb, hml, hown, hts⟩ (c_X11_isClaim l G h0 a_w a_kept a_laid a_refusals a_row a_letters a_hit a_lead a_defeat a_defeater a_order a_is a_was a_depths a_ways s.heap.size s_hasImage s_rows s_lettered s_ins s_outs s_ordered s_reading s_isWell s_z g_w ((g_letters x1.toNatClampNeg) - (nI 97)) _ h) (cwV 1 hts gX11_does_X11_isClaim rfl rfl rfl (by decide +kernel) ⟨Nat.le_of_ble_eq_true rfl, Nat.le_of_ble_eq_true rfl⟩) (hc_pV hK hP hD [0, 1] rfl rfl (ci := 9) 0 rfl rfl) rfl rfl hl.1 rfl (lv_room (Nat.le_of_ble_eq_true rfl)) dX11_does_91 ⟨Nat.le_refl _, Nat.le_refl _⟩) hP hD hS hA [0, 1] [2] rfl rfl rfl (by decide) (fun r91 u H locs h hP hD hS => ?_)
      try dsimp only at h
      have hP : va_P G.1 vwCl [caI G a_letters 96 g_letters, ceX11 h0 a_w a_kept a_laid s_hasImage a_refusals a_row s_rows a_letters s_lettered a_hit a_lead a_defeat a_defeater s_ins s_outs a_order s_ordered a_is a_was s_reading s_isWell a_depths a_ways s_z, caI G a_w 43 g_w] H := hP
      have hD : va_D A [caI G a_letters 96 g_letters, ceX11 h0 a_w a_kept a_laid s_hasImage a_refusals a_row s_rows a_letters s_lettered a_hit a_lead a_defeat a_defeater s_ins s_outs a_order s_ordered a_is a_was s_reading s_isWell a_depths a_ways s_z, caI G a_w 43 g_w] := hD
      refine lv_if_ne (tgt := 99) hx hb dX11_does_94 (by decide) (fun c => ?_) (fun c => ?_)
      · replace h := h.1 c
        refine lv_aload_n hx hb dX11_does_99 rfl (lv_at hl 1 rfl) ?_
        refine va_get (D := G.1) (ci := 9) (v := .ref a_letters) (C := RX11) (T := TX11) (N := 24) hx hb hts ki_X11 hown hK.1 hP 1 rfl rfl 7 (by decide) kf0 (fun _ h9 => h9) rfl dX11_does_100 ?_
        refine lv_iload_n hx hb dX11_does_103 rfl (lv_at hl 2 rfl) ?_
        refine lv_iconst (v := nI 1) hx hb dX11_does_104 kc_1 ?_
        refine lv_iadd hx hb dX11_does_105 ?_
        have hin := h.1
        replace h := h.2
        refine va_iald hx hb hK.1 hP 0 0 rfl rfl hin dX11_does_106 ?_
        refine lv_bipush (v := nI 58) hx hb dX11_does_107 kb_58 ?_
        refine lv_icmp_ne (tgt := 132) hx hb dX11_does_109 (by decide) (fun c => ?_) (fun c => ?_)
        · replace h := h.1 c
          refine lv_aload_n hx hb dX11_does_132 rfl (lv_at hl 1 rfl) ?_
          refine va_get (D := G.1) (ci := 9) (v := .ref a_w) (C := RX11) (T := TX11) (N := 24) hx hb hts ki_X11 hown hK.1 hP 1 rfl rfl 0 (by decide) kf1 (fun _ h9 => h9) rfl dX11_does_133 ?_
          refine lv_bipush (v := nI 40) hx hb dX11_does_136 kb_40 ?_
          refine lv_dup2_11 hx hb dX11_does_138 rfl rfl ?_
          have hin := h.1
          replace h := h.2
          refine va_iald hx hb hK.1 hP 2 0 rfl rfl hin dX11_does_139 ?_
          refine lv_aload_n hx hb dX11_does_140 rfl (lv_at hl 1 rfl) ?_
          refine va_get (D := G.1) (ci := 9) (v := .ref a_letters) (C := RX11) (T := TX11) (N := 24) hx hb hts ki_X11 hown hK.1 hP 1 rfl rfl 7 (by decide) kf0 (fun _ h9 => h9) rfl dX11_does_141 ?_
          refine lv_iload_n hx hb dX11_does_144 rfl (lv_at hl 2 rfl) ?_
          refine lv_iconst (v := nI 1) hx hb dX11_does_145 kc_1 ?_
          refine lv_iadd hx hb dX11_does_146 ?_
          have hin := h.1
          replace h := h.2
          refine va_iald hx hb hK.1 hP 0 0 rfl rfl hin dX11_does_147 ?_
          refine lv_bipush (v := nI 33) hx hb dX11_does_148 kb_33 ?_
          refine lv_icmp_ne (tgt := 159) hx hb dX11_does_150 (by decide) (fun c => ?_) (fun c => ?_)
          · replace h := h.1 c
            refine lv_iconst (v := nI 0) hx hb dX11_does_159 kc_0 ?_
            exact w160  g_w (nI 0) (g_w (nI 40).toNatClampNeg) (nI 40) h _ _ _ (hP.sub [1, 2, 0] rfl) (hD.sub [1, 2, 0] (by decide) rfl) hS (lv_sub hl [1, 2] rfl)
          · replace h := h.2 c
            refine lv_iconst (v := nI 1) hx hb dX11_does_153 kc_1 ?_
            refine lv_iload_n hx hb dX11_does_154 rfl (lv_at hl 0 rfl) ?_
            refine lv_ishl hx hb dX11_does_155 ?_
            refine lv_goto (tgt := 160) hx hb dX11_does_156 (by decide) ?_
            exact w160  g_w ((nI 1) <<< (((g_letters x1.toNatClampNeg) - (nI 97)) &&& 31)) (g_w (nI 40).toNatClampNeg) (nI 40) h _ _ _ (hP.sub [1, 2, 0] rfl) (hD.sub [1, 2, 0] (by decide) rfl) hS (lv_sub hl [1, 2] rfl)
        · replace h := h.2 c
          refine lv_aload_n hx hb dX11_does_112 rfl (lv_at hl 1 rfl) ?_
          refine lv_iload_n hx hb dX11_does_113 rfl (lv_at hl 0 rfl) ?_
          refine lv_aload_n hx hb dX11_does_114 rfl (lv_at hl 1 rfl) ?_
          refine lv_iload_n hx hb dX11_does_115 rfl (lv_at hl 2 rfl) ?_
          refine lv_iconst (v := nI 2) hx hb dX11_does_116 kc_2 ?_
          refine lv_iadd hx hb dX11_does_117 ?_
          refine hc_ki (wr := [caI G a_w 43 g_w]) (va_runV (As := [.int (x1 + (nI 2))]) (rest := [.int ((g_letters x1.toNatClampNeg) - (nI 97)), .ref h0]) ⟨hx, hb, hml, hown, hts⟩ (c_X11_digitAt l G h0 a_w a_kept a_laid a_refusals a_row a_letters a_hit a_lead a_defeat a_defeater a_order a_is a_was a_depths a_ways H.size s_hasImage s_rows s_lettered s_ins s_outs s_ordered s_reading s_isWell s_z g_letters (x1 + (nI 2)) _ h) (cwV 1 hts gX11_does_X11_digitAt rfl rfl rfl (by decide +kernel) ⟨Nat.le_of_ble_eq_true rfl, Nat.le_of_ble_eq_true rfl⟩) (hc_pV hK hP hD [1, 0] rfl rfl (ci := 9) 1 rfl rfl) rfl rfl hl.1 rfl (lv_room (Nat.le_of_ble_eq_true rfl)) dX11_does_118 ⟨Nat.le_refl _, Nat.le_refl _⟩) hP hD hS hA [1, 0] [2] rfl rfl rfl (by decide) (fun r118 u H locs h hP hD hS => ?_)
          try dsimp only at h
          have hP : va_P G.1 vwCl [caI G a_w 43 g_w, ceX11 h0 a_w a_kept a_laid s_hasImage a_refusals a_row s_rows a_letters s_lettered a_hit a_lead a_defeat a_defeater s_ins s_outs a_order s_ordered a_is a_was s_reading s_isWell a_depths a_ways s_z, caI G a_letters 96 g_letters] H := hP
          have hD : va_D A [caI G a_w 43 g_w, ceX11 h0 a_w a_kept a_laid s_hasImage a_refusals a_row s_rows a_letters s_lettered a_hit a_lead a_defeat a_defeater s_ins s_outs a_order s_ordered a_is a_was s_reading s_isWell a_depths a_ways s_z, caI G a_letters 96 g_letters] := hD
          refine lv_aload_n hx hb dX11_does_121 rfl (lv_at hl 1 rfl) ?_
          refine lv_iload_n hx hb dX11_does_122 rfl (lv_at hl 2 rfl) ?_
          refine lv_iconst (v := nI 3) hx hb dX11_does_123 kc_3 ?_
          refine lv_iadd hx hb dX11_does_124 ?_
          refine hc_ki (wr := [caI G a_w 43 g_w]) (va_runV (As := [.int (x1 + (nI 3))]) (rest := [.int r118, .int ((g_letters x1.toNatClampNeg) - (nI 97)), .ref h0]) ⟨hx, hb, hml, hown, hts⟩ (c_X11_digitAt l G h0 a_w a_kept a_laid a_refusals a_row a_letters a_hit a_lead a_defeat a_defeater a_order a_is a_was a_depths a_ways H.size s_hasImage s_rows s_lettered s_ins s_outs s_ordered s_reading s_isWell s_z g_letters (x1 + (nI 3)) _ h) (cwV 1 hts gX11_does_X11_digitAt rfl rfl rfl (by decide +kernel) ⟨Nat.le_of_ble_eq_true rfl, Nat.le_of_ble_eq_true rfl⟩) (hc_pV hK hP hD [1, 2] rfl rfl (ci := 9) 1 rfl rfl) rfl rfl hl.1 rfl (lv_room (Nat.le_of_ble_eq_true rfl)) dX11_does_125 ⟨Nat.le_refl _, Nat.le_refl _⟩) hP hD hS hA [1, 2] [0] rfl rfl rfl (by decide) (fun r125 u H locs h hP hD hS => ?_)
          try dsimp only at h
          have hP : va_P G.1 vwCl [caI G a_w 43 g_w, ceX11 h0 a_w a_kept a_laid s_hasImage a_refusals a_row s_rows a_letters s_lettered a_hit a_lead a_defeat a_defeater s_ins s_outs a_order s_ordered a_is a_was s_reading s_isWell a_depths a_ways s_z, caI G a_letters 96 g_letters] H := hP
          have hD : va_D A [caI G a_w 43 g_w, ceX11 h0 a_w a_kept a_laid s_hasImage a_refusals a_row s_rows a_letters s_lettered a_hit a_lead a_defeat a_defeater s_ins s_outs a_order s_ordered a_is a_was s_reading s_isWell a_depths a_ways s_z, caI G a_letters 96 g_letters] := hD
          refine hc_ki (wr := [caI G a_letters 96 g_letters]) (va_runV (As := [.int ((g_letters x1.toNatClampNeg) - (nI 97)), .int r118, .int r125]) (rest := []) ⟨hx, hb, hml, hown, hts⟩ (c_X11_becomes l G h0 a_w a_kept a_laid a_refusals a_row a_letters a_hit a_lead a_defeat a_defeater a_order a_is a_was a_depths a_ways H.size s_hasImage s_rows s_lettered s_ins s_outs s_ordered s_reading s_isWell s_z g_w ((g_letters x1.toNatClampNeg) - (nI 97)) r118 r125 _ h) (cwV 3 hts gX11_does_X11_becomes rfl rfl rfl (by decide +kernel) ⟨Nat.le_of_ble_eq_true rfl, Nat.le_of_ble_eq_true rfl⟩) (hc_pV hK hP hD [1, 0] rfl rfl (ci := 9) 1 rfl rfl) rfl rfl hl.1 rfl (lv_room (Nat.le_of_ble_eq_true rfl)) dX11_does_128 ⟨Nat.le_refl _, Nat.le_refl _⟩) hP hD hS hA [1, 0] [2] rfl rfl rfl (by decide) (fun r128 u H locs h hP hD hS => ?_)
          obtain ⟨g_w_128, rfl⟩ : ∃ z, z = u := ⟨_, rfl⟩
          try dsimp only at h
          have hP : va_P G.1 vwCl [caI G a_letters 96 g_letters, ceX11 h0 a_w a_kept a_laid s_hasImage a_refusals a_row s_rows a_letters s_lettered a_hit a_lead a_defeat a_defeater s_ins s_outs a_order s_ordered a_is a_was s_reading s_isWell a_depths a_ways s_z, caI G a_w 43 g_w_128] H := hP
          have hD : va_D A [caI G a_letters 96 g_letters, ceX11 h0 a_w a_kept a_laid s_hasImage a_refusals a_row s_rows a_letters s_lettered a_hit a_lead a_defeat a_defeater s_ins s_outs a_order s_ordered a_is a_was s_reading s_isWell a_depths a_ways s_z, caI G a_w 43 g_w_128] := hD
          have hz := h.1
          replace h := h.2
          exact W.zret (v := r128) hx hb hr (hc_nar hz) (fun t ht hW => ⟨⟨_, g_w_128, rfl, h, ⟨by rw [ht]; exact (hP.sub [1, 2, 0] rfl), (hD.sub [1, 2, 0] (by decide) rfl)⟩⟩, hS.F ht⟩) hS.2.2 dX11_does_131
      · replace h := h.2 c
        refine lv_iconst (v := nI 0) hx hb dX11_does_97 kc_0 ?_
        exact W.zret (v := nI 0) hx hb hr rfl (fun t ht hW => ⟨⟨_, g_w, rfl, h, ⟨by rw [ht]; exact (hP.sub [1, 2, 0] rfl), (hD.sub [1, 2, 0] (by decide) rfl)⟩⟩, hS.F ht⟩) hS.2.2 dX11_does_98
    · replace h := h.2 c
      refine lv_aload_n hx hb dX11_does_48 rfl (lv_at hl 0 rfl) ?_
      refine va_get (D := G.1) (ci := 9) (v := .ref a_w) (C := RX11) (T := TX11) (N := 24) hx hb hts ki_X11 hown hK.1 hP 0 rfl rfl 0 (by decide) kf1 (fun _ h9 => h9) rfl dX11_does_49 ?_
      refine lv_bipush (v := nI 41) hx hb dX11_does_52 kb_41 ?_
      refine lv_aload_n hx hb dX11_does_54 rfl (lv_at hl 0 rfl) ?_
      refine lv_iload_n hx hb dX11_does_55 rfl (lv_at hl 1 rfl) ?_
      refine lv_iconst (v := nI 1) hx hb dX11_does_56 kc_1 ?_
      refine lv_iadd hx hb dX11_does_57 ?_
      refine hc_ki (wr := [caI G a_w 43 g_w]) (va_runV (As := [.int (x1 + (nI 1))]) (rest := [.int (nI 41), .ref a_w]) ⟨hx, hb, hml, hown, hts⟩ (c_X11_digitAt l G h0 a_w a_kept a_laid a_refusals a_row a_letters a_hit a_lead a_defeat a_defeater a_order a_is a_was a_depths a_ways s.heap.size s_hasImage s_rows s_lettered s_ins s_outs s_ordered s_reading s_isWell s_z g_letters (x1 + (nI 1)) _ h) (cwV 1 hts gX11_does_X11_digitAt rfl rfl rfl (by decide +kernel) ⟨Nat.le_of_ble_eq_true rfl, Nat.le_of_ble_eq_true rfl⟩) (hc_pV hK hP hD [0, 2] rfl rfl (ci := 9) 0 rfl rfl) rfl rfl hl.1 rfl (lv_room (Nat.le_of_ble_eq_true rfl)) dX11_does_58 ⟨Nat.le_refl _, Nat.le_refl _⟩) hP hD hS hA [0, 2] [1] rfl rfl rfl (by decide) (fun r58 u H locs h hP hD hS => ?_)
      try dsimp only at h
      have hP : va_P G.1 vwCl [caI G a_w 43 g_w, ceX11 h0 a_w a_kept a_laid s_hasImage a_refusals a_row s_rows a_letters s_lettered a_hit a_lead a_defeat a_defeater s_ins s_outs a_order s_ordered a_is a_was s_reading s_isWell a_depths a_ways s_z, caI G a_letters 96 g_letters] H := hP
      have hD : va_D A [caI G a_w 43 g_w, ceX11 h0 a_w a_kept a_laid s_hasImage a_refusals a_row s_rows a_letters s_lettered a_hit a_lead a_defeat a_defeater s_ins s_outs a_order s_ordered a_is a_was s_reading s_isWell a_depths a_ways s_z, caI G a_letters 96 g_letters] := hD
      have hin := h.1
      replace h := h.2
      refine va_iast hx hb hK.1 hP hD hS 0 0 rfl rfl hin dX11_does_61 (fun H locs hP hD hS => ?_)
      have hP : va_P G.1 vwCl [caI G a_w 43 (upd g_w (nI 41).toNatClampNeg r58), ceX11 h0 a_w a_kept a_laid s_hasImage a_refusals a_row s_rows a_letters s_lettered a_hit a_lead a_defeat a_defeater s_ins s_outs a_order s_ordered a_is a_was s_reading s_isWell a_depths a_ways s_z, caI G a_letters 96 g_letters] H := hP
      have hD : va_D A [caI G a_w 43 (upd g_w (nI 41).toNatClampNeg r58), ceX11 h0 a_w a_kept a_laid s_hasImage a_refusals a_row s_rows a_letters s_lettered a_hit a_lead a_defeat a_defeater s_ins s_outs a_order s_ordered a_is a_was s_reading s_isWell a_depths a_ways s_z, caI G a_letters 96 g_letters] := hD
      refine lv_aload_n hx hb dX11_does_62 rfl (lv_at hl 0 rfl) ?_
      refine va_get (D := G.1) (ci := 9) (v := .ref a_w) (C := RX11) (T := TX11) (N := 24) hx hb hts ki_X11 hown hK.1 hP 1 rfl rfl 0 (by decide) kf1 (fun _ h9 => h9) rfl dX11_does_63 ?_
      refine lv_bipush (v := nI 41) hx hb dX11_does_66 kb_41 ?_
      have hin := h.1
      replace h := h.2
      refine va_iald hx hb hK.1 hP 0 0 rfl rfl hin dX11_does_68 ?_
      refine lv_iconst (v := nI 4) hx hb dX11_does_69 kc_4 ?_
      refine lv_icmp_ge (tgt := 77) hx hb dX11_does_70 (by decide) (fun c => ?_) (fun c => ?_)
      · replace h := h.1 c
        refine lv_iconst (v := nI 0) hx hb dX11_does_77 kc_0 ?_
        exact W.zret (v := nI 0) hx hb hr rfl (fun t ht hW => ⟨⟨_, (upd g_w (nI 41).toNatClampNeg r58), rfl, h, ⟨by rw [ht]; exact (hP.sub [1, 0, 2] rfl), (hD.sub [1, 0, 2] (by decide) rfl)⟩⟩, hS.F ht⟩) hS.2.2 dX11_does_78
      · replace h := h.2 c
        refine lv_iconst (v := nI 1) hx hb dX11_does_73 kc_1 ?_
        refine lv_goto (tgt := 78) hx hb dX11_does_74 (by decide) ?_
        exact W.zret (v := nI 1) hx hb hr rfl (fun t ht hW => ⟨⟨_, (upd g_w (nI 41).toNatClampNeg r58), rfl, h, ⟨by rw [ht]; exact (hP.sub [1, 0, 2] rfl), (hD.sub [1, 0, 2] (by decide) rfl)⟩⟩, hS.F ht⟩) hS.2.2 dX11_does_78
  · replace h := h.2 c
    refine lv_aload_n hx hb dX11_does_11 rfl (lv_at hl 0 rfl) ?_
    refine lv_aload_n hx hb dX11_does_12 rfl (lv_at hl 0 rfl) ?_
    refine lv_iload_n hx hb dX11_does_13 rfl (lv_at hl 1 rfl) ?_
    refine lv_iconst (v := nI 1) hx hb dX11_does_14 kc_1 ?_
    refine lv_iadd hx hb dX11_does_15 ?_
    refine hc_ki (wr := [caI G a_w 43 g_w]) (va_runV (As := [.int (x1 + (nI 1))]) (rest := [.ref h0]) ⟨hx, hb, hml, hown, hts⟩ (c_X11_digitAt l G h0 a_w a_kept a_laid a_refusals a_row a_letters a_hit a_lead a_defeat a_defeater a_order a_is a_was a_depths a_ways s.heap.size s_hasImage s_rows s_lettered s_ins s_outs s_ordered s_reading s_isWell s_z g_letters (x1 + (nI 1)) _ h) (cwV 1 hts gX11_does_X11_digitAt rfl rfl rfl (by decide +kernel) ⟨Nat.le_of_ble_eq_true rfl, Nat.le_of_ble_eq_true rfl⟩) (hc_pV hK hP hD [0, 2] rfl rfl (ci := 9) 0 rfl rfl) rfl rfl hl.1 rfl (lv_room (Nat.le_of_ble_eq_true rfl)) dX11_does_16 ⟨Nat.le_refl _, Nat.le_refl _⟩) hP hD hS hA [0, 2] [1] rfl rfl rfl (by decide) (fun r16 u H locs h hP hD hS => ?_)
    try dsimp only at h
    have hP : va_P G.1 vwCl [caI G a_w 43 g_w, ceX11 h0 a_w a_kept a_laid s_hasImage a_refusals a_row s_rows a_letters s_lettered a_hit a_lead a_defeat a_defeater s_ins s_outs a_order s_ordered a_is a_was s_reading s_isWell a_depths a_ways s_z, caI G a_letters 96 g_letters] H := hP
    have hD : va_D A [caI G a_w 43 g_w, ceX11 h0 a_w a_kept a_laid s_hasImage a_refusals a_row s_rows a_letters s_lettered a_hit a_lead a_defeat a_defeater s_ins s_outs a_order s_ordered a_is a_was s_reading s_isWell a_depths a_ways s_z, caI G a_letters 96 g_letters] := hD
    refine lv_aload_n hx hb dX11_does_19 rfl (lv_at hl 0 rfl) ?_
    refine lv_iload_n hx hb dX11_does_20 rfl (lv_at hl 1 rfl) ?_
    refine lv_iconst (v := nI 2) hx hb dX11_does_21 kc_2 ?_
    refine lv_iadd hx hb dX11_does_22 ?_
    refine hc_ki (wr := [caI G a_w 43 g_w]) (va_runV (As := [.int (x1 + (nI 2))]) (rest := [.int r16, .ref h0]) ⟨hx, hb, hml, hown, hts⟩ (c_X11_digitAt l G h0 a_w a_kept a_laid a_refusals a_row a_letters a_hit a_lead a_defeat a_defeater a_order a_is a_was a_depths a_ways H.size s_hasImage s_rows s_lettered s_ins s_outs s_ordered s_reading s_isWell s_z g_letters (x1 + (nI 2)) _ h) (cwV 1 hts gX11_does_X11_digitAt rfl rfl rfl (by decide +kernel) ⟨Nat.le_of_ble_eq_true rfl, Nat.le_of_ble_eq_true rfl⟩) (hc_pV hK hP hD [1, 2] rfl rfl (ci := 9) 1 rfl rfl) rfl rfl hl.1 rfl (lv_room (Nat.le_of_ble_eq_true rfl)) dX11_does_23 ⟨Nat.le_refl _, Nat.le_refl _⟩) hP hD hS hA [1, 2] [0] rfl rfl rfl (by decide) (fun r23 u H locs h hP hD hS => ?_)
    try dsimp only at h
    have hP : va_P G.1 vwCl [caI G a_w 43 g_w, ceX11 h0 a_w a_kept a_laid s_hasImage a_refusals a_row s_rows a_letters s_lettered a_hit a_lead a_defeat a_defeater s_ins s_outs a_order s_ordered a_is a_was s_reading s_isWell a_depths a_ways s_z, caI G a_letters 96 g_letters] H := hP
    have hD : va_D A [caI G a_w 43 g_w, ceX11 h0 a_w a_kept a_laid s_hasImage a_refusals a_row s_rows a_letters s_lettered a_hit a_lead a_defeat a_defeater s_ins s_outs a_order s_ordered a_is a_was s_reading s_isWell a_depths a_ways s_z, caI G a_letters 96 g_letters] := hD
    refine lv_aload_n hx hb dX11_does_26 rfl (lv_at hl 0 rfl) ?_
    refine lv_iload_n hx hb dX11_does_27 rfl (lv_at hl 1 rfl) ?_
    refine lv_iconst (v := nI 3) hx hb dX11_does_28 kc_3 ?_
    refine lv_iadd hx hb dX11_does_29 ?_
    refine hc_ki (wr := [caI G a_w 43 g_w]) (va_runV (As := [.int (x1 + (nI 3))]) (rest := [.int r23, .int r16, .ref h0]) ⟨hx, hb, hml, hown, hts⟩ (c_X11_digitAt l G h0 a_w a_kept a_laid a_refusals a_row a_letters a_hit a_lead a_defeat a_defeater a_order a_is a_was a_depths a_ways H.size s_hasImage s_rows s_lettered s_ins s_outs s_ordered s_reading s_isWell s_z g_letters (x1 + (nI 3)) _ h) (cwV 1 hts gX11_does_X11_digitAt rfl rfl rfl (by decide +kernel) ⟨Nat.le_of_ble_eq_true rfl, Nat.le_of_ble_eq_true rfl⟩) (hc_pV hK hP hD [1, 2] rfl rfl (ci := 9) 1 rfl rfl) rfl rfl hl.1 rfl (lv_room (Nat.le_of_ble_eq_true rfl)) dX11_does_30 ⟨Nat.le_refl _, Nat.le_refl _⟩) hP hD hS hA [1, 2] [0] rfl rfl rfl (by decide) (fun r30 u H locs h hP hD hS => ?_)
    try dsimp only at h
    have hP : va_P G.1 vwCl [caI G a_w 43 g_w, ceX11 h0 a_w a_kept a_laid s_hasImage a_refusals a_row s_rows a_letters s_lettered a_hit a_lead a_defeat a_defeater s_ins s_outs a_order s_ordered a_is a_was s_reading s_isWell a_depths a_ways s_z, caI G a_letters 96 g_letters] H := hP
    have hD : va_D A [caI G a_w 43 g_w, ceX11 h0 a_w a_kept a_laid s_hasImage a_refusals a_row s_rows a_letters s_lettered a_hit a_lead a_defeat a_defeater s_ins s_outs a_order s_ordered a_is a_was s_reading s_isWell a_depths a_ways s_z, caI G a_letters 96 g_letters] := hD
    refine hc_ki (wr := [caI G a_letters 96 g_letters]) (va_runV (As := [.int r16, .int r23, .int r30]) (rest := []) ⟨hx, hb, hml, hown, hts⟩ (c_X11_comes l G h0 a_w a_kept a_laid a_refusals a_row a_letters a_hit a_lead a_defeat a_defeater a_order a_is a_was a_depths a_ways H.size s_hasImage s_rows s_lettered s_ins s_outs s_ordered s_reading s_isWell s_z g_w r16 r23 r30 _ h) (cwV 3 hts gX11_does_X11_comes rfl rfl rfl (by decide +kernel) ⟨Nat.le_of_ble_eq_true rfl, Nat.le_of_ble_eq_true rfl⟩) (hc_pV hK hP hD [1, 0] rfl rfl (ci := 9) 1 rfl rfl) rfl rfl hl.1 rfl (lv_room (Nat.le_of_ble_eq_true rfl)) dX11_does_33 ⟨Nat.le_refl _, Nat.le_refl _⟩) hP hD hS hA [1, 0] [2] rfl rfl rfl (by decide) (fun r33 u H locs h hP hD hS => ?_)
    obtain ⟨g_w_33, rfl⟩ : ∃ z, z = u := ⟨_, rfl⟩
    try dsimp only at h
    have hP : va_P G.1 vwCl [caI G a_letters 96 g_letters, ceX11 h0 a_w a_kept a_laid s_hasImage a_refusals a_row s_rows a_letters s_lettered a_hit a_lead a_defeat a_defeater s_ins s_outs a_order s_ordered a_is a_was s_reading s_isWell a_depths a_ways s_z, caI G a_w 43 g_w_33] H := hP
    have hD : va_D A [caI G a_letters 96 g_letters, ceX11 h0 a_w a_kept a_laid s_hasImage a_refusals a_row s_rows a_letters s_lettered a_hit a_lead a_defeat a_defeater s_ins s_outs a_order s_ordered a_is a_was s_reading s_isWell a_depths a_ways s_z, caI G a_w 43 g_w_33] := hD
    have hz := h.1
    replace h := h.2
    exact W.zret (v := r33) hx hb hr (hc_nar hz) (fun t ht hW => ⟨⟨_, g_w_33, rfl, h, ⟨by rw [ht]; exact (hP.sub [1, 2, 0] rfl), (hD.sub [1, 2, 0] (by decide) rfl)⟩⟩, hS.F ht⟩) hS.2.2 dX11_does_36
set_option maxHeartbeats 4000000 in
set_option maxRecDepth 100000 in
theorem c_X11_nextStatement (l : Launch) (G : hcG) (h0 : Nat) (a_w : Nat) (a_kept : Nat) (a_laid : Nat) (a_refusals : Nat) (a_row : Nat) (a_letters : Nat) (a_hit : Nat) (a_lead : Nat) (a_defeat : Nat) (a_defeater : Nat) (a_order : Nat) (a_is : Nat) (a_was : Nat) (a_depths : Nat) (a_ways : Nat) (sz : Nat) (s_hasImage : Int32) (s_rows : Int32) (s_lettered : Int32) (s_ins : Int32) (s_outs : Int32) (s_ordered : Int32) (s_reading : Int32) (s_isWell : Int32) (s_z : Int32) (g_letters : Nat → Int32) (x1 : Int32) (post : Int32 → Prop) (h : wp_X11_nextStatement post g_letters x1) : Met l yX11_nextStatement wsX11_nextStatement ({ frames := 0, cells := 0, slots := 0, locals := 0 }) (hcPc G [.ref h0, .int x1] [ceX11 h0 a_w a_kept a_laid s_hasImage a_refusals a_row s_rows a_letters s_lettered a_hit a_lead a_defeat a_defeater s_ins s_outs a_order s_ordered a_is a_was s_reading s_isWell a_depths a_ways s_z, caI G a_letters 96 g_letters] sz) (va_Qi (fun (r : Int32) (u : Unit) => post r) (hcB G (va_A [ceX11 h0 a_w a_kept a_laid s_hasImage a_refusals a_row s_rows a_letters s_lettered a_hit a_lead a_defeat a_defeater s_ins s_outs a_order s_ordered a_is a_was s_reading s_isWell a_depths a_ways s_z, caI G a_letters 96 g_letters] sz) (fun u : Unit => [ceX11 h0 a_w a_kept a_laid s_hasImage a_refusals a_row s_rows a_letters s_lettered a_hit a_lead a_defeat a_defeater s_ins s_outs a_order s_ordered a_is a_was s_reading s_isWell a_depths a_ways s_z, caI G a_letters 96 g_letters])) (va_A [ceX11 h0 a_w a_kept a_laid s_hasImage a_refusals a_row s_rows a_letters s_lettered a_hit a_lead a_defeat a_defeater s_ins s_outs a_order s_ordered a_is a_was s_reading s_isWell a_depths a_ways s_z, caI G a_letters 96 g_letters] sz)) 0 0 (va_A [ceX11 h0 a_w a_kept a_laid s_hasImage a_refusals a_row s_rows a_letters s_lettered a_hit a_lead a_defeat a_defeater s_ins s_outs a_order s_ordered a_is a_was s_reading s_isWell a_depths a_ways s_z, caI G a_letters 96 g_letters] sz) := by
  refine Met.ofW (cc := cX11_nextStatement) (maxL := 3) (ret := (some .int)) (by decide) rfl ?_
  intro p e s m args below meth c s₁ B hml hv
  obtain ⟨rfl, hsz, hP, hK, hD0⟩ := hv
  have hx := B.exec
  have hb := B.bytes
  have hr := B.returns
  have hts := atoms_spec (ws := wsX11_nextStatement) B.pre
  have hown : s.vm.findClass RX11 = some m.cls := findClass_of_methodNamed B.named
  have hlocks := B.notSynchronized
  subst hsz
  have hD := hD0.self (sz := s.heap.size)
  generalize hAe : va_A [ceX11 h0 a_w a_kept a_laid s_hasImage a_refusals a_row s_rows a_letters s_lettered a_hit a_lead a_defeat a_defeater s_ins s_outs a_order s_ordered a_is a_was s_reading s_isWell a_depths a_ways s_z, caI G a_letters 96 g_letters] s.heap.size = A at hD ⊢
  have hA : ∀ q : Nat, s.heap.size ≤ q → A q := fun q h => by rw [← hAe]; exact Or.inr h
  have hS : va_S A s.heap s.heap [] := va_S.rf
  have hP : va_P G.1 vwCl [ceX11 h0 a_w a_kept a_laid s_hasImage a_refusals a_row s_rows a_letters s_lettered a_hit a_lead a_defeat a_defeater s_ins s_outs a_order s_ordered a_is a_was s_reading s_isWell a_depths a_ways s_z, caI G a_letters 96 g_letters] s.heap := hP
  have hl := lv_entry ([.ref h0, .int x1]) (n := 3) (Nat.le_of_ble_eq_true rfl)
  rw [lg_entry_eq]
  generalize (lg_sl ([.ref h0, .int x1]) ++ List.replicate (3 - (lg_sl ([.ref h0, .int x1])).length) Slot.unset).toArray = ls at hl ⊢
  have hl : lv_has ls 3 [(0, .ref h0), (1, .int x1)] := hl
  have kf0 := hts (.fieldLink RX11 25 "HallOfClaimsModel" "letters" "[I") (List.mem_of_getElem? (i := 1) (by decide +kernel))
  have ki_X11 : ∀ w ∈ u_ws RX11 TX11 24, w ∈ wsX11_nextStatement := by decide +kernel
  have w2 : ∀ (n : Nat) (v2 : Int32) , wp_X11_nextStatement_2 post g_letters x1 n v2 → ∀ (H : Heap) (locs : List Loc) (ls : Array Slot), va_P G.1 vwCl [ceX11 h0 a_w a_kept a_laid s_hasImage a_refusals a_row s_rows a_letters s_lettered a_hit a_lead a_defeat a_defeater s_ins s_outs a_order s_ordered a_is a_was s_reading s_isWell a_depths a_ways s_z, caI G a_letters 96 g_letters] H → va_D A [ceX11 h0 a_w a_kept a_laid s_hasImage a_refusals a_row s_rows a_letters s_lettered a_hit a_lead a_defeat a_defeater s_ins s_outs a_order s_ordered a_is a_was s_reading s_isWell a_depths a_ways s_z, caI G a_letters 96 g_letters] → va_S A s.heap H locs → lv_has ls 3 [(0, .ref h0), (2, .int v2)] → W p l e (headSpec wsX11_nextStatement ({ frames := 0, cells := 0, slots := 0, locals := 0 })).room s m ([.ref h0, .int x1] : List Value).toArray below meth c H locs 0 0 (MQ below (va_Qi (fun (r : Int32) (u : Unit) => post r) (hcB G A (fun u : Unit => [ceX11 h0 a_w a_kept a_laid s_hasImage a_refusals a_row s_rows a_letters s_lettered a_hit a_lead a_defeat a_defeater s_ins s_outs a_order s_ordered a_is a_was s_reading s_isWell a_depths a_ways s_z, caI G a_letters 96 g_letters])) A) ([.ref h0, .int x1] : List Value).toArray s 0 0 A) (F0 m 2 ls []) := by
    intro n
    induction n with
    | zero => intro v2 h; exact h.elim
    | succ n ih =>
      intro v2 h H locs ls hP hD hS hl
      unfold wp_X11_nextStatement_2 at h
      refine lv_aload_n hx hb dX11_nextStatement_2 rfl (lv_at hl 0 rfl) ?_
      refine va_get (D := G.1) (ci := 9) (v := .ref a_letters) (C := RX11) (T := TX11) (N := 24) hx hb hts ki_X11 hown hK.1 hP 0 rfl rfl 7 (by decide) kf0 (fun _ h9 => h9) rfl dX11_nextStatement_3 ?_
      refine lv_iload_n hx hb dX11_nextStatement_6 rfl (lv_at hl 1 rfl) ?_
      have hin := h.1
      replace h := h.2
      refine va_iald hx hb hK.1 hP 1 0 rfl rfl hin dX11_nextStatement_7 ?_
      refine lv_bipush (v := nI 59) hx hb dX11_nextStatement_8 kb_59 ?_
      refine lv_icmp_eq (tgt := 19) hx hb dX11_nextStatement_10 (by decide) (fun c => ?_) (fun c => ?_)
      · replace h := h.1 c
        refine lv_iload_n hx hb dX11_nextStatement_19 rfl (lv_at hl 1 rfl) ?_
        refine lv_iconst (v := nI 1) hx hb dX11_nextStatement_20 kc_1 ?_
        refine lv_iadd hx hb dX11_nextStatement_21 ?_
        exact W.iret (v := v2 + (nI 1)) hx hb hr (fun t ht hW => ⟨⟨_, (), rfl, h, ⟨by rw [ht]; exact hP, hD⟩⟩, hS.F ht⟩) hS.2.2 dX11_nextStatement_22
      · replace h := h.2 c
        refine lv_iinc (v := v2 + nI 1) (lv' := [(2, .int (v2 + nI 1)), (0, .ref h0)]) hx hb dX11_nextStatement_13 hl (k := 1) rfl (congrArg (fun q => v2 + q) kc_1) (by decide) rfl (fun ls hl => ?_)
        refine lv_goto (tgt := 2) hx hb dX11_nextStatement_16 (by decide) ?_
        exact ih (v2 + nI 1) h _ _ _ hP hD hS (lv_sub hl [1, 0] rfl)
  unfold wp_X11_nextStatement at h
  refine lv_iload_n hx hb dX11_nextStatement_0 rfl (lv_at hl 1 rfl) ?_
  refine lv_istore_n (lv' := [(2, .int x1), (0, .ref h0), (1, .int x1)]) hx hb dX11_nextStatement_1 rfl hl (by decide) rfl (fun ls hl => ?_)
  obtain ⟨n2, h⟩ := h
  exact w2  n2 x1 h _ _ _ hP hD hS (lv_sub hl [1, 0] rfl)
set_option maxHeartbeats 4000000 in
set_option maxRecDepth 100000 in
theorem c_X11_readsAll (l : Launch) (G : hcG) (h0 : Nat) (a_w : Nat) (a_kept : Nat) (a_laid : Nat) (a_refusals : Nat) (a_row : Nat) (a_letters : Nat) (a_hit : Nat) (a_lead : Nat) (a_defeat : Nat) (a_defeater : Nat) (a_order : Nat) (a_is : Nat) (a_was : Nat) (a_depths : Nat) (a_ways : Nat) (sz : Nat) (s_hasImage : Int32) (s_rows : Int32) (s_lettered : Int32) (s_ins : Int32) (s_outs : Int32) (s_ordered : Int32) (s_reading : Int32) (s_isWell : Int32) (s_z : Int32) (g_w : Nat → Int32) (g_laid : Nat → Int32) (g_letters : Nat → Int32) (post : Int32 → (Nat → Int32) → (Nat → Int32) → Int32 → Int32 → Prop) (h : wp_X11_readsAll post g_w g_laid g_letters s_lettered s_reading s_isWell) : Met l yX11_readsAll wsX11_readsAll ({ frames := 4, cells := 0, slots := 0, locals := 92 }) (hcPc G [.ref h0] [ceX11 h0 a_w a_kept a_laid s_hasImage a_refusals a_row s_rows a_letters s_lettered a_hit a_lead a_defeat a_defeater s_ins s_outs a_order s_ordered a_is a_was s_reading s_isWell a_depths a_ways s_z, caI G a_w 43 g_w, caI G a_laid 43 g_laid, caI G a_letters 96 g_letters] sz) (va_Qi (fun (r : Int32) (u : (Nat → Int32) × (Nat → Int32) × Int32 × Int32) => post r u.1 u.2.1 u.2.2.1 u.2.2.2) (hcB G (va_A [ceX11 h0 a_w a_kept a_laid s_hasImage a_refusals a_row s_rows a_letters s_lettered a_hit a_lead a_defeat a_defeater s_ins s_outs a_order s_ordered a_is a_was s_reading s_isWell a_depths a_ways s_z, caI G a_w 43 g_w, caI G a_laid 43 g_laid, caI G a_letters 96 g_letters] sz) (fun u : (Nat → Int32) × (Nat → Int32) × Int32 × Int32 => [ceX11 h0 a_w a_kept a_laid s_hasImage a_refusals a_row s_rows a_letters s_lettered a_hit a_lead a_defeat a_defeater s_ins s_outs a_order s_ordered a_is a_was u.2.2.1 u.2.2.2 a_depths a_ways s_z, caI G a_w 43 u.1, caI G a_laid 43 u.2.1, caI G a_letters 96 g_letters])) (va_A [ceX11 h0 a_w a_kept a_laid s_hasImage a_refusals a_row s_rows a_letters s_lettered a_hit a_lead a_defeat a_defeater s_ins s_outs a_order s_ordered a_is a_was s_reading s_isWell a_depths a_ways s_z, caI G a_w 43 g_w, caI G a_laid 43 g_laid, caI G a_letters 96 g_letters] sz)) 0 0 (va_A [ceX11 h0 a_w a_kept a_laid s_hasImage a_refusals a_row s_rows a_letters s_lettered a_hit a_lead a_defeat a_defeater s_ins s_outs a_order s_ordered a_is a_was s_reading s_isWell a_depths a_ways s_z, caI G a_w 43 g_w, caI G a_laid 43 g_laid, caI G a_letters 96 g_letters] sz) := by
  refine Met.ofW (cc := cX11_readsAll) (maxL := 3) (ret := (some .int)) (by decide) rfl ?_
  intro p e s m args below meth c s₁ B hml hv
  obtain ⟨rfl, hsz, hP, hK, hD0⟩ := hv
  have hx := B.exec
  have hb := B.bytes
  have hr := B.returns
  have hts := atoms_spec (ws := wsX11_readsAll) B.pre
  have hown : s.vm.findClass RX11 = some m.cls := findClass_of_methodNamed B.named
  have hlocks := B.notSynchronized
  subst hsz
  have hD := hD0.self (sz := s.heap.size)
  generalize hAe : va_A [ceX11 h0 a_w a_kept a_laid s_hasImage a_refusals a_row s_rows a_letters s_lettered a_hit a_lead a_defeat a_defeater s_ins s_outs a_order s_ordered a_is a_was s_reading s_isWell a_depths a_ways s_z, caI G a_w 43 g_w, caI G a_laid 43 g_laid, caI G a_letters 96 g_letters] s.heap.size = A at hD ⊢
  have hA : ∀ q : Nat, s.heap.size ≤ q → A q := fun q h => by rw [← hAe]; exact Or.inr h
  have hS : va_S A s.heap s.heap [] := va_S.rf
  have hP : va_P G.1 vwCl [ceX11 h0 a_w a_kept a_laid s_hasImage a_refusals a_row s_rows a_letters s_lettered a_hit a_lead a_defeat a_defeater s_ins s_outs a_order s_ordered a_is a_was s_reading s_isWell a_depths a_ways s_z, caI G a_w 43 g_w, caI G a_laid 43 g_laid, caI G a_letters 96 g_letters] s.heap := hP
  have hl := lv_entry ([.ref h0]) (n := 3) (Nat.le_of_ble_eq_true rfl)
  rw [lg_entry_eq]
  generalize (lg_sl ([.ref h0]) ++ List.replicate (3 - (lg_sl ([.ref h0])).length) Slot.unset).toArray = ls at hl ⊢
  have hl : lv_has ls 3 [(0, .ref h0)] := hl
  have kf0 := hts (.fieldLink RX11 137 "HallOfClaimsModel" "reading" "I") (List.mem_of_getElem? (i := 1) (by decide +kernel))
  have kf1 := hts (.fieldLink RX11 133 "HallOfClaimsModel" "isWell" "Z") (List.mem_of_getElem? (i := 2) (by decide +kernel))
  have kf2 := hts (.fieldLink RX11 130 "HallOfClaimsModel" "lettered" "I") (List.mem_of_getElem? (i := 3) (by decide +kernel))
  have ki_X11 : ∀ w ∈ u_ws RX11 TX11 24, w ∈ wsX11_readsAll := by decide +kernel
  have w66 : ∀ (n : Nat) (v1 : Int32) (v2 : Int32) (g_w : Nat → Int32) (g_laid : Nat → Int32) (s_reading : Int32) (s_isWell : Int32) , wp_X11_readsAll_66 post g_letters s_lettered n v1 v2 g_w g_laid s_reading s_isWell → ∀ (H : Heap) (locs : List Loc) (ls : Array Slot), va_P G.1 vwCl [ceX11 h0 a_w a_kept a_laid s_hasImage a_refusals a_row s_rows a_letters s_lettered a_hit a_lead a_defeat a_defeater s_ins s_outs a_order s_ordered a_is a_was s_reading s_isWell a_depths a_ways s_z, caI G a_w 43 g_w, caI G a_laid 43 g_laid, caI G a_letters 96 g_letters] H → va_D A [ceX11 h0 a_w a_kept a_laid s_hasImage a_refusals a_row s_rows a_letters s_lettered a_hit a_lead a_defeat a_defeater s_ins s_outs a_order s_ordered a_is a_was s_reading s_isWell a_depths a_ways s_z, caI G a_w 43 g_w, caI G a_laid 43 g_laid, caI G a_letters 96 g_letters] → va_S A s.heap H locs → lv_has ls 3 [(0, .ref h0), (1, .int v1), (2, .int v2)] → W p l e (headSpec wsX11_readsAll ({ frames := 4, cells := 0, slots := 0, locals := 92 })).room s m ([.ref h0] : List Value).toArray below meth c H locs 0 0 (MQ below (va_Qi (fun (r : Int32) (u : (Nat → Int32) × (Nat → Int32) × Int32 × Int32) => post r u.1 u.2.1 u.2.2.1 u.2.2.2) (hcB G A (fun u : (Nat → Int32) × (Nat → Int32) × Int32 × Int32 => [ceX11 h0 a_w a_kept a_laid s_hasImage a_refusals a_row s_rows a_letters s_lettered a_hit a_lead a_defeat a_defeater s_ins s_outs a_order s_ordered a_is a_was u.2.2.1 u.2.2.2 a_depths a_ways s_z, caI G a_w 43 u.1, caI G a_laid 43 u.2.1, caI G a_letters 96 g_letters])) A) ([.ref h0] : List Value).toArray s 0 0 A) (F0 m 66 ls []) := by
    intro n
    induction n with
    | zero => intro v1 v2 g_w g_laid s_reading s_isWell h; exact h.elim
    | succ n ih =>
      intro v1 v2 g_w g_laid s_reading s_isWell h H locs ls hP hD hS hl
      unfold wp_X11_readsAll_66 at h
      refine lv_iload_n hx hb dX11_readsAll_66 rfl (lv_at hl 2 rfl) ?_
      refine lv_aload_n hx hb dX11_readsAll_67 rfl (lv_at hl 0 rfl) ?_
      refine va_get (D := G.1) (ci := 9) (v := .int s_lettered) (C := RX11) (T := TX11) (N := 24) hx hb hts ki_X11 hown hK.1 hP 0 rfl rfl 8 (by decide) kf2 (fun _ h9 => h9) rfl dX11_readsAll_68 ?_
      refine lv_icmp_ge (tgt := 101) hx hb dX11_readsAll_71 (by decide) (fun c => ?_) (fun c => ?_)
      · replace h := h.1 c
        refine lv_iload_n hx hb dX11_readsAll_101 rfl (lv_at hl 1 rfl) ?_
        exact W.iret (v := v1) hx hb hr (fun t ht hW => ⟨⟨_, ⟨g_w, g_laid, s_reading, s_isWell⟩, rfl, h, ⟨by rw [ht]; exact hP, hD⟩⟩, hS.F ht⟩) hS.2.2 dX11_readsAll_102
      · replace h := h.2 c
        refine lv_aload_n hx hb dX11_readsAll_74 rfl (lv_at hl 0 rfl) ?_
        refine lv_iload_n hx hb dX11_readsAll_75 rfl (lv_at hl 2 rfl) ?_
        refine hc_ki (wr := [caI G a_laid 43 g_laid]) (va_runV (As := [.int v2]) (rest := []) ⟨hx, hb, hml, hown, hts⟩ (c_X11_does l G h0 a_w a_kept a_laid a_refusals a_row a_letters a_hit a_lead a_defeat a_defeater a_order a_is a_was a_depths a_ways H.size s_hasImage s_rows s_lettered s_ins s_outs s_ordered s_reading s_isWell s_z g_w g_letters v2 _ h) (cwV 1 hts gX11_readsAll_X11_does rfl rfl rfl (by decide +kernel) ⟨Nat.le_of_ble_eq_true rfl, Nat.le_of_ble_eq_true rfl⟩) (hc_pV hK hP hD [0, 1, 3] rfl rfl (ci := 9) 0 rfl rfl) rfl rfl hl.1 rfl (lv_room (Nat.le_of_ble_eq_true rfl)) dX11_readsAll_76 ⟨Nat.le_refl _, Nat.le_refl _⟩) hP hD hS hA [0, 1, 3] [2] rfl rfl rfl (by decide) (fun r76 u H locs h hP hD hS => ?_)
        obtain ⟨g_w_76, rfl⟩ : ∃ z, z = u := ⟨_, rfl⟩
        try dsimp only at h
        have hP : va_P G.1 vwCl [caI G a_laid 43 g_laid, ceX11 h0 a_w a_kept a_laid s_hasImage a_refusals a_row s_rows a_letters s_lettered a_hit a_lead a_defeat a_defeater s_ins s_outs a_order s_ordered a_is a_was s_reading s_isWell a_depths a_ways s_z, caI G a_w 43 g_w_76, caI G a_letters 96 g_letters] H := hP
        have hD : va_D A [caI G a_laid 43 g_laid, ceX11 h0 a_w a_kept a_laid s_hasImage a_refusals a_row s_rows a_letters s_lettered a_hit a_lead a_defeat a_defeater s_ins s_outs a_order s_ordered a_is a_was s_reading s_isWell a_depths a_ways s_z, caI G a_w 43 g_w_76, caI G a_letters 96 g_letters] := hD
        refine lv_if_ne (tgt := 92) hx hb dX11_readsAll_79 (by decide) (fun c => ?_) (fun c => ?_)
        · replace h := h.1 c
          refine lv_aload_n hx hb dX11_readsAll_92 rfl (lv_at hl 0 rfl) ?_
          refine lv_iload_n hx hb dX11_readsAll_93 rfl (lv_at hl 2 rfl) ?_
          refine hc_ki (wr := [caI G a_laid 43 g_laid, caI G a_w 43 g_w_76]) (va_runV (As := [.int v2]) (rest := []) ⟨hx, hb, hml, hown, hts⟩ (c_X11_nextStatement l G h0 a_w a_kept a_laid a_refusals a_row a_letters a_hit a_lead a_defeat a_defeater a_order a_is a_was a_depths a_ways H.size s_hasImage s_rows s_lettered s_ins s_outs s_ordered s_reading s_isWell s_z g_letters v2 _ h) (cwV 1 hts gX11_readsAll_X11_nextStatement rfl rfl rfl (by decide +kernel) ⟨Nat.le_of_ble_eq_true rfl, Nat.le_of_ble_eq_true rfl⟩) (hc_pV hK hP hD [1, 3] rfl rfl (ci := 9) 1 rfl rfl) rfl rfl hl.1 rfl (lv_room (Nat.le_of_ble_eq_true rfl)) dX11_readsAll_94 ⟨Nat.le_refl _, Nat.le_refl _⟩) hP hD hS hA [1, 3] [0, 2] rfl rfl rfl (by decide) (fun r94 u H locs h hP hD hS => ?_)
          try dsimp only at h
          have hP : va_P G.1 vwCl [caI G a_laid 43 g_laid, caI G a_w 43 g_w_76, ceX11 h0 a_w a_kept a_laid s_hasImage a_refusals a_row s_rows a_letters s_lettered a_hit a_lead a_defeat a_defeater s_ins s_outs a_order s_ordered a_is a_was s_reading s_isWell a_depths a_ways s_z, caI G a_letters 96 g_letters] H := hP
          have hD : va_D A [caI G a_laid 43 g_laid, caI G a_w 43 g_w_76, ceX11 h0 a_w a_kept a_laid s_hasImage a_refusals a_row s_rows a_letters s_lettered a_hit a_lead a_defeat a_defeater s_ins s_outs a_order s_ordered a_is a_was s_reading s_isWell a_depths a_ways s_z, caI G a_letters 96 g_letters] := hD
          refine lv_istore_n (lv' := [(2, .int r94), (0, .ref h0), (1, .int v1)]) hx hb dX11_readsAll_97 rfl hl (by decide) rfl (fun ls hl => ?_)
          refine lv_goto (tgt := 66) hx hb dX11_readsAll_98 (by decide) ?_
          exact ih v1 r94 g_w_76 g_laid s_reading s_isWell h _ _ _ (hP.sub [2, 1, 0, 3] rfl) (hD.sub [2, 1, 0, 3] (by decide) rfl) hS (lv_sub hl [1, 2, 0] rfl)
        · replace h := h.2 c
          refine lv_aload_n hx hb dX11_readsAll_82 rfl (lv_at hl 0 rfl) ?_
          refine hc_kv (wr := [caI G a_letters 96 g_letters]) (va_runV (As := []) (rest := []) ⟨hx, hb, hml, hown, hts⟩ (c_X11_forgets l G h0 a_w a_kept a_laid a_refusals a_row a_letters a_hit a_lead a_defeat a_defeater a_order a_is a_was a_depths a_ways H.size s_hasImage s_rows s_lettered s_ins s_outs s_ordered s_reading s_isWell s_z g_w_76 g_laid _ h) (cwV 0 hts gX11_readsAll_X11_forgets rfl rfl rfl (by decide +kernel) ⟨Nat.le_of_ble_eq_true rfl, Nat.le_of_ble_eq_true rfl⟩) (hc_pV hK hP hD [1, 2, 0] rfl rfl (ci := 9) 1 rfl rfl) rfl rfl hl.1 rfl (lv_room (Nat.le_of_ble_eq_true rfl)) dX11_readsAll_83 ⟨Nat.le_refl _, Nat.le_refl _⟩) hP hD hS hA [1, 2, 0] [3] rfl rfl rfl (by decide) (fun u H locs h hP hD hS => ?_)
          obtain ⟨g_w_83, rfl⟩ : ∃ z, z = u := ⟨_, rfl⟩
          try dsimp only at h
          have hP : va_P G.1 vwCl [caI G a_letters 96 g_letters, ceX11 h0 a_w a_kept a_laid s_hasImage a_refusals a_row s_rows a_letters s_lettered a_hit a_lead a_defeat a_defeater s_ins s_outs a_order s_ordered a_is a_was s_reading s_isWell a_depths a_ways s_z, caI G a_w 43 g_w_83, caI G a_laid 43 g_laid] H := hP
          have hD : va_D A [caI G a_letters 96 g_letters, ceX11 h0 a_w a_kept a_laid s_hasImage a_refusals a_row s_rows a_letters s_lettered a_hit a_lead a_defeat a_defeater s_ins s_outs a_order s_ordered a_is a_was s_reading s_isWell a_depths a_ways s_z, caI G a_w 43 g_w_83, caI G a_laid 43 g_laid] := hD
          refine lv_sipush (v := (-2000 : Int32)) hx hb dX11_readsAll_86 ks_m2000 ?_
          refine lv_iload_n hx hb dX11_readsAll_89 rfl (lv_at hl 2 rfl) ?_
          refine lv_isub hx hb dX11_readsAll_90 ?_
          exact W.iret (v := ((-2000 : Int32)) - v2) hx hb hr (fun t ht hW => ⟨⟨_, ⟨g_w_83, g_laid, s_reading, s_isWell⟩, rfl, h, ⟨by rw [ht]; exact (hP.sub [1, 2, 3, 0] rfl), (hD.sub [1, 2, 3, 0] (by decide) rfl)⟩⟩, hS.F ht⟩) hS.2.2 dX11_readsAll_91
  have w44 : ∀ (v1 : Int32) (g_w : Nat → Int32) (g_laid : Nat → Int32) (s_reading : Int32) (s_isWell : Int32) , wp_X11_readsAll_44 post g_letters s_lettered v1 g_w g_laid s_reading s_isWell → ∀ (H : Heap) (locs : List Loc) (ls : Array Slot), va_P G.1 vwCl [ceX11 h0 a_w a_kept a_laid s_hasImage a_refusals a_row s_rows a_letters s_lettered a_hit a_lead a_defeat a_defeater s_ins s_outs a_order s_ordered a_is a_was s_reading s_isWell a_depths a_ways s_z, caI G a_w 43 g_w, caI G a_laid 43 g_laid, caI G a_letters 96 g_letters] H → va_D A [ceX11 h0 a_w a_kept a_laid s_hasImage a_refusals a_row s_rows a_letters s_lettered a_hit a_lead a_defeat a_defeater s_ins s_outs a_order s_ordered a_is a_was s_reading s_isWell a_depths a_ways s_z, caI G a_w 43 g_w, caI G a_laid 43 g_laid, caI G a_letters 96 g_letters] → va_S A s.heap H locs → lv_has ls 3 [(0, .ref h0), (1, .int v1)] → W p l e (headSpec wsX11_readsAll ({ frames := 4, cells := 0, slots := 0, locals := 92 })).room s m ([.ref h0] : List Value).toArray below meth c H locs 0 0 (MQ below (va_Qi (fun (r : Int32) (u : (Nat → Int32) × (Nat → Int32) × Int32 × Int32) => post r u.1 u.2.1 u.2.2.1 u.2.2.2) (hcB G A (fun u : (Nat → Int32) × (Nat → Int32) × Int32 × Int32 => [ceX11 h0 a_w a_kept a_laid s_hasImage a_refusals a_row s_rows a_letters s_lettered a_hit a_lead a_defeat a_defeater s_ins s_outs a_order s_ordered a_is a_was u.2.2.1 u.2.2.2 a_depths a_ways s_z, caI G a_w 43 u.1, caI G a_laid 43 u.2.1, caI G a_letters 96 g_letters])) A) ([.ref h0] : List Value).toArray s 0 0 A) (F0 m 44 ls []) := by
    intro v1 g_w g_laid s_reading s_isWell h H locs ls hP hD hS hl
    unfold wp_X11_readsAll_44 at h
    refine lv_aload_n hx hb dX11_readsAll_44 rfl (lv_at hl 0 rfl) ?_
    refine va_get (D := G.1) (ci := 9) (v := .int s_isWell) (C := RX11) (T := TX11) (N := 24) hx hb hts ki_X11 hown hK.1 hP 0 rfl rfl 20 (by decide) kf1 (fun _ h9 => h9) rfl dX11_readsAll_45 ?_
    refine lv_if_ne (tgt := 60) hx hb dX11_readsAll_48 (by decide) (fun c => ?_) (fun c => ?_)
    · replace h := h.1 c
      refine lv_aload_n hx hb dX11_readsAll_60 rfl (lv_at hl 0 rfl) ?_
      refine hc_kv (wr := [caI G a_letters 96 g_letters]) (va_runV (As := []) (rest := []) ⟨hx, hb, hml, hown, hts⟩ (c_X11_minds l G h0 a_w a_kept a_laid a_refusals a_row a_letters a_hit a_lead a_defeat a_defeater a_order a_is a_was a_depths a_ways H.size s_hasImage s_rows s_lettered s_ins s_outs s_ordered s_reading s_isWell s_z g_w g_laid _ h) (cwV 0 hts gX11_readsAll_X11_minds rfl rfl rfl (by decide +kernel) ⟨Nat.le_of_ble_eq_true rfl, Nat.le_of_ble_eq_true rfl⟩) (hc_pV hK hP hD [0, 1, 2] rfl rfl (ci := 9) 0 rfl rfl) rfl rfl hl.1 rfl (lv_room (Nat.le_of_ble_eq_true rfl)) dX11_readsAll_61 ⟨Nat.le_refl _, Nat.le_refl _⟩) hP hD hS hA [0, 1, 2] [3] rfl rfl rfl (by decide) (fun u H locs h hP hD hS => ?_)
      obtain ⟨g_laid_61, rfl⟩ : ∃ z, z = u := ⟨_, rfl⟩
      try dsimp only at h
      have hP : va_P G.1 vwCl [caI G a_letters 96 g_letters, ceX11 h0 a_w a_kept a_laid s_hasImage a_refusals a_row s_rows a_letters s_lettered a_hit a_lead a_defeat a_defeater s_ins s_outs a_order s_ordered a_is a_was s_reading s_isWell a_depths a_ways s_z, caI G a_w 43 g_w, caI G a_laid 43 g_laid_61] H := hP
      have hD : va_D A [caI G a_letters 96 g_letters, ceX11 h0 a_w a_kept a_laid s_hasImage a_refusals a_row s_rows a_letters s_lettered a_hit a_lead a_defeat a_defeater s_ins s_outs a_order s_ordered a_is a_was s_reading s_isWell a_depths a_ways s_z, caI G a_w 43 g_w, caI G a_laid 43 g_laid_61] := hD
      refine lv_iconst (v := nI 0) hx hb dX11_readsAll_64 kc_0 ?_
      refine lv_istore_n (lv' := [(2, .int (nI 0)), (0, .ref h0), (1, .int v1)]) hx hb dX11_readsAll_65 rfl hl (by decide) rfl (fun ls hl => ?_)
      obtain ⟨n66, h⟩ := h
      exact w66  n66 v1 (nI 0) g_w g_laid_61 s_reading s_isWell h _ _ _ (hP.sub [1, 2, 3, 0] rfl) (hD.sub [1, 2, 3, 0] (by decide) rfl) hS (lv_sub hl [1, 2, 0] rfl)
    · replace h := h.2 c
      refine lv_sipush (v := (-1000 : Int32)) hx hb dX11_readsAll_51 ks_m1000 ?_
      refine lv_aload_n hx hb dX11_readsAll_54 rfl (lv_at hl 0 rfl) ?_
      refine va_get (D := G.1) (ci := 9) (v := .int s_reading) (C := RX11) (T := TX11) (N := 24) hx hb hts ki_X11 hown hK.1 hP 0 rfl rfl 19 (by decide) kf0 (fun _ h9 => h9) rfl dX11_readsAll_55 ?_
      refine lv_isub hx hb dX11_readsAll_58 ?_
      exact W.iret (v := ((-1000 : Int32)) - s_reading) hx hb hr (fun t ht hW => ⟨⟨_, ⟨g_w, g_laid, s_reading, s_isWell⟩, rfl, h, ⟨by rw [ht]; exact hP, hD⟩⟩, hS.F ht⟩) hS.2.2 dX11_readsAll_59
  have w12 : ∀ (n : Nat) (v1 : Int32) (g_w : Nat → Int32) (g_laid : Nat → Int32) (s_reading : Int32) (s_isWell : Int32) , wp_X11_readsAll_12 post g_letters s_lettered n v1 g_w g_laid s_reading s_isWell → ∀ (H : Heap) (locs : List Loc) (ls : Array Slot), va_P G.1 vwCl [ceX11 h0 a_w a_kept a_laid s_hasImage a_refusals a_row s_rows a_letters s_lettered a_hit a_lead a_defeat a_defeater s_ins s_outs a_order s_ordered a_is a_was s_reading s_isWell a_depths a_ways s_z, caI G a_w 43 g_w, caI G a_laid 43 g_laid, caI G a_letters 96 g_letters] H → va_D A [ceX11 h0 a_w a_kept a_laid s_hasImage a_refusals a_row s_rows a_letters s_lettered a_hit a_lead a_defeat a_defeater s_ins s_outs a_order s_ordered a_is a_was s_reading s_isWell a_depths a_ways s_z, caI G a_w 43 g_w, caI G a_laid 43 g_laid, caI G a_letters 96 g_letters] → va_S A s.heap H locs → lv_has ls 3 [(0, .ref h0), (1, .int v1)] → W p l e (headSpec wsX11_readsAll ({ frames := 4, cells := 0, slots := 0, locals := 92 })).room s m ([.ref h0] : List Value).toArray below meth c H locs 0 0 (MQ below (va_Qi (fun (r : Int32) (u : (Nat → Int32) × (Nat → Int32) × Int32 × Int32) => post r u.1 u.2.1 u.2.2.1 u.2.2.2) (hcB G A (fun u : (Nat → Int32) × (Nat → Int32) × Int32 × Int32 => [ceX11 h0 a_w a_kept a_laid s_hasImage a_refusals a_row s_rows a_letters s_lettered a_hit a_lead a_defeat a_defeater s_ins s_outs a_order s_ordered a_is a_was u.2.2.1 u.2.2.2 a_depths a_ways s_z, caI G a_w 43 u.1, caI G a_laid 43 u.2.1, caI G a_letters 96 g_letters])) A) ([.ref h0] : List Value).toArray s 0 0 A) (F0 m 12 ls []) := by
    intro n
    induction n with
    | zero => intro v1 g_w g_laid s_reading s_isWell h; exact h.elim
    | succ n ih =>
      intro v1 g_w g_laid s_reading s_isWell h H locs ls hP hD hS hl
      unfold wp_X11_readsAll_12 at h
      refine lv_aload_n hx hb dX11_readsAll_12 rfl (lv_at hl 0 rfl) ?_
      refine va_get (D := G.1) (ci := 9) (v := .int s_isWell) (C := RX11) (T := TX11) (N := 24) hx hb hts ki_X11 hown hK.1 hP 0 rfl rfl 20 (by decide) kf1 (fun _ h9 => h9) rfl dX11_readsAll_13 ?_
      refine lv_if_eq (tgt := 44) hx hb dX11_readsAll_16 (by decide) (fun c => ?_) (fun c => ?_)
      · replace h := h.1 c
        exact w44  v1 g_w g_laid s_reading s_isWell h _ _ _ hP hD hS (lv_sub hl [0, 1] rfl)
      · replace h := h.2 c
        refine lv_iload_n hx hb dX11_readsAll_19 rfl (lv_at hl 1 rfl) ?_
        refine lv_if_eq (tgt := 34) hx hb dX11_readsAll_20 (by decide) (fun c => ?_) (fun c => ?_)
        · replace h := h.1 c
          refine lv_aload_n hx hb dX11_readsAll_34 rfl (lv_at hl 0 rfl) ?_
          refine hc_kv (wr := [caI G a_w 43 g_w, caI G a_laid 43 g_laid]) (va_runV (As := []) (rest := []) ⟨hx, hb, hml, hown, hts⟩ (c_X11_goesThrough l G h0 a_w a_kept a_laid a_refusals a_row a_letters a_hit a_lead a_defeat a_defeater a_order a_is a_was a_depths a_ways H.size s_hasImage s_rows s_lettered s_ins s_outs s_ordered s_reading s_isWell s_z g_letters _ h) (cwV 0 hts gX11_readsAll_X11_goesThrough rfl rfl rfl (by decide +kernel) ⟨Nat.le_of_ble_eq_true rfl, Nat.le_of_ble_eq_true rfl⟩) (hc_pV hK hP hD [0, 3] rfl rfl (ci := 9) 0 rfl rfl) rfl rfl hl.1 rfl (lv_room (Nat.le_of_ble_eq_true rfl)) dX11_readsAll_35 ⟨Nat.le_refl _, Nat.le_refl _⟩) hP hD hS hA [0, 3] [1, 2] rfl rfl rfl (by decide) (fun u H locs h hP hD hS => ?_)
          obtain ⟨s_reading_35, s_isWell_35⟩ := u
          try dsimp only at h
          have hP : va_P G.1 vwCl [caI G a_w 43 g_w, caI G a_laid 43 g_laid, ceX11 h0 a_w a_kept a_laid s_hasImage a_refusals a_row s_rows a_letters s_lettered a_hit a_lead a_defeat a_defeater s_ins s_outs a_order s_ordered a_is a_was s_reading_35 s_isWell_35 a_depths a_ways s_z, caI G a_letters 96 g_letters] H := hP
          have hD : va_D A [caI G a_w 43 g_w, caI G a_laid 43 g_laid, ceX11 h0 a_w a_kept a_laid s_hasImage a_refusals a_row s_rows a_letters s_lettered a_hit a_lead a_defeat a_defeater s_ins s_outs a_order s_ordered a_is a_was s_reading_35 s_isWell_35 a_depths a_ways s_z, caI G a_letters 96 g_letters] := hD
          refine lv_iinc (v := v1 + nI 1) (lv' := [(1, .int (v1 + nI 1)), (0, .ref h0)]) hx hb dX11_readsAll_38 hl (k := 1) rfl (congrArg (fun q => v1 + q) kc_1) (by decide) rfl (fun ls hl => ?_)
          refine lv_goto (tgt := 12) hx hb dX11_readsAll_41 (by decide) ?_
          exact ih (v1 + nI 1) g_w g_laid s_reading_35 s_isWell_35 h _ _ _ (hP.sub [2, 0, 1, 3] rfl) (hD.sub [2, 0, 1, 3] (by decide) rfl) hS (lv_sub hl [1, 0] rfl)
        · replace h := h.2 c
          refine lv_aload_n hx hb dX11_readsAll_23 rfl (lv_at hl 0 rfl) ?_
          refine va_get (D := G.1) (ci := 9) (v := .int s_reading) (C := RX11) (T := TX11) (N := 24) hx hb hts ki_X11 hown hK.1 hP 0 rfl rfl 19 (by decide) kf0 (fun _ h9 => h9) rfl dX11_readsAll_24 ?_
          refine lv_aload_n hx hb dX11_readsAll_27 rfl (lv_at hl 0 rfl) ?_
          refine va_get (D := G.1) (ci := 9) (v := .int s_lettered) (C := RX11) (T := TX11) (N := 24) hx hb hts ki_X11 hown hK.1 hP 0 rfl rfl 8 (by decide) kf2 (fun _ h9 => h9) rfl dX11_readsAll_28 ?_
          refine lv_icmp_ge (tgt := 44) hx hb dX11_readsAll_31 (by decide) (fun c => ?_) (fun c => ?_)
          · replace h := h.1 c
            exact w44  v1 g_w g_laid s_reading s_isWell h _ _ _ hP hD hS (lv_sub hl [0, 1] rfl)
          · replace h := h.2 c
            refine lv_aload_n hx hb dX11_readsAll_34 rfl (lv_at hl 0 rfl) ?_
            refine hc_kv (wr := [caI G a_w 43 g_w, caI G a_laid 43 g_laid]) (va_runV (As := []) (rest := []) ⟨hx, hb, hml, hown, hts⟩ (c_X11_goesThrough l G h0 a_w a_kept a_laid a_refusals a_row a_letters a_hit a_lead a_defeat a_defeater a_order a_is a_was a_depths a_ways H.size s_hasImage s_rows s_lettered s_ins s_outs s_ordered s_reading s_isWell s_z g_letters _ h) (cwV 0 hts gX11_readsAll_X11_goesThrough rfl rfl rfl (by decide +kernel) ⟨Nat.le_of_ble_eq_true rfl, Nat.le_of_ble_eq_true rfl⟩) (hc_pV hK hP hD [0, 3] rfl rfl (ci := 9) 0 rfl rfl) rfl rfl hl.1 rfl (lv_room (Nat.le_of_ble_eq_true rfl)) dX11_readsAll_35 ⟨Nat.le_refl _, Nat.le_refl _⟩) hP hD hS hA [0, 3] [1, 2] rfl rfl rfl (by decide) (fun u H locs h hP hD hS => ?_)
            obtain ⟨s_reading_35, s_isWell_35⟩ := u
            try dsimp only at h
            have hP : va_P G.1 vwCl [caI G a_w 43 g_w, caI G a_laid 43 g_laid, ceX11 h0 a_w a_kept a_laid s_hasImage a_refusals a_row s_rows a_letters s_lettered a_hit a_lead a_defeat a_defeater s_ins s_outs a_order s_ordered a_is a_was s_reading_35 s_isWell_35 a_depths a_ways s_z, caI G a_letters 96 g_letters] H := hP
            have hD : va_D A [caI G a_w 43 g_w, caI G a_laid 43 g_laid, ceX11 h0 a_w a_kept a_laid s_hasImage a_refusals a_row s_rows a_letters s_lettered a_hit a_lead a_defeat a_defeater s_ins s_outs a_order s_ordered a_is a_was s_reading_35 s_isWell_35 a_depths a_ways s_z, caI G a_letters 96 g_letters] := hD
            refine lv_iinc (v := v1 + nI 1) (lv' := [(1, .int (v1 + nI 1)), (0, .ref h0)]) hx hb dX11_readsAll_38 hl (k := 1) rfl (congrArg (fun q => v1 + q) kc_1) (by decide) rfl (fun ls hl => ?_)
            refine lv_goto (tgt := 12) hx hb dX11_readsAll_41 (by decide) ?_
            exact ih (v1 + nI 1) g_w g_laid s_reading_35 s_isWell_35 h _ _ _ (hP.sub [2, 0, 1, 3] rfl) (hD.sub [2, 0, 1, 3] (by decide) rfl) hS (lv_sub hl [1, 0] rfl)
  unfold wp_X11_readsAll at h
  refine lv_aload_n hx hb dX11_readsAll_0 rfl (lv_at hl 0 rfl) ?_
  refine lv_iconst (v := nI 0) hx hb dX11_readsAll_1 kc_0 ?_
  refine va_put (D := G.1) (ci := 9) (v := .int (nI 0)) (ty := .int) (C := RX11) (T := TX11) (N := 24) hx hb hts ki_X11 tyX11 tyX11_ok nmX11 hown hK.1 hP hD hS 0 rfl rfl 19 (by decide) kf0 (fun _ h9 => h9) rfl (by decide +kernel) rfl rfl (Nat.le_of_ble_eq_true rfl) dX11_readsAll_2 (fun H locs hP hD hS => ?_)
  have hP : va_P G.1 vwCl [ceX11 h0 a_w a_kept a_laid s_hasImage a_refusals a_row s_rows a_letters s_lettered a_hit a_lead a_defeat a_defeater s_ins s_outs a_order s_ordered a_is a_was (nI 0) s_isWell a_depths a_ways s_z, caI G a_w 43 g_w, caI G a_laid 43 g_laid, caI G a_letters 96 g_letters] H := hP
  have hD : va_D A [ceX11 h0 a_w a_kept a_laid s_hasImage a_refusals a_row s_rows a_letters s_lettered a_hit a_lead a_defeat a_defeater s_ins s_outs a_order s_ordered a_is a_was (nI 0) s_isWell a_depths a_ways s_z, caI G a_w 43 g_w, caI G a_laid 43 g_laid, caI G a_letters 96 g_letters] := hD
  refine lv_aload_n hx hb dX11_readsAll_5 rfl (lv_at hl 0 rfl) ?_
  refine lv_iconst (v := nI 1) hx hb dX11_readsAll_6 kc_1 ?_
  refine va_put (D := G.1) (ci := 9) (v := .int (nI 1)) (ty := .boolean) (C := RX11) (T := TX11) (N := 24) hx hb hts ki_X11 tyX11 tyX11_ok nmX11 hown hK.1 hP hD hS 0 rfl rfl 20 (by decide) kf1 (fun _ h9 => h9) rfl (by decide +kernel) rfl rfl (Nat.le_of_ble_eq_true rfl) dX11_readsAll_7 (fun H locs hP hD hS => ?_)
  have hP : va_P G.1 vwCl [ceX11 h0 a_w a_kept a_laid s_hasImage a_refusals a_row s_rows a_letters s_lettered a_hit a_lead a_defeat a_defeater s_ins s_outs a_order s_ordered a_is a_was (nI 0) (nI 1) a_depths a_ways s_z, caI G a_w 43 g_w, caI G a_laid 43 g_laid, caI G a_letters 96 g_letters] H := hP
  have hD : va_D A [ceX11 h0 a_w a_kept a_laid s_hasImage a_refusals a_row s_rows a_letters s_lettered a_hit a_lead a_defeat a_defeater s_ins s_outs a_order s_ordered a_is a_was (nI 0) (nI 1) a_depths a_ways s_z, caI G a_w 43 g_w, caI G a_laid 43 g_laid, caI G a_letters 96 g_letters] := hD
  refine lv_iconst (v := nI 0) hx hb dX11_readsAll_10 kc_0 ?_
  refine lv_istore_n (lv' := [(1, .int (nI 0)), (0, .ref h0)]) hx hb dX11_readsAll_11 rfl hl (by decide) rfl (fun ls hl => ?_)
  obtain ⟨n12, h⟩ := h
  exact w12  n12 (nI 0) g_w g_laid (nI 0) (nI 1) h _ _ _ hP hD hS (lv_sub hl [1, 0] rfl)
set_option maxHeartbeats 4000000 in
set_option maxRecDepth 100000 in
theorem c_X11_letter (l : Launch) (G : hcG) (h0 : Nat) (a_w : Nat) (a_kept : Nat) (a_laid : Nat) (a_refusals : Nat) (a_row : Nat) (a_letters : Nat) (a_hit : Nat) (a_lead : Nat) (a_defeat : Nat) (a_defeater : Nat) (a_order : Nat) (a_is : Nat) (a_was : Nat) (a_depths : Nat) (a_ways : Nat) (sz : Nat) (s_hasImage : Int32) (s_rows : Int32) (s_lettered : Int32) (s_ins : Int32) (s_outs : Int32) (s_ordered : Int32) (s_reading : Int32) (s_isWell : Int32) (s_z : Int32) (g_refusals : Nat → Int32) (g_letters : Nat → Int32) (x1 : Int32) (post : Int32 → (Nat → Int32) → (Nat → Int32) → Int32 → Prop) (h : wp_X11_letter post g_refusals g_letters s_lettered x1) : Met l yX11_letter wsX11_letter ({ frames := 1, cells := 0, slots := 0, locals := 25 }) (hcPc G [.ref h0, .int x1] [ceX11 h0 a_w a_kept a_laid s_hasImage a_refusals a_row s_rows a_letters s_lettered a_hit a_lead a_defeat a_defeater s_ins s_outs a_order s_ordered a_is a_was s_reading s_isWell a_depths a_ways s_z, caI G a_refusals 7 g_refusals, caI G a_letters 96 g_letters] sz) (va_Qi (fun (r : Int32) (u : (Nat → Int32) × (Nat → Int32) × Int32) => post r u.1 u.2.1 u.2.2) (hcB G (va_A [ceX11 h0 a_w a_kept a_laid s_hasImage a_refusals a_row s_rows a_letters s_lettered a_hit a_lead a_defeat a_defeater s_ins s_outs a_order s_ordered a_is a_was s_reading s_isWell a_depths a_ways s_z, caI G a_refusals 7 g_refusals, caI G a_letters 96 g_letters] sz) (fun u : (Nat → Int32) × (Nat → Int32) × Int32 => [ceX11 h0 a_w a_kept a_laid s_hasImage a_refusals a_row s_rows a_letters u.2.2 a_hit a_lead a_defeat a_defeater s_ins s_outs a_order s_ordered a_is a_was s_reading s_isWell a_depths a_ways s_z, caI G a_refusals 7 u.1, caI G a_letters 96 u.2.1])) (va_A [ceX11 h0 a_w a_kept a_laid s_hasImage a_refusals a_row s_rows a_letters s_lettered a_hit a_lead a_defeat a_defeater s_ins s_outs a_order s_ordered a_is a_was s_reading s_isWell a_depths a_ways s_z, caI G a_refusals 7 g_refusals, caI G a_letters 96 g_letters] sz)) 0 0 (va_A [ceX11 h0 a_w a_kept a_laid s_hasImage a_refusals a_row s_rows a_letters s_lettered a_hit a_lead a_defeat a_defeater s_ins s_outs a_order s_ordered a_is a_was s_reading s_isWell a_depths a_ways s_z, caI G a_refusals 7 g_refusals, caI G a_letters 96 g_letters] sz) := by
  refine Met.ofW (cc := cX11_letter) (maxL := 2) (ret := (some .int)) (by decide) rfl ?_
  intro p e s m args below meth c s₁ B hml hv
  obtain ⟨rfl, hsz, hP, hK, hD0⟩ := hv
  have hx := B.exec
  have hb := B.bytes
  have hr := B.returns
  have hts := atoms_spec (ws := wsX11_letter) B.pre
  have hown : s.vm.findClass RX11 = some m.cls := findClass_of_methodNamed B.named
  have hlocks := B.notSynchronized
  subst hsz
  have hD := hD0.self (sz := s.heap.size)
  generalize hAe : va_A [ceX11 h0 a_w a_kept a_laid s_hasImage a_refusals a_row s_rows a_letters s_lettered a_hit a_lead a_defeat a_defeater s_ins s_outs a_order s_ordered a_is a_was s_reading s_isWell a_depths a_ways s_z, caI G a_refusals 7 g_refusals, caI G a_letters 96 g_letters] s.heap.size = A at hD ⊢
  have hA : ∀ q : Nat, s.heap.size ≤ q → A q := fun q h => by rw [← hAe]; exact Or.inr h
  have hS : va_S A s.heap s.heap [] := va_S.rf
  have hP : va_P G.1 vwCl [ceX11 h0 a_w a_kept a_laid s_hasImage a_refusals a_row s_rows a_letters s_lettered a_hit a_lead a_defeat a_defeater s_ins s_outs a_order s_ordered a_is a_was s_reading s_isWell a_depths a_ways s_z, caI G a_refusals 7 g_refusals, caI G a_letters 96 g_letters] s.heap := hP
  have hl := lv_entry ([.ref h0, .int x1]) (n := 2) (Nat.le_of_ble_eq_true rfl)
  rw [lg_entry_eq]
  generalize (lg_sl ([.ref h0, .int x1]) ++ List.replicate (2 - (lg_sl ([.ref h0, .int x1])).length) Slot.unset).toArray = ls at hl ⊢
  have hl : lv_has ls 2 [(0, .ref h0), (1, .int x1)] := hl
  have kf0 := hts (.constantLong RX11 198 (255)) (List.mem_of_getElem? (i := 1) (by decide +kernel))
  have kf1 := hts (.fieldLink RX11 130 "HallOfClaimsModel" "lettered" "I") (List.mem_of_getElem? (i := 2) (by decide +kernel))
  have kf2 := hts (.fieldLink RX11 25 "HallOfClaimsModel" "letters" "[I") (List.mem_of_getElem? (i := 3) (by decide +kernel))
  have ki_X11 : ∀ w ∈ u_ws RX11 TX11 24, w ∈ wsX11_letter := by decide +kernel
  unfold wp_X11_letter at h
  refine lv_iload_n hx hb dX11_letter_0 rfl (lv_at hl 1 rfl) ?_
  refine lv_i2l (v := x1.toInt64) hx hb dX11_letter_1 rfl ?_
  refine lv_lconst (v := lN 0) hx hb dX11_letter_2 kl_0 ?_
  refine lv_ldc2 (own := RX11) (v := 255) hx hb hown kf0 dX11_letter_3 ?_
  refine hc_ki (wr := [ceX11 h0 a_w a_kept a_laid s_hasImage a_refusals a_row s_rows a_letters s_lettered a_hit a_lead a_defeat a_defeater s_ins s_outs a_order s_ordered a_is a_was s_reading s_isWell a_depths a_ways s_z, caI G a_refusals 7 g_refusals, caI G a_letters 96 g_letters]) (va_runS (As := [.long x1.toInt64, .long (lN 0), .long ((255 : Int64))]) (rest := []) ⟨hx, hb, hml, hown, hts⟩ (c_X11_in l G s.heap.size x1.toInt64 (lN 0) ((255 : Int64)) _ h) (va_cwS 3 hts gX11_letter_X11_in rfl rfl rfl (by decide +kernel) ⟨Nat.le_of_ble_eq_true rfl, Nat.le_of_ble_eq_true rfl⟩) (hc_pS hK hP hD [] rfl rfl) rfl rfl hl.1 rfl (lv_room (Nat.le_of_ble_eq_true rfl)) dX11_letter_6 ⟨Nat.le_refl _, Nat.le_refl _⟩) hP hD hS hA [] [0, 1, 2] rfl rfl rfl (by decide) (fun r6 u H locs h hP hD hS => ?_)
  try dsimp only at h
  have hP : va_P G.1 vwCl [ceX11 h0 a_w a_kept a_laid s_hasImage a_refusals a_row s_rows a_letters s_lettered a_hit a_lead a_defeat a_defeater s_ins s_outs a_order s_ordered a_is a_was s_reading s_isWell a_depths a_ways s_z, caI G a_refusals 7 g_refusals, caI G a_letters 96 g_letters] H := hP
  have hD : va_D A [ceX11 h0 a_w a_kept a_laid s_hasImage a_refusals a_row s_rows a_letters s_lettered a_hit a_lead a_defeat a_defeater s_ins s_outs a_order s_ordered a_is a_was s_reading s_isWell a_depths a_ways s_z, caI G a_refusals 7 g_refusals, caI G a_letters 96 g_letters] := hD
  refine lv_if_ne (tgt := 28) hx hb dX11_letter_9 (by decide) (fun c => ?_) (fun c => ?_)
  · replace h := h.1 c
    refine lv_aload_n hx hb dX11_letter_28 rfl (lv_at hl 0 rfl) ?_
    refine va_get (D := G.1) (ci := 9) (v := .int s_lettered) (C := RX11) (T := TX11) (N := 24) hx hb hts ki_X11 hown hK.1 hP 0 rfl rfl 8 (by decide) kf1 (fun _ h9 => h9) rfl dX11_letter_29 ?_
    refine lv_bipush (v := nI 96) hx hb dX11_letter_32 kb_96 ?_
    refine lv_icmp_ne (tgt := 44) hx hb dX11_letter_34 (by decide) (fun c => ?_) (fun c => ?_)
    · replace h := h.1 c
      refine lv_aload_n hx hb dX11_letter_44 rfl (lv_at hl 0 rfl) ?_
      refine va_get (D := G.1) (ci := 9) (v := .ref a_letters) (C := RX11) (T := TX11) (N := 24) hx hb hts ki_X11 hown hK.1 hP 0 rfl rfl 7 (by decide) kf2 (fun _ h9 => h9) rfl dX11_letter_45 ?_
      refine lv_aload_n hx hb dX11_letter_48 rfl (lv_at hl 0 rfl) ?_
      refine va_get (D := G.1) (ci := 9) (v := .int s_lettered) (C := RX11) (T := TX11) (N := 24) hx hb hts ki_X11 hown hK.1 hP 0 rfl rfl 8 (by decide) kf1 (fun _ h9 => h9) rfl dX11_letter_49 ?_
      refine lv_iload_n hx hb dX11_letter_52 rfl (lv_at hl 1 rfl) ?_
      have hin := h.1
      replace h := h.2
      refine va_iast hx hb hK.1 hP hD hS 2 0 rfl rfl hin dX11_letter_53 (fun H locs hP hD hS => ?_)
      have hP : va_P G.1 vwCl [ceX11 h0 a_w a_kept a_laid s_hasImage a_refusals a_row s_rows a_letters s_lettered a_hit a_lead a_defeat a_defeater s_ins s_outs a_order s_ordered a_is a_was s_reading s_isWell a_depths a_ways s_z, caI G a_refusals 7 g_refusals, caI G a_letters 96 (upd g_letters s_lettered.toNatClampNeg x1)] H := hP
      have hD : va_D A [ceX11 h0 a_w a_kept a_laid s_hasImage a_refusals a_row s_rows a_letters s_lettered a_hit a_lead a_defeat a_defeater s_ins s_outs a_order s_ordered a_is a_was s_reading s_isWell a_depths a_ways s_z, caI G a_refusals 7 g_refusals, caI G a_letters 96 (upd g_letters s_lettered.toNatClampNeg x1)] := hD
      refine lv_aload_n hx hb dX11_letter_54 rfl (lv_at hl 0 rfl) ?_
      refine lv_dup hx hb dX11_letter_55 rfl ?_
      refine va_get (D := G.1) (ci := 9) (v := .int s_lettered) (C := RX11) (T := TX11) (N := 24) hx hb hts ki_X11 hown hK.1 hP 0 rfl rfl 8 (by decide) kf1 (fun _ h9 => h9) rfl dX11_letter_56 ?_
      refine lv_iconst (v := nI 1) hx hb dX11_letter_59 kc_1 ?_
      refine lv_iadd hx hb dX11_letter_60 ?_
      refine va_put (D := G.1) (ci := 9) (v := .int (s_lettered + (nI 1))) (ty := .int) (C := RX11) (T := TX11) (N := 24) hx hb hts ki_X11 tyX11 tyX11_ok nmX11 hown hK.1 hP hD hS 0 rfl rfl 8 (by decide) kf1 (fun _ h9 => h9) rfl (by decide +kernel) rfl rfl (Nat.le_of_ble_eq_true rfl) dX11_letter_61 (fun H locs hP hD hS => ?_)
      have hP : va_P G.1 vwCl [ceX11 h0 a_w a_kept a_laid s_hasImage a_refusals a_row s_rows a_letters (s_lettered + (nI 1)) a_hit a_lead a_defeat a_defeater s_ins s_outs a_order s_ordered a_is a_was s_reading s_isWell a_depths a_ways s_z, caI G a_refusals 7 g_refusals, caI G a_letters 96 (upd g_letters s_lettered.toNatClampNeg x1)] H := hP
      have hD : va_D A [ceX11 h0 a_w a_kept a_laid s_hasImage a_refusals a_row s_rows a_letters (s_lettered + (nI 1)) a_hit a_lead a_defeat a_defeater s_ins s_outs a_order s_ordered a_is a_was s_reading s_isWell a_depths a_ways s_z, caI G a_refusals 7 g_refusals, caI G a_letters 96 (upd g_letters s_lettered.toNatClampNeg x1)] := hD
      refine lv_aload_n hx hb dX11_letter_64 rfl (lv_at hl 0 rfl) ?_
      refine va_get (D := G.1) (ci := 9) (v := .int (s_lettered + (nI 1))) (C := RX11) (T := TX11) (N := 24) hx hb hts ki_X11 hown hK.1 hP 0 rfl rfl 8 (by decide) kf1 (fun _ h9 => h9) rfl dX11_letter_65 ?_
      exact W.iret (v := s_lettered + (nI 1)) hx hb hr (fun t ht hW => ⟨⟨_, ⟨g_refusals, (upd g_letters s_lettered.toNatClampNeg x1), (s_lettered + (nI 1))⟩, rfl, h, ⟨by rw [ht]; exact hP, hD⟩⟩, hS.F ht⟩) hS.2.2 dX11_letter_68
    · replace h := h.2 c
      refine lv_aload_n hx hb dX11_letter_37 rfl (lv_at hl 0 rfl) ?_
      refine lv_bipush (v := (-6 : Int32)) hx hb dX11_letter_38 kb_m6 ?_
      refine hc_ki (wr := [caI G a_letters 96 g_letters]) (va_runV (As := [.int ((-6 : Int32))]) (rest := []) ⟨hx, hb, hml, hown, hts⟩ (c_X11_refused l G h0 a_w a_kept a_laid a_refusals a_row a_letters a_hit a_lead a_defeat a_defeater a_order a_is a_was a_depths a_ways H.size s_hasImage s_rows s_lettered s_ins s_outs s_ordered s_reading s_isWell s_z g_refusals ((-6 : Int32)) _ h) (cwV 1 hts gX11_letter_X11_refused rfl rfl rfl (by decide +kernel) ⟨Nat.le_of_ble_eq_true rfl, Nat.le_of_ble_eq_true rfl⟩) (hc_pV hK hP hD [0, 1] rfl rfl (ci := 9) 0 rfl rfl) rfl rfl hl.1 rfl (lv_room (Nat.le_of_ble_eq_true rfl)) dX11_letter_40 ⟨Nat.le_refl _, Nat.le_refl _⟩) hP hD hS hA [0, 1] [2] rfl rfl rfl (by decide) (fun r40 u H locs h hP hD hS => ?_)
      obtain ⟨g_refusals_40, rfl⟩ : ∃ z, z = u := ⟨_, rfl⟩
      try dsimp only at h
      have hP : va_P G.1 vwCl [caI G a_letters 96 g_letters, ceX11 h0 a_w a_kept a_laid s_hasImage a_refusals a_row s_rows a_letters s_lettered a_hit a_lead a_defeat a_defeater s_ins s_outs a_order s_ordered a_is a_was s_reading s_isWell a_depths a_ways s_z, caI G a_refusals 7 g_refusals_40] H := hP
      have hD : va_D A [caI G a_letters 96 g_letters, ceX11 h0 a_w a_kept a_laid s_hasImage a_refusals a_row s_rows a_letters s_lettered a_hit a_lead a_defeat a_defeater s_ins s_outs a_order s_ordered a_is a_was s_reading s_isWell a_depths a_ways s_z, caI G a_refusals 7 g_refusals_40] := hD
      exact W.iret (v := r40) hx hb hr (fun t ht hW => ⟨⟨_, ⟨g_refusals_40, g_letters, s_lettered⟩, rfl, h, ⟨by rw [ht]; exact (hP.sub [1, 2, 0] rfl), (hD.sub [1, 2, 0] (by decide) rfl)⟩⟩, hS.F ht⟩) hS.2.2 dX11_letter_43
  · replace h := h.2 c
    refine lv_aload_n hx hb dX11_letter_12 rfl (lv_at hl 0 rfl) ?_
    refine lv_iload_n hx hb dX11_letter_13 rfl (lv_at hl 1 rfl) ?_
    refine lv_if_ge (tgt := 22) hx hb dX11_letter_14 (by decide) (fun c => ?_) (fun c => ?_)
    · replace h := h.1 c
      refine lv_bipush (v := (-6 : Int32)) hx hb dX11_letter_22 kb_m6 ?_
      refine hc_ki (wr := [caI G a_letters 96 g_letters]) (va_runV (As := [.int ((-6 : Int32))]) (rest := []) ⟨hx, hb, hml, hown, hts⟩ (c_X11_refused l G h0 a_w a_kept a_laid a_refusals a_row a_letters a_hit a_lead a_defeat a_defeater a_order a_is a_was a_depths a_ways H.size s_hasImage s_rows s_lettered s_ins s_outs s_ordered s_reading s_isWell s_z g_refusals ((-6 : Int32)) _ h) (cwV 1 hts gX11_letter_X11_refused rfl rfl rfl (by decide +kernel) ⟨Nat.le_of_ble_eq_true rfl, Nat.le_of_ble_eq_true rfl⟩) (hc_pV hK hP hD [0, 1] rfl rfl (ci := 9) 0 rfl rfl) rfl rfl hl.1 rfl (lv_room (Nat.le_of_ble_eq_true rfl)) dX11_letter_24 ⟨Nat.le_refl _, Nat.le_refl _⟩) hP hD hS hA [0, 1] [2] rfl rfl rfl (by decide) (fun r24 u H locs h hP hD hS => ?_)
      obtain ⟨g_refusals_24, rfl⟩ : ∃ z, z = u := ⟨_, rfl⟩
      try dsimp only at h
      have hP : va_P G.1 vwCl [caI G a_letters 96 g_letters, ceX11 h0 a_w a_kept a_laid s_hasImage a_refusals a_row s_rows a_letters s_lettered a_hit a_lead a_defeat a_defeater s_ins s_outs a_order s_ordered a_is a_was s_reading s_isWell a_depths a_ways s_z, caI G a_refusals 7 g_refusals_24] H := hP
      have hD : va_D A [caI G a_letters 96 g_letters, ceX11 h0 a_w a_kept a_laid s_hasImage a_refusals a_row s_rows a_letters s_lettered a_hit a_lead a_defeat a_defeater s_ins s_outs a_order s_ordered a_is a_was s_reading s_isWell a_depths a_ways s_z, caI G a_refusals 7 g_refusals_24] := hD
      exact W.iret (v := r24) hx hb hr (fun t ht hW => ⟨⟨_, ⟨g_refusals_24, g_letters, s_lettered⟩, rfl, h, ⟨by rw [ht]; exact (hP.sub [1, 2, 0] rfl), (hD.sub [1, 2, 0] (by decide) rfl)⟩⟩, hS.F ht⟩) hS.2.2 dX11_letter_27
    · replace h := h.2 c
      refine lv_bipush (v := (-4 : Int32)) hx hb dX11_letter_17 kb_m4 ?_
      refine lv_goto (tgt := 24) hx hb dX11_letter_19 (by decide) ?_
      refine hc_ki (wr := [caI G a_letters 96 g_letters]) (va_runV (As := [.int ((-4 : Int32))]) (rest := []) ⟨hx, hb, hml, hown, hts⟩ (c_X11_refused l G h0 a_w a_kept a_laid a_refusals a_row a_letters a_hit a_lead a_defeat a_defeater a_order a_is a_was a_depths a_ways H.size s_hasImage s_rows s_lettered s_ins s_outs s_ordered s_reading s_isWell s_z g_refusals ((-4 : Int32)) _ h) (cwV 1 hts gX11_letter_X11_refused rfl rfl rfl (by decide +kernel) ⟨Nat.le_of_ble_eq_true rfl, Nat.le_of_ble_eq_true rfl⟩) (hc_pV hK hP hD [0, 1] rfl rfl (ci := 9) 0 rfl rfl) rfl rfl hl.1 rfl (lv_room (Nat.le_of_ble_eq_true rfl)) dX11_letter_24 ⟨Nat.le_refl _, Nat.le_refl _⟩) hP hD hS hA [0, 1] [2] rfl rfl rfl (by decide) (fun r24 u H locs h hP hD hS => ?_)
      obtain ⟨g_refusals_24, rfl⟩ : ∃ z, z = u := ⟨_, rfl⟩
      try dsimp only at h
      have hP : va_P G.1 vwCl [caI G a_letters 96 g_letters, ceX11 h0 a_w a_kept a_laid s_hasImage a_refusals a_row s_rows a_letters s_lettered a_hit a_lead a_defeat a_defeater s_ins s_outs a_order s_ordered a_is a_was s_reading s_isWell a_depths a_ways s_z, caI G a_refusals 7 g_refusals_24] H := hP
      have hD : va_D A [caI G a_letters 96 g_letters, ceX11 h0 a_w a_kept a_laid s_hasImage a_refusals a_row s_rows a_letters s_lettered a_hit a_lead a_defeat a_defeater s_ins s_outs a_order s_ordered a_is a_was s_reading s_isWell a_depths a_ways s_z, caI G a_refusals 7 g_refusals_24] := hD
      exact W.iret (v := r24) hx hb hr (fun t ht hW => ⟨⟨_, ⟨g_refusals_24, g_letters, s_lettered⟩, rfl, h, ⟨by rw [ht]; exact (hP.sub [1, 2, 0] rfl), (hD.sub [1, 2, 0] (by decide) rfl)⟩⟩, hS.F ht⟩) hS.2.2 dX11_letter_27
set_option maxHeartbeats 4000000 in
set_option maxRecDepth 100000 in
theorem c_X11_hall (l : Launch) (G : hcG) (h0 : Nat) (a_w : Nat) (a_kept : Nat) (a_laid : Nat) (a_refusals : Nat) (a_row : Nat) (a_letters : Nat) (a_hit : Nat) (a_lead : Nat) (a_defeat : Nat) (a_defeater : Nat) (a_order : Nat) (a_is : Nat) (a_was : Nat) (a_depths : Nat) (a_ways : Nat) (sz : Nat) (s_hasImage : Int32) (s_rows : Int32) (s_lettered : Int32) (s_ins : Int32) (s_outs : Int32) (s_ordered : Int32) (s_reading : Int32) (s_isWell : Int32) (s_z : Int32) (g_w : Nat → Int32) (g_laid : Nat → Int32) (g_letters : Nat → Int32) (post : Int32 → (Nat → Int32) → (Nat → Int32) → Int32 → Int32 → Int32 → Prop) (h : wp_X11_hall post g_w g_laid g_letters s_lettered s_reading s_isWell) : Met l yX11_hall wsX11_hall ({ frames := 5, cells := 0, slots := 0, locals := 114 }) (hcPc G [.ref h0] [ceX11 h0 a_w a_kept a_laid s_hasImage a_refusals a_row s_rows a_letters s_lettered a_hit a_lead a_defeat a_defeater s_ins s_outs a_order s_ordered a_is a_was s_reading s_isWell a_depths a_ways s_z, caI G a_w 43 g_w, caI G a_laid 43 g_laid, caI G a_letters 96 g_letters] sz) (va_Qi (fun (r : Int32) (u : (Nat → Int32) × (Nat → Int32) × Int32 × Int32 × Int32) => post r u.1 u.2.1 u.2.2.1 u.2.2.2.1 u.2.2.2.2) (hcB G (va_A [ceX11 h0 a_w a_kept a_laid s_hasImage a_refusals a_row s_rows a_letters s_lettered a_hit a_lead a_defeat a_defeater s_ins s_outs a_order s_ordered a_is a_was s_reading s_isWell a_depths a_ways s_z, caI G a_w 43 g_w, caI G a_laid 43 g_laid, caI G a_letters 96 g_letters] sz) (fun u : (Nat → Int32) × (Nat → Int32) × Int32 × Int32 × Int32 => [ceX11 h0 a_w a_kept a_laid s_hasImage a_refusals a_row s_rows a_letters u.2.2.1 a_hit a_lead a_defeat a_defeater s_ins s_outs a_order s_ordered a_is a_was u.2.2.2.1 u.2.2.2.2 a_depths a_ways s_z, caI G a_w 43 u.1, caI G a_laid 43 u.2.1, caI G a_letters 96 g_letters])) (va_A [ceX11 h0 a_w a_kept a_laid s_hasImage a_refusals a_row s_rows a_letters s_lettered a_hit a_lead a_defeat a_defeater s_ins s_outs a_order s_ordered a_is a_was s_reading s_isWell a_depths a_ways s_z, caI G a_w 43 g_w, caI G a_laid 43 g_laid, caI G a_letters 96 g_letters] sz)) 0 0 (va_A [ceX11 h0 a_w a_kept a_laid s_hasImage a_refusals a_row s_rows a_letters s_lettered a_hit a_lead a_defeat a_defeater s_ins s_outs a_order s_ordered a_is a_was s_reading s_isWell a_depths a_ways s_z, caI G a_w 43 g_w, caI G a_laid 43 g_laid, caI G a_letters 96 g_letters] sz) := by
  refine Met.ofW (cc := cX11_hall) (maxL := 2) (ret := (some .int)) (by decide) rfl ?_
  intro p e s m args below meth c s₁ B hml hv
  obtain ⟨rfl, hsz, hP, hK, hD0⟩ := hv
  have hx := B.exec
  have hb := B.bytes
  have hr := B.returns
  have hts := atoms_spec (ws := wsX11_hall) B.pre
  have hown : s.vm.findClass RX11 = some m.cls := findClass_of_methodNamed B.named
  have hlocks := B.notSynchronized
  subst hsz
  have hD := hD0.self (sz := s.heap.size)
  generalize hAe : va_A [ceX11 h0 a_w a_kept a_laid s_hasImage a_refusals a_row s_rows a_letters s_lettered a_hit a_lead a_defeat a_defeater s_ins s_outs a_order s_ordered a_is a_was s_reading s_isWell a_depths a_ways s_z, caI G a_w 43 g_w, caI G a_laid 43 g_laid, caI G a_letters 96 g_letters] s.heap.size = A at hD ⊢
  have hA : ∀ q : Nat, s.heap.size ≤ q → A q := fun q h => by rw [← hAe]; exact Or.inr h
  have hS : va_S A s.heap s.heap [] := va_S.rf
  have hP : va_P G.1 vwCl [ceX11 h0 a_w a_kept a_laid s_hasImage a_refusals a_row s_rows a_letters s_lettered a_hit a_lead a_defeat a_defeater s_ins s_outs a_order s_ordered a_is a_was s_reading s_isWell a_depths a_ways s_z, caI G a_w 43 g_w, caI G a_laid 43 g_laid, caI G a_letters 96 g_letters] s.heap := hP
  have hl := lv_entry ([.ref h0]) (n := 2) (Nat.le_of_ble_eq_true rfl)
  rw [lg_entry_eq]
  generalize (lg_sl ([.ref h0]) ++ List.replicate (2 - (lg_sl ([.ref h0])).length) Slot.unset).toArray = ls at hl ⊢
  have hl : lv_has ls 2 [(0, .ref h0)] := hl
  have kf0 := hts (.fieldLink RX11 130 "HallOfClaimsModel" "lettered" "I") (List.mem_of_getElem? (i := 1) (by decide +kernel))
  have ki_X11 : ∀ w ∈ u_ws RX11 TX11 24, w ∈ wsX11_hall := by decide +kernel
  unfold wp_X11_hall at h
  refine lv_aload_n hx hb dX11_hall_0 rfl (lv_at hl 0 rfl) ?_
  refine hc_ki (wr := []) (va_runV (As := []) (rest := []) ⟨hx, hb, hml, hown, hts⟩ (c_X11_readsAll l G h0 a_w a_kept a_laid a_refusals a_row a_letters a_hit a_lead a_defeat a_defeater a_order a_is a_was a_depths a_ways s.heap.size s_hasImage s_rows s_lettered s_ins s_outs s_ordered s_reading s_isWell s_z g_w g_laid g_letters _ h) (cwV 0 hts gX11_hall_X11_readsAll rfl rfl rfl (by decide +kernel) ⟨Nat.le_of_ble_eq_true rfl, Nat.le_of_ble_eq_true rfl⟩) (hc_pV hK hP hD [0, 1, 2, 3] rfl rfl (ci := 9) 0 rfl rfl) rfl rfl hl.1 rfl (lv_room (Nat.le_of_ble_eq_true rfl)) dX11_hall_1 ⟨Nat.le_refl _, Nat.le_refl _⟩) hP hD hS hA [0, 1, 2, 3] [] rfl rfl rfl (by decide) (fun r1 u H locs h hP hD hS => ?_)
  obtain ⟨g_w_1, g_laid_1, s_reading_1, s_isWell_1⟩ := u
  try dsimp only at h
  have hP : va_P G.1 vwCl [ceX11 h0 a_w a_kept a_laid s_hasImage a_refusals a_row s_rows a_letters s_lettered a_hit a_lead a_defeat a_defeater s_ins s_outs a_order s_ordered a_is a_was s_reading_1 s_isWell_1 a_depths a_ways s_z, caI G a_w 43 g_w_1, caI G a_laid 43 g_laid_1, caI G a_letters 96 g_letters] H := hP
  have hD : va_D A [ceX11 h0 a_w a_kept a_laid s_hasImage a_refusals a_row s_rows a_letters s_lettered a_hit a_lead a_defeat a_defeater s_ins s_outs a_order s_ordered a_is a_was s_reading_1 s_isWell_1 a_depths a_ways s_z, caI G a_w 43 g_w_1, caI G a_laid 43 g_laid_1, caI G a_letters 96 g_letters] := hD
  refine lv_istore_n (lv' := [(1, .int r1), (0, .ref h0)]) hx hb dX11_hall_4 rfl hl (by decide) rfl (fun ls hl => ?_)
  refine lv_aload_n hx hb dX11_hall_5 rfl (lv_at hl 1 rfl) ?_
  refine lv_iconst (v := nI 0) hx hb dX11_hall_6 kc_0 ?_
  refine va_put (D := G.1) (ci := 9) (v := .int (nI 0)) (ty := .int) (C := RX11) (T := TX11) (N := 24) hx hb hts ki_X11 tyX11 tyX11_ok nmX11 hown hK.1 hP hD hS 0 rfl rfl 8 (by decide) kf0 (fun _ h9 => h9) rfl (by decide +kernel) rfl rfl (Nat.le_of_ble_eq_true rfl) dX11_hall_7 (fun H locs hP hD hS => ?_)
  have hP : va_P G.1 vwCl [ceX11 h0 a_w a_kept a_laid s_hasImage a_refusals a_row s_rows a_letters (nI 0) a_hit a_lead a_defeat a_defeater s_ins s_outs a_order s_ordered a_is a_was s_reading_1 s_isWell_1 a_depths a_ways s_z, caI G a_w 43 g_w_1, caI G a_laid 43 g_laid_1, caI G a_letters 96 g_letters] H := hP
  have hD : va_D A [ceX11 h0 a_w a_kept a_laid s_hasImage a_refusals a_row s_rows a_letters (nI 0) a_hit a_lead a_defeat a_defeater s_ins s_outs a_order s_ordered a_is a_was s_reading_1 s_isWell_1 a_depths a_ways s_z, caI G a_w 43 g_w_1, caI G a_laid 43 g_laid_1, caI G a_letters 96 g_letters] := hD
  refine lv_iload_n hx hb dX11_hall_10 rfl (lv_at hl 0 rfl) ?_
  exact W.iret (v := r1) hx hb hr (fun t ht hW => ⟨⟨_, ⟨g_w_1, g_laid_1, (nI 0), s_reading_1, s_isWell_1⟩, rfl, h, ⟨by rw [ht]; exact hP, hD⟩⟩, hS.F ht⟩) hS.2.2 dX11_hall_11
set_option maxHeartbeats 4000000 in
set_option maxRecDepth 100000 in
theorem c_X11_claims (l : Launch) (G : hcG) (h0 : Nat) (a_w : Nat) (a_kept : Nat) (a_laid : Nat) (a_refusals : Nat) (a_row : Nat) (a_letters : Nat) (a_hit : Nat) (a_lead : Nat) (a_defeat : Nat) (a_defeater : Nat) (a_order : Nat) (a_is : Nat) (a_was : Nat) (a_depths : Nat) (a_ways : Nat) (sz : Nat) (s_hasImage : Int32) (s_rows : Int32) (s_lettered : Int32) (s_ins : Int32) (s_outs : Int32) (s_ordered : Int32) (s_reading : Int32) (s_isWell : Int32) (s_z : Int32) (g_w : Nat → Int32) (g_refusals : Nat → Int32) (x1 : Int32) (x2 : Int32) (x3 : Int32) (post : Int32 → (Nat → Int32) → (Nat → Int32) → Prop) (h : wp_X11_claims post g_w g_refusals x1 x2 x3) : Met l yX11_claims wsX11_claims ({ frames := 1, cells := 0, slots := 0, locals := 25 }) (hcPc G [.ref h0, .int x1, .int x2, .int x3] [ceX11 h0 a_w a_kept a_laid s_hasImage a_refusals a_row s_rows a_letters s_lettered a_hit a_lead a_defeat a_defeater s_ins s_outs a_order s_ordered a_is a_was s_reading s_isWell a_depths a_ways s_z, caI G a_w 43 g_w, caI G a_refusals 7 g_refusals] sz) (va_Qi (fun (r : Int32) (u : (Nat → Int32) × (Nat → Int32)) => post r u.1 u.2) (hcB G (va_A [ceX11 h0 a_w a_kept a_laid s_hasImage a_refusals a_row s_rows a_letters s_lettered a_hit a_lead a_defeat a_defeater s_ins s_outs a_order s_ordered a_is a_was s_reading s_isWell a_depths a_ways s_z, caI G a_w 43 g_w, caI G a_refusals 7 g_refusals] sz) (fun u : (Nat → Int32) × (Nat → Int32) => [ceX11 h0 a_w a_kept a_laid s_hasImage a_refusals a_row s_rows a_letters s_lettered a_hit a_lead a_defeat a_defeater s_ins s_outs a_order s_ordered a_is a_was s_reading s_isWell a_depths a_ways s_z, caI G a_w 43 u.1, caI G a_refusals 7 u.2])) (va_A [ceX11 h0 a_w a_kept a_laid s_hasImage a_refusals a_row s_rows a_letters s_lettered a_hit a_lead a_defeat a_defeater s_ins s_outs a_order s_ordered a_is a_was s_reading s_isWell a_depths a_ways s_z, caI G a_w 43 g_w, caI G a_refusals 7 g_refusals] sz)) 0 0 (va_A [ceX11 h0 a_w a_kept a_laid s_hasImage a_refusals a_row s_rows a_letters s_lettered a_hit a_lead a_defeat a_defeater s_ins s_outs a_order s_ordered a_is a_was s_reading s_isWell a_depths a_ways s_z, caI G a_w 43 g_w, caI G a_refusals 7 g_refusals] sz) := by
  refine Met.ofW (cc := cX11_claims) (maxL := 4) (ret := (some .int)) (by decide) rfl ?_
  intro p e s m args below meth c s₁ B hml hv
  obtain ⟨rfl, hsz, hP, hK, hD0⟩ := hv
  have hx := B.exec
  have hb := B.bytes
  have hr := B.returns
  have hts := atoms_spec (ws := wsX11_claims) B.pre
  have hown : s.vm.findClass RX11 = some m.cls := findClass_of_methodNamed B.named
  have hlocks := B.notSynchronized
  subst hsz
  have hD := hD0.self (sz := s.heap.size)
  generalize hAe : va_A [ceX11 h0 a_w a_kept a_laid s_hasImage a_refusals a_row s_rows a_letters s_lettered a_hit a_lead a_defeat a_defeater s_ins s_outs a_order s_ordered a_is a_was s_reading s_isWell a_depths a_ways s_z, caI G a_w 43 g_w, caI G a_refusals 7 g_refusals] s.heap.size = A at hD ⊢
  have hA : ∀ q : Nat, s.heap.size ≤ q → A q := fun q h => by rw [← hAe]; exact Or.inr h
  have hS : va_S A s.heap s.heap [] := va_S.rf
  have hP : va_P G.1 vwCl [ceX11 h0 a_w a_kept a_laid s_hasImage a_refusals a_row s_rows a_letters s_lettered a_hit a_lead a_defeat a_defeater s_ins s_outs a_order s_ordered a_is a_was s_reading s_isWell a_depths a_ways s_z, caI G a_w 43 g_w, caI G a_refusals 7 g_refusals] s.heap := hP
  have hl := lv_entry ([.ref h0, .int x1, .int x2, .int x3]) (n := 4) (Nat.le_of_ble_eq_true rfl)
  rw [lg_entry_eq]
  generalize (lg_sl ([.ref h0, .int x1, .int x2, .int x3]) ++ List.replicate (4 - (lg_sl ([.ref h0, .int x1, .int x2, .int x3])).length) Slot.unset).toArray = ls at hl ⊢
  have hl : lv_has ls 4 [(0, .ref h0), (1, .int x1), (2, .int x2), (3, .int x3)] := hl
  have kf0 := hts (.constantLong RX11 206 (5)) (List.mem_of_getElem? (i := 1) (by decide +kernel))
  have kf1 := hts (.fieldLink RX11 9 "HallOfClaimsModel" "w" "[I") (List.mem_of_getElem? (i := 2) (by decide +kernel))
  have ki_X11 : ∀ w ∈ u_ws RX11 TX11 24, w ∈ wsX11_claims := by decide +kernel
  unfold wp_X11_claims at h
  refine lv_iload_n hx hb dX11_claims_0 rfl (lv_at hl 1 rfl) ?_
  refine lv_i2l (v := x1.toInt64) hx hb dX11_claims_1 rfl ?_
  refine lv_lconst (v := lN 0) hx hb dX11_claims_2 kl_0 ?_
  refine lv_ldc2 (own := RX11) (v := 5) hx hb hown kf0 dX11_claims_3 ?_
  refine hc_ki (wr := [ceX11 h0 a_w a_kept a_laid s_hasImage a_refusals a_row s_rows a_letters s_lettered a_hit a_lead a_defeat a_defeater s_ins s_outs a_order s_ordered a_is a_was s_reading s_isWell a_depths a_ways s_z, caI G a_w 43 g_w, caI G a_refusals 7 g_refusals]) (va_runS (As := [.long x1.toInt64, .long (lN 0), .long ((5 : Int64))]) (rest := []) ⟨hx, hb, hml, hown, hts⟩ (c_X11_in l G s.heap.size x1.toInt64 (lN 0) ((5 : Int64)) _ h) (va_cwS 3 hts gX11_claims_X11_in rfl rfl rfl (by decide +kernel) ⟨Nat.le_of_ble_eq_true rfl, Nat.le_of_ble_eq_true rfl⟩) (hc_pS hK hP hD [] rfl rfl) rfl rfl hl.1 rfl (lv_room (Nat.le_of_ble_eq_true rfl)) dX11_claims_6 ⟨Nat.le_refl _, Nat.le_refl _⟩) hP hD hS hA [] [0, 1, 2] rfl rfl rfl (by decide) (fun r6 u H locs h hP hD hS => ?_)
  try dsimp only at h
  have hP : va_P G.1 vwCl [ceX11 h0 a_w a_kept a_laid s_hasImage a_refusals a_row s_rows a_letters s_lettered a_hit a_lead a_defeat a_defeater s_ins s_outs a_order s_ordered a_is a_was s_reading s_isWell a_depths a_ways s_z, caI G a_w 43 g_w, caI G a_refusals 7 g_refusals] H := hP
  have hD : va_D A [ceX11 h0 a_w a_kept a_laid s_hasImage a_refusals a_row s_rows a_letters s_lettered a_hit a_lead a_defeat a_defeater s_ins s_outs a_order s_ordered a_is a_was s_reading s_isWell a_depths a_ways s_z, caI G a_w 43 g_w, caI G a_refusals 7 g_refusals] := hD
  refine lv_if_ne (tgt := 19) hx hb dX11_claims_9 (by decide) (fun c => ?_) (fun c => ?_)
  · replace h := h.1 c
    refine lv_iload_n hx hb dX11_claims_19 rfl (lv_at hl 2 rfl) ?_
    refine lv_if_lt (tgt := 27) hx hb dX11_claims_20 (by decide) (fun c => ?_) (fun c => ?_)
    · replace h := h.1 c
      refine lv_aload_n hx hb dX11_claims_27 rfl (lv_at hl 0 rfl) ?_
      refine lv_bipush (v := (-4 : Int32)) hx hb dX11_claims_28 kb_m4 ?_
      refine hc_ki (wr := [caI G a_w 43 g_w]) (va_runV (As := [.int ((-4 : Int32))]) (rest := []) ⟨hx, hb, hml, hown, hts⟩ (c_X11_refused l G h0 a_w a_kept a_laid a_refusals a_row a_letters a_hit a_lead a_defeat a_defeater a_order a_is a_was a_depths a_ways H.size s_hasImage s_rows s_lettered s_ins s_outs s_ordered s_reading s_isWell s_z g_refusals ((-4 : Int32)) _ h) (cwV 1 hts gX11_claims_X11_refused rfl rfl rfl (by decide +kernel) ⟨Nat.le_of_ble_eq_true rfl, Nat.le_of_ble_eq_true rfl⟩) (hc_pV hK hP hD [0, 2] rfl rfl (ci := 9) 0 rfl rfl) rfl rfl hl.1 rfl (lv_room (Nat.le_of_ble_eq_true rfl)) dX11_claims_30 ⟨Nat.le_refl _, Nat.le_refl _⟩) hP hD hS hA [0, 2] [1] rfl rfl rfl (by decide) (fun r30 u H locs h hP hD hS => ?_)
      obtain ⟨g_refusals_30, rfl⟩ : ∃ z, z = u := ⟨_, rfl⟩
      try dsimp only at h
      have hP : va_P G.1 vwCl [caI G a_w 43 g_w, ceX11 h0 a_w a_kept a_laid s_hasImage a_refusals a_row s_rows a_letters s_lettered a_hit a_lead a_defeat a_defeater s_ins s_outs a_order s_ordered a_is a_was s_reading s_isWell a_depths a_ways s_z, caI G a_refusals 7 g_refusals_30] H := hP
      have hD : va_D A [caI G a_w 43 g_w, ceX11 h0 a_w a_kept a_laid s_hasImage a_refusals a_row s_rows a_letters s_lettered a_hit a_lead a_defeat a_defeater s_ins s_outs a_order s_ordered a_is a_was s_reading s_isWell a_depths a_ways s_z, caI G a_refusals 7 g_refusals_30] := hD
      exact W.iret (v := r30) hx hb hr (fun t ht hW => ⟨⟨_, ⟨g_w, g_refusals_30⟩, rfl, h, ⟨by rw [ht]; exact (hP.sub [1, 0, 2] rfl), (hD.sub [1, 0, 2] (by decide) rfl)⟩⟩, hS.F ht⟩) hS.2.2 dX11_claims_33
    · replace h := h.2 c
      refine lv_iload_n hx hb dX11_claims_23 rfl (lv_at hl 3 rfl) ?_
      refine lv_if_ge (tgt := 34) hx hb dX11_claims_24 (by decide) (fun c => ?_) (fun c => ?_)
      · replace h := h.1 c
        refine lv_iload_n hx hb dX11_claims_34 rfl (lv_at hl 2 rfl) ?_
        refine lv_bipush (v := nI 9) hx hb dX11_claims_35 kb_9 ?_
        refine lv_icmp_gt (tgt := 56) hx hb dX11_claims_37 (by decide) (fun c => ?_) (fun c => ?_)
        · replace h := h.1 c
          refine lv_aload_n hx hb dX11_claims_56 rfl (lv_at hl 0 rfl) ?_
          refine lv_bipush (v := (-6 : Int32)) hx hb dX11_claims_57 kb_m6 ?_
          refine hc_ki (wr := [caI G a_w 43 g_w]) (va_runV (As := [.int ((-6 : Int32))]) (rest := []) ⟨hx, hb, hml, hown, hts⟩ (c_X11_refused l G h0 a_w a_kept a_laid a_refusals a_row a_letters a_hit a_lead a_defeat a_defeater a_order a_is a_was a_depths a_ways H.size s_hasImage s_rows s_lettered s_ins s_outs s_ordered s_reading s_isWell s_z g_refusals ((-6 : Int32)) _ h) (cwV 1 hts gX11_claims_X11_refused rfl rfl rfl (by decide +kernel) ⟨Nat.le_of_ble_eq_true rfl, Nat.le_of_ble_eq_true rfl⟩) (hc_pV hK hP hD [0, 2] rfl rfl (ci := 9) 0 rfl rfl) rfl rfl hl.1 rfl (lv_room (Nat.le_of_ble_eq_true rfl)) dX11_claims_59 ⟨Nat.le_refl _, Nat.le_refl _⟩) hP hD hS hA [0, 2] [1] rfl rfl rfl (by decide) (fun r59 u H locs h hP hD hS => ?_)
          obtain ⟨g_refusals_59, rfl⟩ : ∃ z, z = u := ⟨_, rfl⟩
          try dsimp only at h
          have hP : va_P G.1 vwCl [caI G a_w 43 g_w, ceX11 h0 a_w a_kept a_laid s_hasImage a_refusals a_row s_rows a_letters s_lettered a_hit a_lead a_defeat a_defeater s_ins s_outs a_order s_ordered a_is a_was s_reading s_isWell a_depths a_ways s_z, caI G a_refusals 7 g_refusals_59] H := hP
          have hD : va_D A [caI G a_w 43 g_w, ceX11 h0 a_w a_kept a_laid s_hasImage a_refusals a_row s_rows a_letters s_lettered a_hit a_lead a_defeat a_defeater s_ins s_outs a_order s_ordered a_is a_was s_reading s_isWell a_depths a_ways s_z, caI G a_refusals 7 g_refusals_59] := hD
          exact W.iret (v := r59) hx hb hr (fun t ht hW => ⟨⟨_, ⟨g_w, g_refusals_59⟩, rfl, h, ⟨by rw [ht]; exact (hP.sub [1, 0, 2] rfl), (hD.sub [1, 0, 2] (by decide) rfl)⟩⟩, hS.F ht⟩) hS.2.2 dX11_claims_62
        · replace h := h.2 c
          refine lv_iload_n hx hb dX11_claims_40 rfl (lv_at hl 3 rfl) ?_
          refine lv_bipush (v := nI 9) hx hb dX11_claims_41 kb_9 ?_
          refine lv_icmp_gt (tgt := 56) hx hb dX11_claims_43 (by decide) (fun c => ?_) (fun c => ?_)
          · replace h := h.1 c
            refine lv_aload_n hx hb dX11_claims_56 rfl (lv_at hl 0 rfl) ?_
            refine lv_bipush (v := (-6 : Int32)) hx hb dX11_claims_57 kb_m6 ?_
            refine hc_ki (wr := [caI G a_w 43 g_w]) (va_runV (As := [.int ((-6 : Int32))]) (rest := []) ⟨hx, hb, hml, hown, hts⟩ (c_X11_refused l G h0 a_w a_kept a_laid a_refusals a_row a_letters a_hit a_lead a_defeat a_defeater a_order a_is a_was a_depths a_ways H.size s_hasImage s_rows s_lettered s_ins s_outs s_ordered s_reading s_isWell s_z g_refusals ((-6 : Int32)) _ h) (cwV 1 hts gX11_claims_X11_refused rfl rfl rfl (by decide +kernel) ⟨Nat.le_of_ble_eq_true rfl, Nat.le_of_ble_eq_true rfl⟩) (hc_pV hK hP hD [0, 2] rfl rfl (ci := 9) 0 rfl rfl) rfl rfl hl.1 rfl (lv_room (Nat.le_of_ble_eq_true rfl)) dX11_claims_59 ⟨Nat.le_refl _, Nat.le_refl _⟩) hP hD hS hA [0, 2] [1] rfl rfl rfl (by decide) (fun r59 u H locs h hP hD hS => ?_)
            obtain ⟨g_refusals_59, rfl⟩ : ∃ z, z = u := ⟨_, rfl⟩
            try dsimp only at h
            have hP : va_P G.1 vwCl [caI G a_w 43 g_w, ceX11 h0 a_w a_kept a_laid s_hasImage a_refusals a_row s_rows a_letters s_lettered a_hit a_lead a_defeat a_defeater s_ins s_outs a_order s_ordered a_is a_was s_reading s_isWell a_depths a_ways s_z, caI G a_refusals 7 g_refusals_59] H := hP
            have hD : va_D A [caI G a_w 43 g_w, ceX11 h0 a_w a_kept a_laid s_hasImage a_refusals a_row s_rows a_letters s_lettered a_hit a_lead a_defeat a_defeater s_ins s_outs a_order s_ordered a_is a_was s_reading s_isWell a_depths a_ways s_z, caI G a_refusals 7 g_refusals_59] := hD
            exact W.iret (v := r59) hx hb hr (fun t ht hW => ⟨⟨_, ⟨g_w, g_refusals_59⟩, rfl, h, ⟨by rw [ht]; exact (hP.sub [1, 0, 2] rfl), (hD.sub [1, 0, 2] (by decide) rfl)⟩⟩, hS.F ht⟩) hS.2.2 dX11_claims_62
          · replace h := h.2 c
            refine lv_aload_n hx hb dX11_claims_46 rfl (lv_at hl 0 rfl) ?_
            refine lv_iload_n hx hb dX11_claims_47 rfl (lv_at hl 1 rfl) ?_
            refine lv_iload_n hx hb dX11_claims_48 rfl (lv_at hl 2 rfl) ?_
            refine lv_iload_n hx hb dX11_claims_49 rfl (lv_at hl 3 rfl) ?_
            refine hc_ki (wr := [caI G a_refusals 7 g_refusals]) (va_runV (As := [.int x1, .int x2, .int x3]) (rest := []) ⟨hx, hb, hml, hown, hts⟩ (c_X11_comes l G h0 a_w a_kept a_laid a_refusals a_row a_letters a_hit a_lead a_defeat a_defeater a_order a_is a_was a_depths a_ways H.size s_hasImage s_rows s_lettered s_ins s_outs s_ordered s_reading s_isWell s_z g_w x1 x2 x3 _ h) (cwV 3 hts gX11_claims_X11_comes rfl rfl rfl (by decide +kernel) ⟨Nat.le_of_ble_eq_true rfl, Nat.le_of_ble_eq_true rfl⟩) (hc_pV hK hP hD [0, 1] rfl rfl (ci := 9) 0 rfl rfl) rfl rfl hl.1 rfl (lv_room (Nat.le_of_ble_eq_true rfl)) dX11_claims_50 ⟨Nat.le_refl _, Nat.le_refl _⟩) hP hD hS hA [0, 1] [2] rfl rfl rfl (by decide) (fun r50 u H locs h hP hD hS => ?_)
            obtain ⟨g_w_50, rfl⟩ : ∃ z, z = u := ⟨_, rfl⟩
            try dsimp only at h
            have hP : va_P G.1 vwCl [caI G a_refusals 7 g_refusals, ceX11 h0 a_w a_kept a_laid s_hasImage a_refusals a_row s_rows a_letters s_lettered a_hit a_lead a_defeat a_defeater s_ins s_outs a_order s_ordered a_is a_was s_reading s_isWell a_depths a_ways s_z, caI G a_w 43 g_w_50] H := hP
            have hD : va_D A [caI G a_refusals 7 g_refusals, ceX11 h0 a_w a_kept a_laid s_hasImage a_refusals a_row s_rows a_letters s_lettered a_hit a_lead a_defeat a_defeater s_ins s_outs a_order s_ordered a_is a_was s_reading s_isWell a_depths a_ways s_z, caI G a_w 43 g_w_50] := hD
            refine lv_if_ne (tgt := 63) hx hb dX11_claims_53 (by decide) (fun c => ?_) (fun c => ?_)
            · replace h := h.1 c
              refine lv_aload_n hx hb dX11_claims_63 rfl (lv_at hl 0 rfl) ?_
              refine va_get (D := G.1) (ci := 9) (v := .ref a_w) (C := RX11) (T := TX11) (N := 24) hx hb hts ki_X11 hown hK.1 hP 1 rfl rfl 0 (by decide) kf1 (fun _ h9 => h9) rfl dX11_claims_64 ?_
              refine lv_bipush (v := nI 42) hx hb dX11_claims_67 kb_42 ?_
              have hin := h.1
              replace h := h.2
              refine va_iald hx hb hK.1 hP 2 0 rfl rfl hin dX11_claims_69 ?_
              refine lv_iconst (v := nI 1) hx hb dX11_claims_70 kc_1 ?_
              refine lv_isub hx hb dX11_claims_71 ?_
              exact W.iret (v := (g_w_50 (nI 42).toNatClampNeg) - (nI 1)) hx hb hr (fun t ht hW => ⟨⟨_, ⟨g_w_50, g_refusals⟩, rfl, h, ⟨by rw [ht]; exact (hP.sub [1, 2, 0] rfl), (hD.sub [1, 2, 0] (by decide) rfl)⟩⟩, hS.F ht⟩) hS.2.2 dX11_claims_72
            · replace h := h.2 c
              refine lv_aload_n hx hb dX11_claims_56 rfl (lv_at hl 0 rfl) ?_
              refine lv_bipush (v := (-6 : Int32)) hx hb dX11_claims_57 kb_m6 ?_
              refine hc_ki (wr := [caI G a_w 43 g_w_50]) (va_runV (As := [.int ((-6 : Int32))]) (rest := []) ⟨hx, hb, hml, hown, hts⟩ (c_X11_refused l G h0 a_w a_kept a_laid a_refusals a_row a_letters a_hit a_lead a_defeat a_defeater a_order a_is a_was a_depths a_ways H.size s_hasImage s_rows s_lettered s_ins s_outs s_ordered s_reading s_isWell s_z g_refusals ((-6 : Int32)) _ h) (cwV 1 hts gX11_claims_X11_refused rfl rfl rfl (by decide +kernel) ⟨Nat.le_of_ble_eq_true rfl, Nat.le_of_ble_eq_true rfl⟩) (hc_pV hK hP hD [1, 0] rfl rfl (ci := 9) 1 rfl rfl) rfl rfl hl.1 rfl (lv_room (Nat.le_of_ble_eq_true rfl)) dX11_claims_59 ⟨Nat.le_refl _, Nat.le_refl _⟩) hP hD hS hA [1, 0] [2] rfl rfl rfl (by decide) (fun r59 u H locs h hP hD hS => ?_)
              obtain ⟨g_refusals_59, rfl⟩ : ∃ z, z = u := ⟨_, rfl⟩
              try dsimp only at h
              have hP : va_P G.1 vwCl [caI G a_w 43 g_w_50, ceX11 h0 a_w a_kept a_laid s_hasImage a_refusals a_row s_rows a_letters s_lettered a_hit a_lead a_defeat a_defeater s_ins s_outs a_order s_ordered a_is a_was s_reading s_isWell a_depths a_ways s_z, caI G a_refusals 7 g_refusals_59] H := hP
              have hD : va_D A [caI G a_w 43 g_w_50, ceX11 h0 a_w a_kept a_laid s_hasImage a_refusals a_row s_rows a_letters s_lettered a_hit a_lead a_defeat a_defeater s_ins s_outs a_order s_ordered a_is a_was s_reading s_isWell a_depths a_ways s_z, caI G a_refusals 7 g_refusals_59] := hD
              exact W.iret (v := r59) hx hb hr (fun t ht hW => ⟨⟨_, ⟨g_w_50, g_refusals_59⟩, rfl, h, ⟨by rw [ht]; exact (hP.sub [1, 0, 2] rfl), (hD.sub [1, 0, 2] (by decide) rfl)⟩⟩, hS.F ht⟩) hS.2.2 dX11_claims_62
      · replace h := h.2 c
        refine lv_aload_n hx hb dX11_claims_27 rfl (lv_at hl 0 rfl) ?_
        refine lv_bipush (v := (-4 : Int32)) hx hb dX11_claims_28 kb_m4 ?_
        refine hc_ki (wr := [caI G a_w 43 g_w]) (va_runV (As := [.int ((-4 : Int32))]) (rest := []) ⟨hx, hb, hml, hown, hts⟩ (c_X11_refused l G h0 a_w a_kept a_laid a_refusals a_row a_letters a_hit a_lead a_defeat a_defeater a_order a_is a_was a_depths a_ways H.size s_hasImage s_rows s_lettered s_ins s_outs s_ordered s_reading s_isWell s_z g_refusals ((-4 : Int32)) _ h) (cwV 1 hts gX11_claims_X11_refused rfl rfl rfl (by decide +kernel) ⟨Nat.le_of_ble_eq_true rfl, Nat.le_of_ble_eq_true rfl⟩) (hc_pV hK hP hD [0, 2] rfl rfl (ci := 9) 0 rfl rfl) rfl rfl hl.1 rfl (lv_room (Nat.le_of_ble_eq_true rfl)) dX11_claims_30 ⟨Nat.le_refl _, Nat.le_refl _⟩) hP hD hS hA [0, 2] [1] rfl rfl rfl (by decide) (fun r30 u H locs h hP hD hS => ?_)
        obtain ⟨g_refusals_30, rfl⟩ : ∃ z, z = u := ⟨_, rfl⟩
        try dsimp only at h
        have hP : va_P G.1 vwCl [caI G a_w 43 g_w, ceX11 h0 a_w a_kept a_laid s_hasImage a_refusals a_row s_rows a_letters s_lettered a_hit a_lead a_defeat a_defeater s_ins s_outs a_order s_ordered a_is a_was s_reading s_isWell a_depths a_ways s_z, caI G a_refusals 7 g_refusals_30] H := hP
        have hD : va_D A [caI G a_w 43 g_w, ceX11 h0 a_w a_kept a_laid s_hasImage a_refusals a_row s_rows a_letters s_lettered a_hit a_lead a_defeat a_defeater s_ins s_outs a_order s_ordered a_is a_was s_reading s_isWell a_depths a_ways s_z, caI G a_refusals 7 g_refusals_30] := hD
        exact W.iret (v := r30) hx hb hr (fun t ht hW => ⟨⟨_, ⟨g_w, g_refusals_30⟩, rfl, h, ⟨by rw [ht]; exact (hP.sub [1, 0, 2] rfl), (hD.sub [1, 0, 2] (by decide) rfl)⟩⟩, hS.F ht⟩) hS.2.2 dX11_claims_33
  · replace h := h.2 c
    refine lv_aload_n hx hb dX11_claims_12 rfl (lv_at hl 0 rfl) ?_
    refine lv_bipush (v := (-2 : Int32)) hx hb dX11_claims_13 kb_m2 ?_
    refine hc_ki (wr := [caI G a_w 43 g_w]) (va_runV (As := [.int ((-2 : Int32))]) (rest := []) ⟨hx, hb, hml, hown, hts⟩ (c_X11_refused l G h0 a_w a_kept a_laid a_refusals a_row a_letters a_hit a_lead a_defeat a_defeater a_order a_is a_was a_depths a_ways H.size s_hasImage s_rows s_lettered s_ins s_outs s_ordered s_reading s_isWell s_z g_refusals ((-2 : Int32)) _ h) (cwV 1 hts gX11_claims_X11_refused rfl rfl rfl (by decide +kernel) ⟨Nat.le_of_ble_eq_true rfl, Nat.le_of_ble_eq_true rfl⟩) (hc_pV hK hP hD [0, 2] rfl rfl (ci := 9) 0 rfl rfl) rfl rfl hl.1 rfl (lv_room (Nat.le_of_ble_eq_true rfl)) dX11_claims_15 ⟨Nat.le_refl _, Nat.le_refl _⟩) hP hD hS hA [0, 2] [1] rfl rfl rfl (by decide) (fun r15 u H locs h hP hD hS => ?_)
    obtain ⟨g_refusals_15, rfl⟩ : ∃ z, z = u := ⟨_, rfl⟩
    try dsimp only at h
    have hP : va_P G.1 vwCl [caI G a_w 43 g_w, ceX11 h0 a_w a_kept a_laid s_hasImage a_refusals a_row s_rows a_letters s_lettered a_hit a_lead a_defeat a_defeater s_ins s_outs a_order s_ordered a_is a_was s_reading s_isWell a_depths a_ways s_z, caI G a_refusals 7 g_refusals_15] H := hP
    have hD : va_D A [caI G a_w 43 g_w, ceX11 h0 a_w a_kept a_laid s_hasImage a_refusals a_row s_rows a_letters s_lettered a_hit a_lead a_defeat a_defeater s_ins s_outs a_order s_ordered a_is a_was s_reading s_isWell a_depths a_ways s_z, caI G a_refusals 7 g_refusals_15] := hD
    exact W.iret (v := r15) hx hb hr (fun t ht hW => ⟨⟨_, ⟨g_w, g_refusals_15⟩, rfl, h, ⟨by rw [ht]; exact (hP.sub [1, 0, 2] rfl), (hD.sub [1, 0, 2] (by decide) rfl)⟩⟩, hS.F ht⟩) hS.2.2 dX11_claims_18
set_option maxHeartbeats 4000000 in
set_option maxRecDepth 100000 in
theorem c_X11_turns (l : Launch) (G : hcG) (h0 : Nat) (a_w : Nat) (a_kept : Nat) (a_laid : Nat) (a_refusals : Nat) (a_row : Nat) (a_letters : Nat) (a_hit : Nat) (a_lead : Nat) (a_defeat : Nat) (a_defeater : Nat) (a_order : Nat) (a_is : Nat) (a_was : Nat) (a_depths : Nat) (a_ways : Nat) (sz : Nat) (s_hasImage : Int32) (s_rows : Int32) (s_lettered : Int32) (s_ins : Int32) (s_outs : Int32) (s_ordered : Int32) (s_reading : Int32) (s_isWell : Int32) (s_z : Int32) (g_w : Nat → Int32) (g_refusals : Nat → Int32) (x1 : Int32) (post : Int32 → (Nat → Int32) → (Nat → Int32) → Prop) (h : wp_X11_turns post g_w g_refusals x1) : Met l yX11_turns wsX11_turns ({ frames := 2, cells := 0, slots := 0, locals := 46 }) (hcPc G [.ref h0, .int x1] [ceX11 h0 a_w a_kept a_laid s_hasImage a_refusals a_row s_rows a_letters s_lettered a_hit a_lead a_defeat a_defeater s_ins s_outs a_order s_ordered a_is a_was s_reading s_isWell a_depths a_ways s_z, caI G a_w 43 g_w, caI G a_refusals 7 g_refusals] sz) (va_Qi (fun (r : Int32) (u : (Nat → Int32) × (Nat → Int32)) => post r u.1 u.2) (hcB G (va_A [ceX11 h0 a_w a_kept a_laid s_hasImage a_refusals a_row s_rows a_letters s_lettered a_hit a_lead a_defeat a_defeater s_ins s_outs a_order s_ordered a_is a_was s_reading s_isWell a_depths a_ways s_z, caI G a_w 43 g_w, caI G a_refusals 7 g_refusals] sz) (fun u : (Nat → Int32) × (Nat → Int32) => [ceX11 h0 a_w a_kept a_laid s_hasImage a_refusals a_row s_rows a_letters s_lettered a_hit a_lead a_defeat a_defeater s_ins s_outs a_order s_ordered a_is a_was s_reading s_isWell a_depths a_ways s_z, caI G a_w 43 u.1, caI G a_refusals 7 u.2])) (va_A [ceX11 h0 a_w a_kept a_laid s_hasImage a_refusals a_row s_rows a_letters s_lettered a_hit a_lead a_defeat a_defeater s_ins s_outs a_order s_ordered a_is a_was s_reading s_isWell a_depths a_ways s_z, caI G a_w 43 g_w, caI G a_refusals 7 g_refusals] sz)) 0 0 (va_A [ceX11 h0 a_w a_kept a_laid s_hasImage a_refusals a_row s_rows a_letters s_lettered a_hit a_lead a_defeat a_defeater s_ins s_outs a_order s_ordered a_is a_was s_reading s_isWell a_depths a_ways s_z, caI G a_w 43 g_w, caI G a_refusals 7 g_refusals] sz) := by
  refine Met.ofW (cc := cX11_turns) (maxL := 2) (ret := (some .int)) (by decide) rfl ?_
  intro p e s m args below meth c s₁ B hml hv
  obtain ⟨rfl, hsz, hP, hK, hD0⟩ := hv
  have hx := B.exec
  have hb := B.bytes
  have hr := B.returns
  have hts := atoms_spec (ws := wsX11_turns) B.pre
  have hown : s.vm.findClass RX11 = some m.cls := findClass_of_methodNamed B.named
  have hlocks := B.notSynchronized
  subst hsz
  have hD := hD0.self (sz := s.heap.size)
  generalize hAe : va_A [ceX11 h0 a_w a_kept a_laid s_hasImage a_refusals a_row s_rows a_letters s_lettered a_hit a_lead a_defeat a_defeater s_ins s_outs a_order s_ordered a_is a_was s_reading s_isWell a_depths a_ways s_z, caI G a_w 43 g_w, caI G a_refusals 7 g_refusals] s.heap.size = A at hD ⊢
  have hA : ∀ q : Nat, s.heap.size ≤ q → A q := fun q h => by rw [← hAe]; exact Or.inr h
  have hS : va_S A s.heap s.heap [] := va_S.rf
  have hP : va_P G.1 vwCl [ceX11 h0 a_w a_kept a_laid s_hasImage a_refusals a_row s_rows a_letters s_lettered a_hit a_lead a_defeat a_defeater s_ins s_outs a_order s_ordered a_is a_was s_reading s_isWell a_depths a_ways s_z, caI G a_w 43 g_w, caI G a_refusals 7 g_refusals] s.heap := hP
  have hl := lv_entry ([.ref h0, .int x1]) (n := 2) (Nat.le_of_ble_eq_true rfl)
  rw [lg_entry_eq]
  generalize (lg_sl ([.ref h0, .int x1]) ++ List.replicate (2 - (lg_sl ([.ref h0, .int x1])).length) Slot.unset).toArray = ls at hl ⊢
  have hl : lv_has ls 2 [(0, .ref h0), (1, .int x1)] := hl
  have kf0 := hts (.fieldLink RX11 9 "HallOfClaimsModel" "w" "[I") (List.mem_of_getElem? (i := 1) (by decide +kernel))
  have ki_X11 : ∀ w ∈ u_ws RX11 TX11 24, w ∈ wsX11_turns := by decide +kernel
  unfold wp_X11_turns at h
  refine lv_aload_n hx hb dX11_turns_0 rfl (lv_at hl 0 rfl) ?_
  refine lv_iload_n hx hb dX11_turns_1 rfl (lv_at hl 1 rfl) ?_
  refine hc_ki (wr := [caI G a_refusals 7 g_refusals]) (va_runV (As := [.int x1]) (rest := []) ⟨hx, hb, hml, hown, hts⟩ (c_X11_isClaim l G h0 a_w a_kept a_laid a_refusals a_row a_letters a_hit a_lead a_defeat a_defeater a_order a_is a_was a_depths a_ways s.heap.size s_hasImage s_rows s_lettered s_ins s_outs s_ordered s_reading s_isWell s_z g_w x1 _ h) (cwV 1 hts gX11_turns_X11_isClaim rfl rfl rfl (by decide +kernel) ⟨Nat.le_of_ble_eq_true rfl, Nat.le_of_ble_eq_true rfl⟩) (hc_pV hK hP hD [0, 1] rfl rfl (ci := 9) 0 rfl rfl) rfl rfl hl.1 rfl (lv_room (Nat.le_of_ble_eq_true rfl)) dX11_turns_2 ⟨Nat.le_refl _, Nat.le_refl _⟩) hP hD hS hA [0, 1] [2] rfl rfl rfl (by decide) (fun r2 u H locs h hP hD hS => ?_)
  try dsimp only at h
  have hP : va_P G.1 vwCl [caI G a_refusals 7 g_refusals, ceX11 h0 a_w a_kept a_laid s_hasImage a_refusals a_row s_rows a_letters s_lettered a_hit a_lead a_defeat a_defeater s_ins s_outs a_order s_ordered a_is a_was s_reading s_isWell a_depths a_ways s_z, caI G a_w 43 g_w] H := hP
  have hD : va_D A [caI G a_refusals 7 g_refusals, ceX11 h0 a_w a_kept a_laid s_hasImage a_refusals a_row s_rows a_letters s_lettered a_hit a_lead a_defeat a_defeater s_ins s_outs a_order s_ordered a_is a_was s_reading s_isWell a_depths a_ways s_z, caI G a_w 43 g_w] := hD
  refine lv_if_ne (tgt := 14) hx hb dX11_turns_5 (by decide) (fun c => ?_) (fun c => ?_)
  · replace h := h.1 c
    refine lv_aload_n hx hb dX11_turns_14 rfl (lv_at hl 0 rfl) ?_
    refine va_get (D := G.1) (ci := 9) (v := .ref a_w) (C := RX11) (T := TX11) (N := 24) hx hb hts ki_X11 hown hK.1 hP 1 rfl rfl 0 (by decide) kf0 (fun _ h9 => h9) rfl dX11_turns_15 ?_
    refine lv_bipush (v := nI 40) hx hb dX11_turns_18 kb_40 ?_
    refine lv_dup2_11 hx hb dX11_turns_20 rfl rfl ?_
    have hin := h.1
    replace h := h.2
    refine va_iald hx hb hK.1 hP 2 0 rfl rfl hin dX11_turns_21 ?_
    refine lv_iconst (v := nI 1) hx hb dX11_turns_22 kc_1 ?_
    refine lv_iload_n hx hb dX11_turns_23 rfl (lv_at hl 1 rfl) ?_
    refine lv_ishl hx hb dX11_turns_24 ?_
    refine lv_ixor hx hb dX11_turns_25 ?_
    have hin := h.1
    replace h := h.2
    refine va_iast hx hb hK.1 hP hD hS 2 0 rfl rfl hin dX11_turns_26 (fun H locs hP hD hS => ?_)
    have hP : va_P G.1 vwCl [caI G a_refusals 7 g_refusals, ceX11 h0 a_w a_kept a_laid s_hasImage a_refusals a_row s_rows a_letters s_lettered a_hit a_lead a_defeat a_defeater s_ins s_outs a_order s_ordered a_is a_was s_reading s_isWell a_depths a_ways s_z, caI G a_w 43 (upd g_w (nI 40).toNatClampNeg ((g_w (nI 40).toNatClampNeg) ^^^ ((nI 1) <<< (x1 &&& 31))))] H := hP
    have hD : va_D A [caI G a_refusals 7 g_refusals, ceX11 h0 a_w a_kept a_laid s_hasImage a_refusals a_row s_rows a_letters s_lettered a_hit a_lead a_defeat a_defeater s_ins s_outs a_order s_ordered a_is a_was s_reading s_isWell a_depths a_ways s_z, caI G a_w 43 (upd g_w (nI 40).toNatClampNeg ((g_w (nI 40).toNatClampNeg) ^^^ ((nI 1) <<< (x1 &&& 31))))] := hD
    refine lv_aload_n hx hb dX11_turns_27 rfl (lv_at hl 0 rfl) ?_
    refine va_get (D := G.1) (ci := 9) (v := .ref a_w) (C := RX11) (T := TX11) (N := 24) hx hb hts ki_X11 hown hK.1 hP 1 rfl rfl 0 (by decide) kf0 (fun _ h9 => h9) rfl dX11_turns_28 ?_
    refine lv_bipush (v := nI 40) hx hb dX11_turns_31 kb_40 ?_
    have hin := h.1
    replace h := h.2
    refine va_iald hx hb hK.1 hP 2 0 rfl rfl hin dX11_turns_33 ?_
    refine lv_iload_n hx hb dX11_turns_34 rfl (lv_at hl 1 rfl) ?_
    refine lv_ishr hx hb dX11_turns_35 ?_
    refine lv_iconst (v := nI 1) hx hb dX11_turns_36 kc_1 ?_
    refine lv_iand hx hb dX11_turns_37 ?_
    exact W.iret (v := (((upd g_w (nI 40).toNatClampNeg ((g_w (nI 40).toNatClampNeg) ^^^ ((nI 1) <<< (x1 &&& 31)))) (nI 40).toNatClampNeg) >>> (x1 &&& 31)) &&& (nI 1)) hx hb hr (fun t ht hW => ⟨⟨_, ⟨(upd g_w (nI 40).toNatClampNeg ((g_w (nI 40).toNatClampNeg) ^^^ ((nI 1) <<< (x1 &&& 31)))), g_refusals⟩, rfl, h, ⟨by rw [ht]; exact (hP.sub [1, 2, 0] rfl), (hD.sub [1, 2, 0] (by decide) rfl)⟩⟩, hS.F ht⟩) hS.2.2 dX11_turns_38
  · replace h := h.2 c
    refine lv_aload_n hx hb dX11_turns_8 rfl (lv_at hl 0 rfl) ?_
    refine lv_iconst (v := (-1 : Int32)) hx hb dX11_turns_9 kc_m1 ?_
    refine hc_ki (wr := [caI G a_w 43 g_w]) (va_runV (As := [.int ((-1 : Int32))]) (rest := []) ⟨hx, hb, hml, hown, hts⟩ (c_X11_refused l G h0 a_w a_kept a_laid a_refusals a_row a_letters a_hit a_lead a_defeat a_defeater a_order a_is a_was a_depths a_ways H.size s_hasImage s_rows s_lettered s_ins s_outs s_ordered s_reading s_isWell s_z g_refusals ((-1 : Int32)) _ h) (cwV 1 hts gX11_turns_X11_refused rfl rfl rfl (by decide +kernel) ⟨Nat.le_of_ble_eq_true rfl, Nat.le_of_ble_eq_true rfl⟩) (hc_pV hK hP hD [1, 0] rfl rfl (ci := 9) 1 rfl rfl) rfl rfl hl.1 rfl (lv_room (Nat.le_of_ble_eq_true rfl)) dX11_turns_10 ⟨Nat.le_refl _, Nat.le_refl _⟩) hP hD hS hA [1, 0] [2] rfl rfl rfl (by decide) (fun r10 u H locs h hP hD hS => ?_)
    obtain ⟨g_refusals_10, rfl⟩ : ∃ z, z = u := ⟨_, rfl⟩
    try dsimp only at h
    have hP : va_P G.1 vwCl [caI G a_w 43 g_w, ceX11 h0 a_w a_kept a_laid s_hasImage a_refusals a_row s_rows a_letters s_lettered a_hit a_lead a_defeat a_defeater s_ins s_outs a_order s_ordered a_is a_was s_reading s_isWell a_depths a_ways s_z, caI G a_refusals 7 g_refusals_10] H := hP
    have hD : va_D A [caI G a_w 43 g_w, ceX11 h0 a_w a_kept a_laid s_hasImage a_refusals a_row s_rows a_letters s_lettered a_hit a_lead a_defeat a_defeater s_ins s_outs a_order s_ordered a_is a_was s_reading s_isWell a_depths a_ways s_z, caI G a_refusals 7 g_refusals_10] := hD
    exact W.iret (v := r10) hx hb hr (fun t ht hW => ⟨⟨_, ⟨g_w, g_refusals_10⟩, rfl, h, ⟨by rw [ht]; exact (hP.sub [1, 0, 2] rfl), (hD.sub [1, 0, 2] (by decide) rfl)⟩⟩, hS.F ht⟩) hS.2.2 dX11_turns_13
set_option maxHeartbeats 4000000 in
set_option maxRecDepth 100000 in
theorem c_X11_kind (l : Launch) (G : hcG) (h0 : Nat) (a_w : Nat) (a_kept : Nat) (a_laid : Nat) (a_refusals : Nat) (a_row : Nat) (a_letters : Nat) (a_hit : Nat) (a_lead : Nat) (a_defeat : Nat) (a_defeater : Nat) (a_order : Nat) (a_is : Nat) (a_was : Nat) (a_depths : Nat) (a_ways : Nat) (sz : Nat) (s_hasImage : Int32) (s_rows : Int32) (s_lettered : Int32) (s_ins : Int32) (s_outs : Int32) (s_ordered : Int32) (s_reading : Int32) (s_isWell : Int32) (s_z : Int32) (g_w : Nat → Int32) (g_refusals : Nat → Int32) (x1 : Int32) (x2 : Int32) (x3 : Int32) (post : Int32 → (Nat → Int32) → (Nat → Int32) → Prop) (h : wp_X11_kind post g_w g_refusals x1 x2 x3) : Met l yX11_kind wsX11_kind ({ frames := 2, cells := 0, slots := 0, locals := 46 }) (hcPc G [.ref h0, .int x1, .int x2, .int x3] [ceX11 h0 a_w a_kept a_laid s_hasImage a_refusals a_row s_rows a_letters s_lettered a_hit a_lead a_defeat a_defeater s_ins s_outs a_order s_ordered a_is a_was s_reading s_isWell a_depths a_ways s_z, caI G a_w 43 g_w, caI G a_refusals 7 g_refusals] sz) (va_Qi (fun (r : Int32) (u : (Nat → Int32) × (Nat → Int32)) => post r u.1 u.2) (hcB G (va_A [ceX11 h0 a_w a_kept a_laid s_hasImage a_refusals a_row s_rows a_letters s_lettered a_hit a_lead a_defeat a_defeater s_ins s_outs a_order s_ordered a_is a_was s_reading s_isWell a_depths a_ways s_z, caI G a_w 43 g_w, caI G a_refusals 7 g_refusals] sz) (fun u : (Nat → Int32) × (Nat → Int32) => [ceX11 h0 a_w a_kept a_laid s_hasImage a_refusals a_row s_rows a_letters s_lettered a_hit a_lead a_defeat a_defeater s_ins s_outs a_order s_ordered a_is a_was s_reading s_isWell a_depths a_ways s_z, caI G a_w 43 u.1, caI G a_refusals 7 u.2])) (va_A [ceX11 h0 a_w a_kept a_laid s_hasImage a_refusals a_row s_rows a_letters s_lettered a_hit a_lead a_defeat a_defeater s_ins s_outs a_order s_ordered a_is a_was s_reading s_isWell a_depths a_ways s_z, caI G a_w 43 g_w, caI G a_refusals 7 g_refusals] sz)) 0 0 (va_A [ceX11 h0 a_w a_kept a_laid s_hasImage a_refusals a_row s_rows a_letters s_lettered a_hit a_lead a_defeat a_defeater s_ins s_outs a_order s_ordered a_is a_was s_reading s_isWell a_depths a_ways s_z, caI G a_w 43 g_w, caI G a_refusals 7 g_refusals] sz) := by
  refine Met.ofW (cc := cX11_kind) (maxL := 5) (ret := (some .int)) (by decide) rfl ?_
  intro p e s m args below meth c s₁ B hml hv
  obtain ⟨rfl, hsz, hP, hK, hD0⟩ := hv
  have hx := B.exec
  have hb := B.bytes
  have hr := B.returns
  have hts := atoms_spec (ws := wsX11_kind) B.pre
  have hown : s.vm.findClass RX11 = some m.cls := findClass_of_methodNamed B.named
  have hlocks := B.notSynchronized
  subst hsz
  have hD := hD0.self (sz := s.heap.size)
  generalize hAe : va_A [ceX11 h0 a_w a_kept a_laid s_hasImage a_refusals a_row s_rows a_letters s_lettered a_hit a_lead a_defeat a_defeater s_ins s_outs a_order s_ordered a_is a_was s_reading s_isWell a_depths a_ways s_z, caI G a_w 43 g_w, caI G a_refusals 7 g_refusals] s.heap.size = A at hD ⊢
  have hA : ∀ q : Nat, s.heap.size ≤ q → A q := fun q h => by rw [← hAe]; exact Or.inr h
  have hS : va_S A s.heap s.heap [] := va_S.rf
  have hP : va_P G.1 vwCl [ceX11 h0 a_w a_kept a_laid s_hasImage a_refusals a_row s_rows a_letters s_lettered a_hit a_lead a_defeat a_defeater s_ins s_outs a_order s_ordered a_is a_was s_reading s_isWell a_depths a_ways s_z, caI G a_w 43 g_w, caI G a_refusals 7 g_refusals] s.heap := hP
  have hl := lv_entry ([.ref h0, .int x1, .int x2, .int x3]) (n := 5) (Nat.le_of_ble_eq_true rfl)
  rw [lg_entry_eq]
  generalize (lg_sl ([.ref h0, .int x1, .int x2, .int x3]) ++ List.replicate (5 - (lg_sl ([.ref h0, .int x1, .int x2, .int x3])).length) Slot.unset).toArray = ls at hl ⊢
  have hl : lv_has ls 5 [(0, .ref h0), (1, .int x1), (2, .int x2), (3, .int x3)] := hl
  have kf0 := hts (.constantLong RX11 206 (5)) (List.mem_of_getElem? (i := 1) (by decide +kernel))
  have kf1 := hts (.constantLong RX11 208 (9)) (List.mem_of_getElem? (i := 2) (by decide +kernel))
  have kf2 := hts (.fieldLink RX11 9 "HallOfClaimsModel" "w" "[I") (List.mem_of_getElem? (i := 3) (by decide +kernel))
  have ki_X11 : ∀ w ∈ u_ws RX11 TX11 24, w ∈ wsX11_kind := by decide +kernel
  unfold wp_X11_kind at h
  refine lv_aload_n hx hb dX11_kind_0 rfl (lv_at hl 0 rfl) ?_
  refine lv_iload_n hx hb dX11_kind_1 rfl (lv_at hl 1 rfl) ?_
  refine hc_ki (wr := [caI G a_refusals 7 g_refusals]) (va_runV (As := [.int x1]) (rest := []) ⟨hx, hb, hml, hown, hts⟩ (c_X11_isClaim l G h0 a_w a_kept a_laid a_refusals a_row a_letters a_hit a_lead a_defeat a_defeater a_order a_is a_was a_depths a_ways s.heap.size s_hasImage s_rows s_lettered s_ins s_outs s_ordered s_reading s_isWell s_z g_w x1 _ h) (cwV 1 hts gX11_kind_X11_isClaim rfl rfl rfl (by decide +kernel) ⟨Nat.le_of_ble_eq_true rfl, Nat.le_of_ble_eq_true rfl⟩) (hc_pV hK hP hD [0, 1] rfl rfl (ci := 9) 0 rfl rfl) rfl rfl hl.1 rfl (lv_room (Nat.le_of_ble_eq_true rfl)) dX11_kind_2 ⟨Nat.le_refl _, Nat.le_refl _⟩) hP hD hS hA [0, 1] [2] rfl rfl rfl (by decide) (fun r2 u H locs h hP hD hS => ?_)
  try dsimp only at h
  have hP : va_P G.1 vwCl [caI G a_refusals 7 g_refusals, ceX11 h0 a_w a_kept a_laid s_hasImage a_refusals a_row s_rows a_letters s_lettered a_hit a_lead a_defeat a_defeater s_ins s_outs a_order s_ordered a_is a_was s_reading s_isWell a_depths a_ways s_z, caI G a_w 43 g_w] H := hP
  have hD : va_D A [caI G a_refusals 7 g_refusals, ceX11 h0 a_w a_kept a_laid s_hasImage a_refusals a_row s_rows a_letters s_lettered a_hit a_lead a_defeat a_defeater s_ins s_outs a_order s_ordered a_is a_was s_reading s_isWell a_depths a_ways s_z, caI G a_w 43 g_w] := hD
  refine lv_if_ne (tgt := 14) hx hb dX11_kind_5 (by decide) (fun c => ?_) (fun c => ?_)
  · replace h := h.1 c
    refine lv_iload_n hx hb dX11_kind_14 rfl (lv_at hl 2 rfl) ?_
    refine lv_i2l (v := x2.toInt64) hx hb dX11_kind_15 rfl ?_
    refine lv_lconst (v := lN 0) hx hb dX11_kind_16 kl_0 ?_
    refine lv_ldc2 (own := RX11) (v := 5) hx hb hown kf0 dX11_kind_17 ?_
    refine hc_ki (wr := [caI G a_refusals 7 g_refusals, ceX11 h0 a_w a_kept a_laid s_hasImage a_refusals a_row s_rows a_letters s_lettered a_hit a_lead a_defeat a_defeater s_ins s_outs a_order s_ordered a_is a_was s_reading s_isWell a_depths a_ways s_z, caI G a_w 43 g_w]) (va_runS (As := [.long x2.toInt64, .long (lN 0), .long ((5 : Int64))]) (rest := []) ⟨hx, hb, hml, hown, hts⟩ (c_X11_in l G H.size x2.toInt64 (lN 0) ((5 : Int64)) _ h) (va_cwS 3 hts gX11_kind_X11_in rfl rfl rfl (by decide +kernel) ⟨Nat.le_of_ble_eq_true rfl, Nat.le_of_ble_eq_true rfl⟩) (hc_pS hK hP hD [] rfl rfl) rfl rfl hl.1 rfl (lv_room (Nat.le_of_ble_eq_true rfl)) dX11_kind_20 ⟨Nat.le_refl _, Nat.le_refl _⟩) hP hD hS hA [] [0, 1, 2] rfl rfl rfl (by decide) (fun r20 u H locs h hP hD hS => ?_)
    try dsimp only at h
    have hP : va_P G.1 vwCl [caI G a_refusals 7 g_refusals, ceX11 h0 a_w a_kept a_laid s_hasImage a_refusals a_row s_rows a_letters s_lettered a_hit a_lead a_defeat a_defeater s_ins s_outs a_order s_ordered a_is a_was s_reading s_isWell a_depths a_ways s_z, caI G a_w 43 g_w] H := hP
    have hD : va_D A [caI G a_refusals 7 g_refusals, ceX11 h0 a_w a_kept a_laid s_hasImage a_refusals a_row s_rows a_letters s_lettered a_hit a_lead a_defeat a_defeater s_ins s_outs a_order s_ordered a_is a_was s_reading s_isWell a_depths a_ways s_z, caI G a_w 43 g_w] := hD
    refine lv_if_ne (tgt := 33) hx hb dX11_kind_23 (by decide) (fun c => ?_) (fun c => ?_)
    · replace h := h.1 c
      refine lv_iload_n hx hb dX11_kind_33 rfl (lv_at hl 3 rfl) ?_
      refine lv_i2l (v := x3.toInt64) hx hb dX11_kind_34 rfl ?_
      refine lv_lconst (v := lN 0) hx hb dX11_kind_35 kl_0 ?_
      refine lv_ldc2 (own := RX11) (v := 9) hx hb hown kf1 dX11_kind_36 ?_
      refine hc_ki (wr := [caI G a_refusals 7 g_refusals, ceX11 h0 a_w a_kept a_laid s_hasImage a_refusals a_row s_rows a_letters s_lettered a_hit a_lead a_defeat a_defeater s_ins s_outs a_order s_ordered a_is a_was s_reading s_isWell a_depths a_ways s_z, caI G a_w 43 g_w]) (va_runS (As := [.long x3.toInt64, .long (lN 0), .long ((9 : Int64))]) (rest := []) ⟨hx, hb, hml, hown, hts⟩ (c_X11_in l G H.size x3.toInt64 (lN 0) ((9 : Int64)) _ h) (va_cwS 3 hts gX11_kind_X11_in rfl rfl rfl (by decide +kernel) ⟨Nat.le_of_ble_eq_true rfl, Nat.le_of_ble_eq_true rfl⟩) (hc_pS hK hP hD [] rfl rfl) rfl rfl hl.1 rfl (lv_room (Nat.le_of_ble_eq_true rfl)) dX11_kind_39 ⟨Nat.le_refl _, Nat.le_refl _⟩) hP hD hS hA [] [0, 1, 2] rfl rfl rfl (by decide) (fun r39 u H locs h hP hD hS => ?_)
      try dsimp only at h
      have hP : va_P G.1 vwCl [caI G a_refusals 7 g_refusals, ceX11 h0 a_w a_kept a_laid s_hasImage a_refusals a_row s_rows a_letters s_lettered a_hit a_lead a_defeat a_defeater s_ins s_outs a_order s_ordered a_is a_was s_reading s_isWell a_depths a_ways s_z, caI G a_w 43 g_w] H := hP
      have hD : va_D A [caI G a_refusals 7 g_refusals, ceX11 h0 a_w a_kept a_laid s_hasImage a_refusals a_row s_rows a_letters s_lettered a_hit a_lead a_defeat a_defeater s_ins s_outs a_order s_ordered a_is a_was s_reading s_isWell a_depths a_ways s_z, caI G a_w 43 g_w] := hD
      refine lv_if_ne (tgt := 61) hx hb dX11_kind_42 (by decide) (fun c => ?_) (fun c => ?_)
      · replace h := h.1 c
        refine lv_bipush (v := nI 10) hx hb dX11_kind_61 kb_10 ?_
        refine lv_aload_n hx hb dX11_kind_63 rfl (lv_at hl 0 rfl) ?_
        refine va_get (D := G.1) (ci := 9) (v := .ref a_w) (C := RX11) (T := TX11) (N := 24) hx hb hts ki_X11 hown hK.1 hP 1 rfl rfl 0 (by decide) kf2 (fun _ h9 => h9) rfl dX11_kind_64 ?_
        refine lv_iconst (v := nI 0) hx hb dX11_kind_67 kc_0 ?_
        refine lv_iload_n hx hb dX11_kind_68 rfl (lv_at hl 1 rfl) ?_
        refine lv_iadd hx hb dX11_kind_69 ?_
        have hin := h.1
        replace h := h.2
        refine va_iald hx hb hK.1 hP 2 0 rfl rfl hin dX11_kind_70 ?_
        refine lv_imul hx hb dX11_kind_71 ?_
        refine lv_aload_n hx hb dX11_kind_72 rfl (lv_at hl 0 rfl) ?_
        refine va_get (D := G.1) (ci := 9) (v := .ref a_w) (C := RX11) (T := TX11) (N := 24) hx hb hts ki_X11 hown hK.1 hP 1 rfl rfl 0 (by decide) kf2 (fun _ h9 => h9) rfl dX11_kind_73 ?_
        refine lv_bipush (v := nI 8) hx hb dX11_kind_76 kb_8 ?_
        refine lv_iload_n hx hb dX11_kind_78 rfl (lv_at hl 1 rfl) ?_
        refine lv_iadd hx hb dX11_kind_79 ?_
        have hin := h.1
        replace h := h.2
        refine va_iald hx hb hK.1 hP 2 0 rfl rfl hin dX11_kind_80 ?_
        refine lv_iadd hx hb dX11_kind_81 ?_
        refine lv_topi (fun y82 ey82 => ?_)
        replace h := h _ ey82
        refine lv_istore (lv' := [(4, .int y82), (0, .ref h0), (1, .int x1), (2, .int x2), (3, .int x3)]) hx hb dX11_kind_82 hl (by decide) rfl (fun ls hl => ?_)
        refine lv_aload_n hx hb dX11_kind_84 rfl (lv_at hl 1 rfl) ?_
        refine va_get (D := G.1) (ci := 9) (v := .ref a_w) (C := RX11) (T := TX11) (N := 24) hx hb hts ki_X11 hown hK.1 hP 1 rfl rfl 0 (by decide) kf2 (fun _ h9 => h9) rfl dX11_kind_85 ?_
        refine lv_iconst (v := nI 0) hx hb dX11_kind_88 kc_0 ?_
        refine lv_iload_n hx hb dX11_kind_89 rfl (lv_at hl 2 rfl) ?_
        refine lv_iadd hx hb dX11_kind_90 ?_
        refine lv_iload_n hx hb dX11_kind_91 rfl (lv_at hl 3 rfl) ?_
        have hin := h.1
        replace h := h.2
        refine va_iast hx hb hK.1 hP hD hS 2 0 rfl rfl hin dX11_kind_92 (fun H locs hP hD hS => ?_)
        have hP : va_P G.1 vwCl [caI G a_refusals 7 g_refusals, ceX11 h0 a_w a_kept a_laid s_hasImage a_refusals a_row s_rows a_letters s_lettered a_hit a_lead a_defeat a_defeater s_ins s_outs a_order s_ordered a_is a_was s_reading s_isWell a_depths a_ways s_z, caI G a_w 43 (upd g_w ((nI 0) + x1).toNatClampNeg x2)] H := hP
        have hD : va_D A [caI G a_refusals 7 g_refusals, ceX11 h0 a_w a_kept a_laid s_hasImage a_refusals a_row s_rows a_letters s_lettered a_hit a_lead a_defeat a_defeater s_ins s_outs a_order s_ordered a_is a_was s_reading s_isWell a_depths a_ways s_z, caI G a_w 43 (upd g_w ((nI 0) + x1).toNatClampNeg x2)] := hD
        refine lv_aload_n hx hb dX11_kind_93 rfl (lv_at hl 1 rfl) ?_
        refine va_get (D := G.1) (ci := 9) (v := .ref a_w) (C := RX11) (T := TX11) (N := 24) hx hb hts ki_X11 hown hK.1 hP 1 rfl rfl 0 (by decide) kf2 (fun _ h9 => h9) rfl dX11_kind_94 ?_
        refine lv_bipush (v := nI 8) hx hb dX11_kind_97 kb_8 ?_
        refine lv_iload_n hx hb dX11_kind_99 rfl (lv_at hl 2 rfl) ?_
        refine lv_iadd hx hb dX11_kind_100 ?_
        refine lv_iload_n hx hb dX11_kind_101 rfl (lv_at hl 4 rfl) ?_
        have hin := h.1
        replace h := h.2
        refine va_iast hx hb hK.1 hP hD hS 2 0 rfl rfl hin dX11_kind_102 (fun H locs hP hD hS => ?_)
        have hP : va_P G.1 vwCl [caI G a_refusals 7 g_refusals, ceX11 h0 a_w a_kept a_laid s_hasImage a_refusals a_row s_rows a_letters s_lettered a_hit a_lead a_defeat a_defeater s_ins s_outs a_order s_ordered a_is a_was s_reading s_isWell a_depths a_ways s_z, caI G a_w 43 (upd (upd g_w ((nI 0) + x1).toNatClampNeg x2) ((nI 8) + x1).toNatClampNeg x3)] H := hP
        have hD : va_D A [caI G a_refusals 7 g_refusals, ceX11 h0 a_w a_kept a_laid s_hasImage a_refusals a_row s_rows a_letters s_lettered a_hit a_lead a_defeat a_defeater s_ins s_outs a_order s_ordered a_is a_was s_reading s_isWell a_depths a_ways s_z, caI G a_w 43 (upd (upd g_w ((nI 0) + x1).toNatClampNeg x2) ((nI 8) + x1).toNatClampNeg x3)] := hD
        refine lv_iload hx hb dX11_kind_103 (lv_at hl 0 rfl) ?_
        exact W.iret (v := y82) hx hb hr (fun t ht hW => ⟨⟨_, ⟨(upd (upd g_w ((nI 0) + x1).toNatClampNeg x2) ((nI 8) + x1).toNatClampNeg x3), g_refusals⟩, rfl, h, ⟨by rw [ht]; exact (hP.sub [1, 2, 0] rfl), (hD.sub [1, 2, 0] (by decide) rfl)⟩⟩, hS.F ht⟩) hS.2.2 dX11_kind_105
      · replace h := h.2 c
        refine lv_aload_n hx hb dX11_kind_45 rfl (lv_at hl 0 rfl) ?_
        refine lv_iload_n hx hb dX11_kind_46 rfl (lv_at hl 3 rfl) ?_
        refine lv_if_ge (tgt := 55) hx hb dX11_kind_47 (by decide) (fun c => ?_) (fun c => ?_)
        · replace h := h.1 c
          refine lv_bipush (v := (-6 : Int32)) hx hb dX11_kind_55 kb_m6 ?_
          refine hc_ki (wr := [caI G a_w 43 g_w]) (va_runV (As := [.int ((-6 : Int32))]) (rest := []) ⟨hx, hb, hml, hown, hts⟩ (c_X11_refused l G h0 a_w a_kept a_laid a_refusals a_row a_letters a_hit a_lead a_defeat a_defeater a_order a_is a_was a_depths a_ways H.size s_hasImage s_rows s_lettered s_ins s_outs s_ordered s_reading s_isWell s_z g_refusals ((-6 : Int32)) _ h) (cwV 1 hts gX11_kind_X11_refused rfl rfl rfl (by decide +kernel) ⟨Nat.le_of_ble_eq_true rfl, Nat.le_of_ble_eq_true rfl⟩) (hc_pV hK hP hD [1, 0] rfl rfl (ci := 9) 1 rfl rfl) rfl rfl hl.1 rfl (lv_room (Nat.le_of_ble_eq_true rfl)) dX11_kind_57 ⟨Nat.le_refl _, Nat.le_refl _⟩) hP hD hS hA [1, 0] [2] rfl rfl rfl (by decide) (fun r57 u H locs h hP hD hS => ?_)
          obtain ⟨g_refusals_57, rfl⟩ : ∃ z, z = u := ⟨_, rfl⟩
          try dsimp only at h
          have hP : va_P G.1 vwCl [caI G a_w 43 g_w, ceX11 h0 a_w a_kept a_laid s_hasImage a_refusals a_row s_rows a_letters s_lettered a_hit a_lead a_defeat a_defeater s_ins s_outs a_order s_ordered a_is a_was s_reading s_isWell a_depths a_ways s_z, caI G a_refusals 7 g_refusals_57] H := hP
          have hD : va_D A [caI G a_w 43 g_w, ceX11 h0 a_w a_kept a_laid s_hasImage a_refusals a_row s_rows a_letters s_lettered a_hit a_lead a_defeat a_defeater s_ins s_outs a_order s_ordered a_is a_was s_reading s_isWell a_depths a_ways s_z, caI G a_refusals 7 g_refusals_57] := hD
          exact W.iret (v := r57) hx hb hr (fun t ht hW => ⟨⟨_, ⟨g_w, g_refusals_57⟩, rfl, h, ⟨by rw [ht]; exact (hP.sub [1, 0, 2] rfl), (hD.sub [1, 0, 2] (by decide) rfl)⟩⟩, hS.F ht⟩) hS.2.2 dX11_kind_60
        · replace h := h.2 c
          refine lv_bipush (v := (-4 : Int32)) hx hb dX11_kind_50 kb_m4 ?_
          refine lv_goto (tgt := 57) hx hb dX11_kind_52 (by decide) ?_
          refine hc_ki (wr := [caI G a_w 43 g_w]) (va_runV (As := [.int ((-4 : Int32))]) (rest := []) ⟨hx, hb, hml, hown, hts⟩ (c_X11_refused l G h0 a_w a_kept a_laid a_refusals a_row a_letters a_hit a_lead a_defeat a_defeater a_order a_is a_was a_depths a_ways H.size s_hasImage s_rows s_lettered s_ins s_outs s_ordered s_reading s_isWell s_z g_refusals ((-4 : Int32)) _ h) (cwV 1 hts gX11_kind_X11_refused rfl rfl rfl (by decide +kernel) ⟨Nat.le_of_ble_eq_true rfl, Nat.le_of_ble_eq_true rfl⟩) (hc_pV hK hP hD [1, 0] rfl rfl (ci := 9) 1 rfl rfl) rfl rfl hl.1 rfl (lv_room (Nat.le_of_ble_eq_true rfl)) dX11_kind_57 ⟨Nat.le_refl _, Nat.le_refl _⟩) hP hD hS hA [1, 0] [2] rfl rfl rfl (by decide) (fun r57 u H locs h hP hD hS => ?_)
          obtain ⟨g_refusals_57, rfl⟩ : ∃ z, z = u := ⟨_, rfl⟩
          try dsimp only at h
          have hP : va_P G.1 vwCl [caI G a_w 43 g_w, ceX11 h0 a_w a_kept a_laid s_hasImage a_refusals a_row s_rows a_letters s_lettered a_hit a_lead a_defeat a_defeater s_ins s_outs a_order s_ordered a_is a_was s_reading s_isWell a_depths a_ways s_z, caI G a_refusals 7 g_refusals_57] H := hP
          have hD : va_D A [caI G a_w 43 g_w, ceX11 h0 a_w a_kept a_laid s_hasImage a_refusals a_row s_rows a_letters s_lettered a_hit a_lead a_defeat a_defeater s_ins s_outs a_order s_ordered a_is a_was s_reading s_isWell a_depths a_ways s_z, caI G a_refusals 7 g_refusals_57] := hD
          exact W.iret (v := r57) hx hb hr (fun t ht hW => ⟨⟨_, ⟨g_w, g_refusals_57⟩, rfl, h, ⟨by rw [ht]; exact (hP.sub [1, 0, 2] rfl), (hD.sub [1, 0, 2] (by decide) rfl)⟩⟩, hS.F ht⟩) hS.2.2 dX11_kind_60
    · replace h := h.2 c
      refine lv_aload_n hx hb dX11_kind_26 rfl (lv_at hl 0 rfl) ?_
      refine lv_bipush (v := (-2 : Int32)) hx hb dX11_kind_27 kb_m2 ?_
      refine hc_ki (wr := [caI G a_w 43 g_w]) (va_runV (As := [.int ((-2 : Int32))]) (rest := []) ⟨hx, hb, hml, hown, hts⟩ (c_X11_refused l G h0 a_w a_kept a_laid a_refusals a_row a_letters a_hit a_lead a_defeat a_defeater a_order a_is a_was a_depths a_ways H.size s_hasImage s_rows s_lettered s_ins s_outs s_ordered s_reading s_isWell s_z g_refusals ((-2 : Int32)) _ h) (cwV 1 hts gX11_kind_X11_refused rfl rfl rfl (by decide +kernel) ⟨Nat.le_of_ble_eq_true rfl, Nat.le_of_ble_eq_true rfl⟩) (hc_pV hK hP hD [1, 0] rfl rfl (ci := 9) 1 rfl rfl) rfl rfl hl.1 rfl (lv_room (Nat.le_of_ble_eq_true rfl)) dX11_kind_29 ⟨Nat.le_refl _, Nat.le_refl _⟩) hP hD hS hA [1, 0] [2] rfl rfl rfl (by decide) (fun r29 u H locs h hP hD hS => ?_)
      obtain ⟨g_refusals_29, rfl⟩ : ∃ z, z = u := ⟨_, rfl⟩
      try dsimp only at h
      have hP : va_P G.1 vwCl [caI G a_w 43 g_w, ceX11 h0 a_w a_kept a_laid s_hasImage a_refusals a_row s_rows a_letters s_lettered a_hit a_lead a_defeat a_defeater s_ins s_outs a_order s_ordered a_is a_was s_reading s_isWell a_depths a_ways s_z, caI G a_refusals 7 g_refusals_29] H := hP
      have hD : va_D A [caI G a_w 43 g_w, ceX11 h0 a_w a_kept a_laid s_hasImage a_refusals a_row s_rows a_letters s_lettered a_hit a_lead a_defeat a_defeater s_ins s_outs a_order s_ordered a_is a_was s_reading s_isWell a_depths a_ways s_z, caI G a_refusals 7 g_refusals_29] := hD
      exact W.iret (v := r29) hx hb hr (fun t ht hW => ⟨⟨_, ⟨g_w, g_refusals_29⟩, rfl, h, ⟨by rw [ht]; exact (hP.sub [1, 0, 2] rfl), (hD.sub [1, 0, 2] (by decide) rfl)⟩⟩, hS.F ht⟩) hS.2.2 dX11_kind_32
  · replace h := h.2 c
    refine lv_aload_n hx hb dX11_kind_8 rfl (lv_at hl 0 rfl) ?_
    refine lv_iconst (v := (-1 : Int32)) hx hb dX11_kind_9 kc_m1 ?_
    refine hc_ki (wr := [caI G a_w 43 g_w]) (va_runV (As := [.int ((-1 : Int32))]) (rest := []) ⟨hx, hb, hml, hown, hts⟩ (c_X11_refused l G h0 a_w a_kept a_laid a_refusals a_row a_letters a_hit a_lead a_defeat a_defeater a_order a_is a_was a_depths a_ways H.size s_hasImage s_rows s_lettered s_ins s_outs s_ordered s_reading s_isWell s_z g_refusals ((-1 : Int32)) _ h) (cwV 1 hts gX11_kind_X11_refused rfl rfl rfl (by decide +kernel) ⟨Nat.le_of_ble_eq_true rfl, Nat.le_of_ble_eq_true rfl⟩) (hc_pV hK hP hD [1, 0] rfl rfl (ci := 9) 1 rfl rfl) rfl rfl hl.1 rfl (lv_room (Nat.le_of_ble_eq_true rfl)) dX11_kind_10 ⟨Nat.le_refl _, Nat.le_refl _⟩) hP hD hS hA [1, 0] [2] rfl rfl rfl (by decide) (fun r10 u H locs h hP hD hS => ?_)
    obtain ⟨g_refusals_10, rfl⟩ : ∃ z, z = u := ⟨_, rfl⟩
    try dsimp only at h
    have hP : va_P G.1 vwCl [caI G a_w 43 g_w, ceX11 h0 a_w a_kept a_laid s_hasImage a_refusals a_row s_rows a_letters s_lettered a_hit a_lead a_defeat a_defeater s_ins s_outs a_order s_ordered a_is a_was s_reading s_isWell a_depths a_ways s_z, caI G a_refusals 7 g_refusals_10] H := hP
    have hD : va_D A [caI G a_w 43 g_w, ceX11 h0 a_w a_kept a_laid s_hasImage a_refusals a_row s_rows a_letters s_lettered a_hit a_lead a_defeat a_defeater s_ins s_outs a_order s_ordered a_is a_was s_reading s_isWell a_depths a_ways s_z, caI G a_refusals 7 g_refusals_10] := hD
    exact W.iret (v := r10) hx hb hr (fun t ht hW => ⟨⟨_, ⟨g_w, g_refusals_10⟩, rfl, h, ⟨by rw [ht]; exact (hP.sub [1, 0, 2] rfl), (hD.sub [1, 0, 2] (by decide) rfl)⟩⟩, hS.F ht⟩) hS.2.2 dX11_kind_13
set_option maxHeartbeats 4000000 in
set_option maxRecDepth 100000 in
theorem c_X11_toggles (l : Launch) (G : hcG) (h0 : Nat) (a_w : Nat) (a_kept : Nat) (a_laid : Nat) (a_refusals : Nat) (a_row : Nat) (a_letters : Nat) (a_hit : Nat) (a_lead : Nat) (a_defeat : Nat) (a_defeater : Nat) (a_order : Nat) (a_is : Nat) (a_was : Nat) (a_depths : Nat) (a_ways : Nat) (sz : Nat) (s_hasImage : Int32) (s_rows : Int32) (s_lettered : Int32) (s_ins : Int32) (s_outs : Int32) (s_ordered : Int32) (s_reading : Int32) (s_isWell : Int32) (s_z : Int32) (g_w : Nat → Int32) (g_refusals : Nat → Int32) (x1 : Int32) (x2 : Int32) (x3 : Int32) (post : Int32 → (Nat → Int32) → (Nat → Int32) → Prop) (h : wp_X11_toggles post g_w g_refusals x1 x2 x3) : Met l yX11_toggles wsX11_toggles ({ frames := 2, cells := 0, slots := 0, locals := 46 }) (hcPc G [.ref h0, .int x1, .int x2, .int x3] [ceX11 h0 a_w a_kept a_laid s_hasImage a_refusals a_row s_rows a_letters s_lettered a_hit a_lead a_defeat a_defeater s_ins s_outs a_order s_ordered a_is a_was s_reading s_isWell a_depths a_ways s_z, caI G a_w 43 g_w, caI G a_refusals 7 g_refusals] sz) (va_Qi (fun (r : Int32) (u : (Nat → Int32) × (Nat → Int32)) => post r u.1 u.2) (hcB G (va_A [ceX11 h0 a_w a_kept a_laid s_hasImage a_refusals a_row s_rows a_letters s_lettered a_hit a_lead a_defeat a_defeater s_ins s_outs a_order s_ordered a_is a_was s_reading s_isWell a_depths a_ways s_z, caI G a_w 43 g_w, caI G a_refusals 7 g_refusals] sz) (fun u : (Nat → Int32) × (Nat → Int32) => [ceX11 h0 a_w a_kept a_laid s_hasImage a_refusals a_row s_rows a_letters s_lettered a_hit a_lead a_defeat a_defeater s_ins s_outs a_order s_ordered a_is a_was s_reading s_isWell a_depths a_ways s_z, caI G a_w 43 u.1, caI G a_refusals 7 u.2])) (va_A [ceX11 h0 a_w a_kept a_laid s_hasImage a_refusals a_row s_rows a_letters s_lettered a_hit a_lead a_defeat a_defeater s_ins s_outs a_order s_ordered a_is a_was s_reading s_isWell a_depths a_ways s_z, caI G a_w 43 g_w, caI G a_refusals 7 g_refusals] sz)) 0 0 (va_A [ceX11 h0 a_w a_kept a_laid s_hasImage a_refusals a_row s_rows a_letters s_lettered a_hit a_lead a_defeat a_defeater s_ins s_outs a_order s_ordered a_is a_was s_reading s_isWell a_depths a_ways s_z, caI G a_w 43 g_w, caI G a_refusals 7 g_refusals] sz) := by
  refine Met.ofW (cc := cX11_toggles) (maxL := 4) (ret := (some .int)) (by decide) rfl ?_
  intro p e s m args below meth c s₁ B hml hv
  obtain ⟨rfl, hsz, hP, hK, hD0⟩ := hv
  have hx := B.exec
  have hb := B.bytes
  have hr := B.returns
  have hts := atoms_spec (ws := wsX11_toggles) B.pre
  have hown : s.vm.findClass RX11 = some m.cls := findClass_of_methodNamed B.named
  have hlocks := B.notSynchronized
  subst hsz
  have hD := hD0.self (sz := s.heap.size)
  generalize hAe : va_A [ceX11 h0 a_w a_kept a_laid s_hasImage a_refusals a_row s_rows a_letters s_lettered a_hit a_lead a_defeat a_defeater s_ins s_outs a_order s_ordered a_is a_was s_reading s_isWell a_depths a_ways s_z, caI G a_w 43 g_w, caI G a_refusals 7 g_refusals] s.heap.size = A at hD ⊢
  have hA : ∀ q : Nat, s.heap.size ≤ q → A q := fun q h => by rw [← hAe]; exact Or.inr h
  have hS : va_S A s.heap s.heap [] := va_S.rf
  have hP : va_P G.1 vwCl [ceX11 h0 a_w a_kept a_laid s_hasImage a_refusals a_row s_rows a_letters s_lettered a_hit a_lead a_defeat a_defeater s_ins s_outs a_order s_ordered a_is a_was s_reading s_isWell a_depths a_ways s_z, caI G a_w 43 g_w, caI G a_refusals 7 g_refusals] s.heap := hP
  have hl := lv_entry ([.ref h0, .int x1, .int x2, .int x3]) (n := 4) (Nat.le_of_ble_eq_true rfl)
  rw [lg_entry_eq]
  generalize (lg_sl ([.ref h0, .int x1, .int x2, .int x3]) ++ List.replicate (4 - (lg_sl ([.ref h0, .int x1, .int x2, .int x3])).length) Slot.unset).toArray = ls at hl ⊢
  have hl : lv_has ls 4 [(0, .ref h0), (1, .int x1), (2, .int x2), (3, .int x3)] := hl
  have kf0 := hts (.fieldLink RX11 9 "HallOfClaimsModel" "w" "[I") (List.mem_of_getElem? (i := 1) (by decide +kernel))
  have ki_X11 : ∀ w ∈ u_ws RX11 TX11 24, w ∈ wsX11_toggles := by decide +kernel
  unfold wp_X11_toggles at h
  refine lv_aload_n hx hb dX11_toggles_0 rfl (lv_at hl 0 rfl) ?_
  refine lv_iload_n hx hb dX11_toggles_1 rfl (lv_at hl 2 rfl) ?_
  refine hc_ki (wr := [caI G a_refusals 7 g_refusals]) (va_runV (As := [.int x2]) (rest := []) ⟨hx, hb, hml, hown, hts⟩ (c_X11_isClaim l G h0 a_w a_kept a_laid a_refusals a_row a_letters a_hit a_lead a_defeat a_defeater a_order a_is a_was a_depths a_ways s.heap.size s_hasImage s_rows s_lettered s_ins s_outs s_ordered s_reading s_isWell s_z g_w x2 _ h) (cwV 1 hts gX11_toggles_X11_isClaim rfl rfl rfl (by decide +kernel) ⟨Nat.le_of_ble_eq_true rfl, Nat.le_of_ble_eq_true rfl⟩) (hc_pV hK hP hD [0, 1] rfl rfl (ci := 9) 0 rfl rfl) rfl rfl hl.1 rfl (lv_room (Nat.le_of_ble_eq_true rfl)) dX11_toggles_2 ⟨Nat.le_refl _, Nat.le_refl _⟩) hP hD hS hA [0, 1] [2] rfl rfl rfl (by decide) (fun r2 u H locs h hP hD hS => ?_)
  try dsimp only at h
  have hP : va_P G.1 vwCl [caI G a_refusals 7 g_refusals, ceX11 h0 a_w a_kept a_laid s_hasImage a_refusals a_row s_rows a_letters s_lettered a_hit a_lead a_defeat a_defeater s_ins s_outs a_order s_ordered a_is a_was s_reading s_isWell a_depths a_ways s_z, caI G a_w 43 g_w] H := hP
  have hD : va_D A [caI G a_refusals 7 g_refusals, ceX11 h0 a_w a_kept a_laid s_hasImage a_refusals a_row s_rows a_letters s_lettered a_hit a_lead a_defeat a_defeater s_ins s_outs a_order s_ordered a_is a_was s_reading s_isWell a_depths a_ways s_z, caI G a_w 43 g_w] := hD
  refine lv_if_eq (tgt := 16) hx hb dX11_toggles_5 (by decide) (fun c => ?_) (fun c => ?_)
  · replace h := h.1 c
    refine lv_aload_n hx hb dX11_toggles_16 rfl (lv_at hl 0 rfl) ?_
    refine lv_iconst (v := (-1 : Int32)) hx hb dX11_toggles_17 kc_m1 ?_
    refine hc_ki (wr := [caI G a_w 43 g_w]) (va_runV (As := [.int ((-1 : Int32))]) (rest := []) ⟨hx, hb, hml, hown, hts⟩ (c_X11_refused l G h0 a_w a_kept a_laid a_refusals a_row a_letters a_hit a_lead a_defeat a_defeater a_order a_is a_was a_depths a_ways H.size s_hasImage s_rows s_lettered s_ins s_outs s_ordered s_reading s_isWell s_z g_refusals ((-1 : Int32)) _ h) (cwV 1 hts gX11_toggles_X11_refused rfl rfl rfl (by decide +kernel) ⟨Nat.le_of_ble_eq_true rfl, Nat.le_of_ble_eq_true rfl⟩) (hc_pV hK hP hD [1, 0] rfl rfl (ci := 9) 1 rfl rfl) rfl rfl hl.1 rfl (lv_room (Nat.le_of_ble_eq_true rfl)) dX11_toggles_18 ⟨Nat.le_refl _, Nat.le_refl _⟩) hP hD hS hA [1, 0] [2] rfl rfl rfl (by decide) (fun r18 u H locs h hP hD hS => ?_)
    obtain ⟨g_refusals_18, rfl⟩ : ∃ z, z = u := ⟨_, rfl⟩
    try dsimp only at h
    have hP : va_P G.1 vwCl [caI G a_w 43 g_w, ceX11 h0 a_w a_kept a_laid s_hasImage a_refusals a_row s_rows a_letters s_lettered a_hit a_lead a_defeat a_defeater s_ins s_outs a_order s_ordered a_is a_was s_reading s_isWell a_depths a_ways s_z, caI G a_refusals 7 g_refusals_18] H := hP
    have hD : va_D A [caI G a_w 43 g_w, ceX11 h0 a_w a_kept a_laid s_hasImage a_refusals a_row s_rows a_letters s_lettered a_hit a_lead a_defeat a_defeater s_ins s_outs a_order s_ordered a_is a_was s_reading s_isWell a_depths a_ways s_z, caI G a_refusals 7 g_refusals_18] := hD
    exact W.iret (v := r18) hx hb hr (fun t ht hW => ⟨⟨_, ⟨g_w, g_refusals_18⟩, rfl, h, ⟨by rw [ht]; exact (hP.sub [1, 0, 2] rfl), (hD.sub [1, 0, 2] (by decide) rfl)⟩⟩, hS.F ht⟩) hS.2.2 dX11_toggles_21
  · replace h := h.2 c
    refine lv_aload_n hx hb dX11_toggles_8 rfl (lv_at hl 0 rfl) ?_
    refine lv_iload_n hx hb dX11_toggles_9 rfl (lv_at hl 3 rfl) ?_
    refine hc_ki (wr := [caI G a_refusals 7 g_refusals]) (va_runV (As := [.int x3]) (rest := []) ⟨hx, hb, hml, hown, hts⟩ (c_X11_isClaim l G h0 a_w a_kept a_laid a_refusals a_row a_letters a_hit a_lead a_defeat a_defeater a_order a_is a_was a_depths a_ways H.size s_hasImage s_rows s_lettered s_ins s_outs s_ordered s_reading s_isWell s_z g_w x3 _ h) (cwV 1 hts gX11_toggles_X11_isClaim rfl rfl rfl (by decide +kernel) ⟨Nat.le_of_ble_eq_true rfl, Nat.le_of_ble_eq_true rfl⟩) (hc_pV hK hP hD [1, 2] rfl rfl (ci := 9) 1 rfl rfl) rfl rfl hl.1 rfl (lv_room (Nat.le_of_ble_eq_true rfl)) dX11_toggles_10 ⟨Nat.le_refl _, Nat.le_refl _⟩) hP hD hS hA [1, 2] [0] rfl rfl rfl (by decide) (fun r10 u H locs h hP hD hS => ?_)
    try dsimp only at h
    have hP : va_P G.1 vwCl [caI G a_refusals 7 g_refusals, ceX11 h0 a_w a_kept a_laid s_hasImage a_refusals a_row s_rows a_letters s_lettered a_hit a_lead a_defeat a_defeater s_ins s_outs a_order s_ordered a_is a_was s_reading s_isWell a_depths a_ways s_z, caI G a_w 43 g_w] H := hP
    have hD : va_D A [caI G a_refusals 7 g_refusals, ceX11 h0 a_w a_kept a_laid s_hasImage a_refusals a_row s_rows a_letters s_lettered a_hit a_lead a_defeat a_defeater s_ins s_outs a_order s_ordered a_is a_was s_reading s_isWell a_depths a_ways s_z, caI G a_w 43 g_w] := hD
    refine lv_if_ne (tgt := 22) hx hb dX11_toggles_13 (by decide) (fun c => ?_) (fun c => ?_)
    · replace h := h.1 c
      refine lv_iload_n hx hb dX11_toggles_22 rfl (lv_at hl 2 rfl) ?_
      refine lv_iload_n hx hb dX11_toggles_23 rfl (lv_at hl 3 rfl) ?_
      refine lv_icmp_ne (tgt := 34) hx hb dX11_toggles_24 (by decide) (fun c => ?_) (fun c => ?_)
      · replace h := h.1 c
        refine lv_aload_n hx hb dX11_toggles_34 rfl (lv_at hl 0 rfl) ?_
        refine va_get (D := G.1) (ci := 9) (v := .ref a_w) (C := RX11) (T := TX11) (N := 24) hx hb hts ki_X11 hown hK.1 hP 1 rfl rfl 0 (by decide) kf0 (fun _ h9 => h9) rfl dX11_toggles_35 ?_
        refine lv_iload_n hx hb dX11_toggles_38 rfl (lv_at hl 1 rfl) ?_
        refine lv_iload_n hx hb dX11_toggles_39 rfl (lv_at hl 2 rfl) ?_
        refine lv_iadd hx hb dX11_toggles_40 ?_
        refine lv_dup2_11 hx hb dX11_toggles_41 rfl rfl ?_
        have hin := h.1
        replace h := h.2
        refine va_iald hx hb hK.1 hP 2 0 rfl rfl hin dX11_toggles_42 ?_
        refine lv_iconst (v := nI 1) hx hb dX11_toggles_43 kc_1 ?_
        refine lv_iload_n hx hb dX11_toggles_44 rfl (lv_at hl 3 rfl) ?_
        refine lv_ishl hx hb dX11_toggles_45 ?_
        refine lv_ixor hx hb dX11_toggles_46 ?_
        have hin := h.1
        replace h := h.2
        refine va_iast hx hb hK.1 hP hD hS 2 0 rfl rfl hin dX11_toggles_47 (fun H locs hP hD hS => ?_)
        have hP : va_P G.1 vwCl [caI G a_refusals 7 g_refusals, ceX11 h0 a_w a_kept a_laid s_hasImage a_refusals a_row s_rows a_letters s_lettered a_hit a_lead a_defeat a_defeater s_ins s_outs a_order s_ordered a_is a_was s_reading s_isWell a_depths a_ways s_z, caI G a_w 43 (upd g_w (x1 + x2).toNatClampNeg ((g_w (x1 + x2).toNatClampNeg) ^^^ ((nI 1) <<< (x3 &&& 31))))] H := hP
        have hD : va_D A [caI G a_refusals 7 g_refusals, ceX11 h0 a_w a_kept a_laid s_hasImage a_refusals a_row s_rows a_letters s_lettered a_hit a_lead a_defeat a_defeater s_ins s_outs a_order s_ordered a_is a_was s_reading s_isWell a_depths a_ways s_z, caI G a_w 43 (upd g_w (x1 + x2).toNatClampNeg ((g_w (x1 + x2).toNatClampNeg) ^^^ ((nI 1) <<< (x3 &&& 31))))] := hD
        refine lv_aload_n hx hb dX11_toggles_48 rfl (lv_at hl 0 rfl) ?_
        refine va_get (D := G.1) (ci := 9) (v := .ref a_w) (C := RX11) (T := TX11) (N := 24) hx hb hts ki_X11 hown hK.1 hP 1 rfl rfl 0 (by decide) kf0 (fun _ h9 => h9) rfl dX11_toggles_49 ?_
        refine lv_iload_n hx hb dX11_toggles_52 rfl (lv_at hl 1 rfl) ?_
        refine lv_iload_n hx hb dX11_toggles_53 rfl (lv_at hl 2 rfl) ?_
        refine lv_iadd hx hb dX11_toggles_54 ?_
        have hin := h.1
        replace h := h.2
        refine va_iald hx hb hK.1 hP 2 0 rfl rfl hin dX11_toggles_55 ?_
        refine lv_iload_n hx hb dX11_toggles_56 rfl (lv_at hl 3 rfl) ?_
        refine lv_ishr hx hb dX11_toggles_57 ?_
        refine lv_iconst (v := nI 1) hx hb dX11_toggles_58 kc_1 ?_
        refine lv_iand hx hb dX11_toggles_59 ?_
        exact W.iret (v := (((upd g_w (x1 + x2).toNatClampNeg ((g_w (x1 + x2).toNatClampNeg) ^^^ ((nI 1) <<< (x3 &&& 31)))) (x1 + x2).toNatClampNeg) >>> (x3 &&& 31)) &&& (nI 1)) hx hb hr (fun t ht hW => ⟨⟨_, ⟨(upd g_w (x1 + x2).toNatClampNeg ((g_w (x1 + x2).toNatClampNeg) ^^^ ((nI 1) <<< (x3 &&& 31)))), g_refusals⟩, rfl, h, ⟨by rw [ht]; exact (hP.sub [1, 2, 0] rfl), (hD.sub [1, 2, 0] (by decide) rfl)⟩⟩, hS.F ht⟩) hS.2.2 dX11_toggles_60
      · replace h := h.2 c
        refine lv_aload_n hx hb dX11_toggles_27 rfl (lv_at hl 0 rfl) ?_
        refine lv_bipush (v := (-3 : Int32)) hx hb dX11_toggles_28 kb_m3 ?_
        refine hc_ki (wr := [caI G a_w 43 g_w]) (va_runV (As := [.int ((-3 : Int32))]) (rest := []) ⟨hx, hb, hml, hown, hts⟩ (c_X11_refused l G h0 a_w a_kept a_laid a_refusals a_row a_letters a_hit a_lead a_defeat a_defeater a_order a_is a_was a_depths a_ways H.size s_hasImage s_rows s_lettered s_ins s_outs s_ordered s_reading s_isWell s_z g_refusals ((-3 : Int32)) _ h) (cwV 1 hts gX11_toggles_X11_refused rfl rfl rfl (by decide +kernel) ⟨Nat.le_of_ble_eq_true rfl, Nat.le_of_ble_eq_true rfl⟩) (hc_pV hK hP hD [1, 0] rfl rfl (ci := 9) 1 rfl rfl) rfl rfl hl.1 rfl (lv_room (Nat.le_of_ble_eq_true rfl)) dX11_toggles_30 ⟨Nat.le_refl _, Nat.le_refl _⟩) hP hD hS hA [1, 0] [2] rfl rfl rfl (by decide) (fun r30 u H locs h hP hD hS => ?_)
        obtain ⟨g_refusals_30, rfl⟩ : ∃ z, z = u := ⟨_, rfl⟩
        try dsimp only at h
        have hP : va_P G.1 vwCl [caI G a_w 43 g_w, ceX11 h0 a_w a_kept a_laid s_hasImage a_refusals a_row s_rows a_letters s_lettered a_hit a_lead a_defeat a_defeater s_ins s_outs a_order s_ordered a_is a_was s_reading s_isWell a_depths a_ways s_z, caI G a_refusals 7 g_refusals_30] H := hP
        have hD : va_D A [caI G a_w 43 g_w, ceX11 h0 a_w a_kept a_laid s_hasImage a_refusals a_row s_rows a_letters s_lettered a_hit a_lead a_defeat a_defeater s_ins s_outs a_order s_ordered a_is a_was s_reading s_isWell a_depths a_ways s_z, caI G a_refusals 7 g_refusals_30] := hD
        exact W.iret (v := r30) hx hb hr (fun t ht hW => ⟨⟨_, ⟨g_w, g_refusals_30⟩, rfl, h, ⟨by rw [ht]; exact (hP.sub [1, 0, 2] rfl), (hD.sub [1, 0, 2] (by decide) rfl)⟩⟩, hS.F ht⟩) hS.2.2 dX11_toggles_33
    · replace h := h.2 c
      refine lv_aload_n hx hb dX11_toggles_16 rfl (lv_at hl 0 rfl) ?_
      refine lv_iconst (v := (-1 : Int32)) hx hb dX11_toggles_17 kc_m1 ?_
      refine hc_ki (wr := [caI G a_w 43 g_w]) (va_runV (As := [.int ((-1 : Int32))]) (rest := []) ⟨hx, hb, hml, hown, hts⟩ (c_X11_refused l G h0 a_w a_kept a_laid a_refusals a_row a_letters a_hit a_lead a_defeat a_defeater a_order a_is a_was a_depths a_ways H.size s_hasImage s_rows s_lettered s_ins s_outs s_ordered s_reading s_isWell s_z g_refusals ((-1 : Int32)) _ h) (cwV 1 hts gX11_toggles_X11_refused rfl rfl rfl (by decide +kernel) ⟨Nat.le_of_ble_eq_true rfl, Nat.le_of_ble_eq_true rfl⟩) (hc_pV hK hP hD [1, 0] rfl rfl (ci := 9) 1 rfl rfl) rfl rfl hl.1 rfl (lv_room (Nat.le_of_ble_eq_true rfl)) dX11_toggles_18 ⟨Nat.le_refl _, Nat.le_refl _⟩) hP hD hS hA [1, 0] [2] rfl rfl rfl (by decide) (fun r18 u H locs h hP hD hS => ?_)
      obtain ⟨g_refusals_18, rfl⟩ : ∃ z, z = u := ⟨_, rfl⟩
      try dsimp only at h
      have hP : va_P G.1 vwCl [caI G a_w 43 g_w, ceX11 h0 a_w a_kept a_laid s_hasImage a_refusals a_row s_rows a_letters s_lettered a_hit a_lead a_defeat a_defeater s_ins s_outs a_order s_ordered a_is a_was s_reading s_isWell a_depths a_ways s_z, caI G a_refusals 7 g_refusals_18] H := hP
      have hD : va_D A [caI G a_w 43 g_w, ceX11 h0 a_w a_kept a_laid s_hasImage a_refusals a_row s_rows a_letters s_lettered a_hit a_lead a_defeat a_defeater s_ins s_outs a_order s_ordered a_is a_was s_reading s_isWell a_depths a_ways s_z, caI G a_refusals 7 g_refusals_18] := hD
      exact W.iret (v := r18) hx hb hr (fun t ht hW => ⟨⟨_, ⟨g_w, g_refusals_18⟩, rfl, h, ⟨by rw [ht]; exact (hP.sub [1, 0, 2] rfl), (hD.sub [1, 0, 2] (by decide) rfl)⟩⟩, hS.F ht⟩) hS.2.2 dX11_toggles_21
set_option maxHeartbeats 4000000 in
set_option maxRecDepth 100000 in
theorem c_X11_attacks (l : Launch) (G : hcG) (h0 : Nat) (a_w : Nat) (a_kept : Nat) (a_laid : Nat) (a_refusals : Nat) (a_row : Nat) (a_letters : Nat) (a_hit : Nat) (a_lead : Nat) (a_defeat : Nat) (a_defeater : Nat) (a_order : Nat) (a_is : Nat) (a_was : Nat) (a_depths : Nat) (a_ways : Nat) (sz : Nat) (s_hasImage : Int32) (s_rows : Int32) (s_lettered : Int32) (s_ins : Int32) (s_outs : Int32) (s_ordered : Int32) (s_reading : Int32) (s_isWell : Int32) (s_z : Int32) (g_w : Nat → Int32) (g_refusals : Nat → Int32) (x1 : Int32) (x2 : Int32) (post : Int32 → (Nat → Int32) → (Nat → Int32) → Prop) (h : wp_X11_attacks post g_w g_refusals x1 x2) : Met l yX11_attacks wsX11_attacks ({ frames := 3, cells := 0, slots := 0, locals := 69 }) (hcPc G [.ref h0, .int x1, .int x2] [ceX11 h0 a_w a_kept a_laid s_hasImage a_refusals a_row s_rows a_letters s_lettered a_hit a_lead a_defeat a_defeater s_ins s_outs a_order s_ordered a_is a_was s_reading s_isWell a_depths a_ways s_z, caI G a_w 43 g_w, caI G a_refusals 7 g_refusals] sz) (va_Qi (fun (r : Int32) (u : (Nat → Int32) × (Nat → Int32)) => post r u.1 u.2) (hcB G (va_A [ceX11 h0 a_w a_kept a_laid s_hasImage a_refusals a_row s_rows a_letters s_lettered a_hit a_lead a_defeat a_defeater s_ins s_outs a_order s_ordered a_is a_was s_reading s_isWell a_depths a_ways s_z, caI G a_w 43 g_w, caI G a_refusals 7 g_refusals] sz) (fun u : (Nat → Int32) × (Nat → Int32) => [ceX11 h0 a_w a_kept a_laid s_hasImage a_refusals a_row s_rows a_letters s_lettered a_hit a_lead a_defeat a_defeater s_ins s_outs a_order s_ordered a_is a_was s_reading s_isWell a_depths a_ways s_z, caI G a_w 43 u.1, caI G a_refusals 7 u.2])) (va_A [ceX11 h0 a_w a_kept a_laid s_hasImage a_refusals a_row s_rows a_letters s_lettered a_hit a_lead a_defeat a_defeater s_ins s_outs a_order s_ordered a_is a_was s_reading s_isWell a_depths a_ways s_z, caI G a_w 43 g_w, caI G a_refusals 7 g_refusals] sz)) 0 0 (va_A [ceX11 h0 a_w a_kept a_laid s_hasImage a_refusals a_row s_rows a_letters s_lettered a_hit a_lead a_defeat a_defeater s_ins s_outs a_order s_ordered a_is a_was s_reading s_isWell a_depths a_ways s_z, caI G a_w 43 g_w, caI G a_refusals 7 g_refusals] sz) := by
  refine Met.ofW (cc := cX11_attacks) (maxL := 3) (ret := (some .int)) (by decide) rfl ?_
  intro p e s m args below meth c s₁ B hml hv
  obtain ⟨rfl, hsz, hP, hK, hD0⟩ := hv
  have hx := B.exec
  have hb := B.bytes
  have hr := B.returns
  have hts := atoms_spec (ws := wsX11_attacks) B.pre
  have hown : s.vm.findClass RX11 = some m.cls := findClass_of_methodNamed B.named
  have hlocks := B.notSynchronized
  subst hsz
  have hD := hD0.self (sz := s.heap.size)
  generalize hAe : va_A [ceX11 h0 a_w a_kept a_laid s_hasImage a_refusals a_row s_rows a_letters s_lettered a_hit a_lead a_defeat a_defeater s_ins s_outs a_order s_ordered a_is a_was s_reading s_isWell a_depths a_ways s_z, caI G a_w 43 g_w, caI G a_refusals 7 g_refusals] s.heap.size = A at hD ⊢
  have hA : ∀ q : Nat, s.heap.size ≤ q → A q := fun q h => by rw [← hAe]; exact Or.inr h
  have hS : va_S A s.heap s.heap [] := va_S.rf
  have hP : va_P G.1 vwCl [ceX11 h0 a_w a_kept a_laid s_hasImage a_refusals a_row s_rows a_letters s_lettered a_hit a_lead a_defeat a_defeater s_ins s_outs a_order s_ordered a_is a_was s_reading s_isWell a_depths a_ways s_z, caI G a_w 43 g_w, caI G a_refusals 7 g_refusals] s.heap := hP
  have hl := lv_entry ([.ref h0, .int x1, .int x2]) (n := 3) (Nat.le_of_ble_eq_true rfl)
  rw [lg_entry_eq]
  generalize (lg_sl ([.ref h0, .int x1, .int x2]) ++ List.replicate (3 - (lg_sl ([.ref h0, .int x1, .int x2])).length) Slot.unset).toArray = ls at hl ⊢
  have hl : lv_has ls 3 [(0, .ref h0), (1, .int x1), (2, .int x2)] := hl
  unfold wp_X11_attacks at h
  refine lv_aload_n hx hb dX11_attacks_0 rfl (lv_at hl 0 rfl) ?_
  refine lv_bipush (v := nI 24) hx hb dX11_attacks_1 kb_24 ?_
  refine lv_iload_n hx hb dX11_attacks_3 rfl (lv_at hl 1 rfl) ?_
  refine lv_iload_n hx hb dX11_attacks_4 rfl (lv_at hl 2 rfl) ?_
  refine hc_ki (wr := []) (va_runV (As := [.int (nI 24), .int x1, .int x2]) (rest := []) ⟨hx, hb, hml, hown, hts⟩ (c_X11_toggles l G h0 a_w a_kept a_laid a_refusals a_row a_letters a_hit a_lead a_defeat a_defeater a_order a_is a_was a_depths a_ways s.heap.size s_hasImage s_rows s_lettered s_ins s_outs s_ordered s_reading s_isWell s_z g_w g_refusals (nI 24) x1 x2 _ h) (cwV 3 hts gX11_attacks_X11_toggles rfl rfl rfl (by decide +kernel) ⟨Nat.le_of_ble_eq_true rfl, Nat.le_of_ble_eq_true rfl⟩) (hc_pV hK hP hD [0, 1, 2] rfl rfl (ci := 9) 0 rfl rfl) rfl rfl hl.1 rfl (lv_room (Nat.le_of_ble_eq_true rfl)) dX11_attacks_5 ⟨Nat.le_refl _, Nat.le_refl _⟩) hP hD hS hA [0, 1, 2] [] rfl rfl rfl (by decide) (fun r5 u H locs h hP hD hS => ?_)
  obtain ⟨g_w_5, g_refusals_5⟩ := u
  try dsimp only at h
  have hP : va_P G.1 vwCl [ceX11 h0 a_w a_kept a_laid s_hasImage a_refusals a_row s_rows a_letters s_lettered a_hit a_lead a_defeat a_defeater s_ins s_outs a_order s_ordered a_is a_was s_reading s_isWell a_depths a_ways s_z, caI G a_w 43 g_w_5, caI G a_refusals 7 g_refusals_5] H := hP
  have hD : va_D A [ceX11 h0 a_w a_kept a_laid s_hasImage a_refusals a_row s_rows a_letters s_lettered a_hit a_lead a_defeat a_defeater s_ins s_outs a_order s_ordered a_is a_was s_reading s_isWell a_depths a_ways s_z, caI G a_w 43 g_w_5, caI G a_refusals 7 g_refusals_5] := hD
  exact W.iret (v := r5) hx hb hr (fun t ht hW => ⟨⟨_, ⟨g_w_5, g_refusals_5⟩, rfl, h, ⟨by rw [ht]; exact hP, hD⟩⟩, hS.F ht⟩) hS.2.2 dX11_attacks_8
set_option maxHeartbeats 4000000 in
set_option maxRecDepth 100000 in
theorem c_X11_supports (l : Launch) (G : hcG) (h0 : Nat) (a_w : Nat) (a_kept : Nat) (a_laid : Nat) (a_refusals : Nat) (a_row : Nat) (a_letters : Nat) (a_hit : Nat) (a_lead : Nat) (a_defeat : Nat) (a_defeater : Nat) (a_order : Nat) (a_is : Nat) (a_was : Nat) (a_depths : Nat) (a_ways : Nat) (sz : Nat) (s_hasImage : Int32) (s_rows : Int32) (s_lettered : Int32) (s_ins : Int32) (s_outs : Int32) (s_ordered : Int32) (s_reading : Int32) (s_isWell : Int32) (s_z : Int32) (g_w : Nat → Int32) (g_refusals : Nat → Int32) (x1 : Int32) (x2 : Int32) (post : Int32 → (Nat → Int32) → (Nat → Int32) → Prop) (h : wp_X11_supports post g_w g_refusals x1 x2) : Met l yX11_supports wsX11_supports ({ frames := 3, cells := 0, slots := 0, locals := 69 }) (hcPc G [.ref h0, .int x1, .int x2] [ceX11 h0 a_w a_kept a_laid s_hasImage a_refusals a_row s_rows a_letters s_lettered a_hit a_lead a_defeat a_defeater s_ins s_outs a_order s_ordered a_is a_was s_reading s_isWell a_depths a_ways s_z, caI G a_w 43 g_w, caI G a_refusals 7 g_refusals] sz) (va_Qi (fun (r : Int32) (u : (Nat → Int32) × (Nat → Int32)) => post r u.1 u.2) (hcB G (va_A [ceX11 h0 a_w a_kept a_laid s_hasImage a_refusals a_row s_rows a_letters s_lettered a_hit a_lead a_defeat a_defeater s_ins s_outs a_order s_ordered a_is a_was s_reading s_isWell a_depths a_ways s_z, caI G a_w 43 g_w, caI G a_refusals 7 g_refusals] sz) (fun u : (Nat → Int32) × (Nat → Int32) => [ceX11 h0 a_w a_kept a_laid s_hasImage a_refusals a_row s_rows a_letters s_lettered a_hit a_lead a_defeat a_defeater s_ins s_outs a_order s_ordered a_is a_was s_reading s_isWell a_depths a_ways s_z, caI G a_w 43 u.1, caI G a_refusals 7 u.2])) (va_A [ceX11 h0 a_w a_kept a_laid s_hasImage a_refusals a_row s_rows a_letters s_lettered a_hit a_lead a_defeat a_defeater s_ins s_outs a_order s_ordered a_is a_was s_reading s_isWell a_depths a_ways s_z, caI G a_w 43 g_w, caI G a_refusals 7 g_refusals] sz)) 0 0 (va_A [ceX11 h0 a_w a_kept a_laid s_hasImage a_refusals a_row s_rows a_letters s_lettered a_hit a_lead a_defeat a_defeater s_ins s_outs a_order s_ordered a_is a_was s_reading s_isWell a_depths a_ways s_z, caI G a_w 43 g_w, caI G a_refusals 7 g_refusals] sz) := by
  refine Met.ofW (cc := cX11_supports) (maxL := 3) (ret := (some .int)) (by decide) rfl ?_
  intro p e s m args below meth c s₁ B hml hv
  obtain ⟨rfl, hsz, hP, hK, hD0⟩ := hv
  have hx := B.exec
  have hb := B.bytes
  have hr := B.returns
  have hts := atoms_spec (ws := wsX11_supports) B.pre
  have hown : s.vm.findClass RX11 = some m.cls := findClass_of_methodNamed B.named
  have hlocks := B.notSynchronized
  subst hsz
  have hD := hD0.self (sz := s.heap.size)
  generalize hAe : va_A [ceX11 h0 a_w a_kept a_laid s_hasImage a_refusals a_row s_rows a_letters s_lettered a_hit a_lead a_defeat a_defeater s_ins s_outs a_order s_ordered a_is a_was s_reading s_isWell a_depths a_ways s_z, caI G a_w 43 g_w, caI G a_refusals 7 g_refusals] s.heap.size = A at hD ⊢
  have hA : ∀ q : Nat, s.heap.size ≤ q → A q := fun q h => by rw [← hAe]; exact Or.inr h
  have hS : va_S A s.heap s.heap [] := va_S.rf
  have hP : va_P G.1 vwCl [ceX11 h0 a_w a_kept a_laid s_hasImage a_refusals a_row s_rows a_letters s_lettered a_hit a_lead a_defeat a_defeater s_ins s_outs a_order s_ordered a_is a_was s_reading s_isWell a_depths a_ways s_z, caI G a_w 43 g_w, caI G a_refusals 7 g_refusals] s.heap := hP
  have hl := lv_entry ([.ref h0, .int x1, .int x2]) (n := 3) (Nat.le_of_ble_eq_true rfl)
  rw [lg_entry_eq]
  generalize (lg_sl ([.ref h0, .int x1, .int x2]) ++ List.replicate (3 - (lg_sl ([.ref h0, .int x1, .int x2])).length) Slot.unset).toArray = ls at hl ⊢
  have hl : lv_has ls 3 [(0, .ref h0), (1, .int x1), (2, .int x2)] := hl
  unfold wp_X11_supports at h
  refine lv_aload_n hx hb dX11_supports_0 rfl (lv_at hl 0 rfl) ?_
  refine lv_bipush (v := nI 32) hx hb dX11_supports_1 kb_32 ?_
  refine lv_iload_n hx hb dX11_supports_3 rfl (lv_at hl 1 rfl) ?_
  refine lv_iload_n hx hb dX11_supports_4 rfl (lv_at hl 2 rfl) ?_
  refine hc_ki (wr := []) (va_runV (As := [.int (nI 32), .int x1, .int x2]) (rest := []) ⟨hx, hb, hml, hown, hts⟩ (c_X11_toggles l G h0 a_w a_kept a_laid a_refusals a_row a_letters a_hit a_lead a_defeat a_defeater a_order a_is a_was a_depths a_ways s.heap.size s_hasImage s_rows s_lettered s_ins s_outs s_ordered s_reading s_isWell s_z g_w g_refusals (nI 32) x1 x2 _ h) (cwV 3 hts gX11_supports_X11_toggles rfl rfl rfl (by decide +kernel) ⟨Nat.le_of_ble_eq_true rfl, Nat.le_of_ble_eq_true rfl⟩) (hc_pV hK hP hD [0, 1, 2] rfl rfl (ci := 9) 0 rfl rfl) rfl rfl hl.1 rfl (lv_room (Nat.le_of_ble_eq_true rfl)) dX11_supports_5 ⟨Nat.le_refl _, Nat.le_refl _⟩) hP hD hS hA [0, 1, 2] [] rfl rfl rfl (by decide) (fun r5 u H locs h hP hD hS => ?_)
  obtain ⟨g_w_5, g_refusals_5⟩ := u
  try dsimp only at h
  have hP : va_P G.1 vwCl [ceX11 h0 a_w a_kept a_laid s_hasImage a_refusals a_row s_rows a_letters s_lettered a_hit a_lead a_defeat a_defeater s_ins s_outs a_order s_ordered a_is a_was s_reading s_isWell a_depths a_ways s_z, caI G a_w 43 g_w_5, caI G a_refusals 7 g_refusals_5] H := hP
  have hD : va_D A [ceX11 h0 a_w a_kept a_laid s_hasImage a_refusals a_row s_rows a_letters s_lettered a_hit a_lead a_defeat a_defeater s_ins s_outs a_order s_ordered a_is a_was s_reading s_isWell a_depths a_ways s_z, caI G a_w 43 g_w_5, caI G a_refusals 7 g_refusals_5] := hD
  exact W.iret (v := r5) hx hb hr (fun t ht hW => ⟨⟨_, ⟨g_w_5, g_refusals_5⟩, rfl, h, ⟨by rw [ht]; exact hP, hD⟩⟩, hS.F ht⟩) hS.2.2 dX11_supports_8
set_option maxHeartbeats 4000000 in
set_option maxRecDepth 100000 in
theorem c_X11_mode (l : Launch) (G : hcG) (h0 : Nat) (a_w : Nat) (a_kept : Nat) (a_laid : Nat) (a_refusals : Nat) (a_row : Nat) (a_letters : Nat) (a_hit : Nat) (a_lead : Nat) (a_defeat : Nat) (a_defeater : Nat) (a_order : Nat) (a_is : Nat) (a_was : Nat) (a_depths : Nat) (a_ways : Nat) (sz : Nat) (s_hasImage : Int32) (s_rows : Int32) (s_lettered : Int32) (s_ins : Int32) (s_outs : Int32) (s_ordered : Int32) (s_reading : Int32) (s_isWell : Int32) (s_z : Int32) (g_w : Nat → Int32) (g_refusals : Nat → Int32) (x1 : Int32) (post : Int32 → (Nat → Int32) → (Nat → Int32) → Prop) (h : wp_X11_mode post g_w g_refusals x1) : Met l yX11_mode wsX11_mode ({ frames := 1, cells := 0, slots := 0, locals := 25 }) (hcPc G [.ref h0, .int x1] [ceX11 h0 a_w a_kept a_laid s_hasImage a_refusals a_row s_rows a_letters s_lettered a_hit a_lead a_defeat a_defeater s_ins s_outs a_order s_ordered a_is a_was s_reading s_isWell a_depths a_ways s_z, caI G a_w 43 g_w, caI G a_refusals 7 g_refusals] sz) (va_Qi (fun (r : Int32) (u : (Nat → Int32) × (Nat → Int32)) => post r u.1 u.2) (hcB G (va_A [ceX11 h0 a_w a_kept a_laid s_hasImage a_refusals a_row s_rows a_letters s_lettered a_hit a_lead a_defeat a_defeater s_ins s_outs a_order s_ordered a_is a_was s_reading s_isWell a_depths a_ways s_z, caI G a_w 43 g_w, caI G a_refusals 7 g_refusals] sz) (fun u : (Nat → Int32) × (Nat → Int32) => [ceX11 h0 a_w a_kept a_laid s_hasImage a_refusals a_row s_rows a_letters s_lettered a_hit a_lead a_defeat a_defeater s_ins s_outs a_order s_ordered a_is a_was s_reading s_isWell a_depths a_ways s_z, caI G a_w 43 u.1, caI G a_refusals 7 u.2])) (va_A [ceX11 h0 a_w a_kept a_laid s_hasImage a_refusals a_row s_rows a_letters s_lettered a_hit a_lead a_defeat a_defeater s_ins s_outs a_order s_ordered a_is a_was s_reading s_isWell a_depths a_ways s_z, caI G a_w 43 g_w, caI G a_refusals 7 g_refusals] sz)) 0 0 (va_A [ceX11 h0 a_w a_kept a_laid s_hasImage a_refusals a_row s_rows a_letters s_lettered a_hit a_lead a_defeat a_defeater s_ins s_outs a_order s_ordered a_is a_was s_reading s_isWell a_depths a_ways s_z, caI G a_w 43 g_w, caI G a_refusals 7 g_refusals] sz) := by
  refine Met.ofW (cc := cX11_mode) (maxL := 3) (ret := (some .int)) (by decide) rfl ?_
  intro p e s m args below meth c s₁ B hml hv
  obtain ⟨rfl, hsz, hP, hK, hD0⟩ := hv
  have hx := B.exec
  have hb := B.bytes
  have hr := B.returns
  have hts := atoms_spec (ws := wsX11_mode) B.pre
  have hown : s.vm.findClass RX11 = some m.cls := findClass_of_methodNamed B.named
  have hlocks := B.notSynchronized
  subst hsz
  have hD := hD0.self (sz := s.heap.size)
  generalize hAe : va_A [ceX11 h0 a_w a_kept a_laid s_hasImage a_refusals a_row s_rows a_letters s_lettered a_hit a_lead a_defeat a_defeater s_ins s_outs a_order s_ordered a_is a_was s_reading s_isWell a_depths a_ways s_z, caI G a_w 43 g_w, caI G a_refusals 7 g_refusals] s.heap.size = A at hD ⊢
  have hA : ∀ q : Nat, s.heap.size ≤ q → A q := fun q h => by rw [← hAe]; exact Or.inr h
  have hS : va_S A s.heap s.heap [] := va_S.rf
  have hP : va_P G.1 vwCl [ceX11 h0 a_w a_kept a_laid s_hasImage a_refusals a_row s_rows a_letters s_lettered a_hit a_lead a_defeat a_defeater s_ins s_outs a_order s_ordered a_is a_was s_reading s_isWell a_depths a_ways s_z, caI G a_w 43 g_w, caI G a_refusals 7 g_refusals] s.heap := hP
  have hl := lv_entry ([.ref h0, .int x1]) (n := 3) (Nat.le_of_ble_eq_true rfl)
  rw [lg_entry_eq]
  generalize (lg_sl ([.ref h0, .int x1]) ++ List.replicate (3 - (lg_sl ([.ref h0, .int x1])).length) Slot.unset).toArray = ls at hl ⊢
  have hl : lv_has ls 3 [(0, .ref h0), (1, .int x1)] := hl
  have kf0 := hts (.constantLong RX11 214 (3)) (List.mem_of_getElem? (i := 1) (by decide +kernel))
  have kf1 := hts (.fieldLink RX11 9 "HallOfClaimsModel" "w" "[I") (List.mem_of_getElem? (i := 2) (by decide +kernel))
  have ki_X11 : ∀ w ∈ u_ws RX11 TX11 24, w ∈ wsX11_mode := by decide +kernel
  unfold wp_X11_mode at h
  refine lv_iload_n hx hb dX11_mode_0 rfl (lv_at hl 1 rfl) ?_
  refine lv_i2l (v := x1.toInt64) hx hb dX11_mode_1 rfl ?_
  refine lv_lconst (v := lN 0) hx hb dX11_mode_2 kl_0 ?_
  refine lv_ldc2 (own := RX11) (v := 3) hx hb hown kf0 dX11_mode_3 ?_
  refine hc_ki (wr := [ceX11 h0 a_w a_kept a_laid s_hasImage a_refusals a_row s_rows a_letters s_lettered a_hit a_lead a_defeat a_defeater s_ins s_outs a_order s_ordered a_is a_was s_reading s_isWell a_depths a_ways s_z, caI G a_w 43 g_w, caI G a_refusals 7 g_refusals]) (va_runS (As := [.long x1.toInt64, .long (lN 0), .long ((3 : Int64))]) (rest := []) ⟨hx, hb, hml, hown, hts⟩ (c_X11_in l G s.heap.size x1.toInt64 (lN 0) ((3 : Int64)) _ h) (va_cwS 3 hts gX11_mode_X11_in rfl rfl rfl (by decide +kernel) ⟨Nat.le_of_ble_eq_true rfl, Nat.le_of_ble_eq_true rfl⟩) (hc_pS hK hP hD [] rfl rfl) rfl rfl hl.1 rfl (lv_room (Nat.le_of_ble_eq_true rfl)) dX11_mode_6 ⟨Nat.le_refl _, Nat.le_refl _⟩) hP hD hS hA [] [0, 1, 2] rfl rfl rfl (by decide) (fun r6 u H locs h hP hD hS => ?_)
  try dsimp only at h
  have hP : va_P G.1 vwCl [ceX11 h0 a_w a_kept a_laid s_hasImage a_refusals a_row s_rows a_letters s_lettered a_hit a_lead a_defeat a_defeater s_ins s_outs a_order s_ordered a_is a_was s_reading s_isWell a_depths a_ways s_z, caI G a_w 43 g_w, caI G a_refusals 7 g_refusals] H := hP
  have hD : va_D A [ceX11 h0 a_w a_kept a_laid s_hasImage a_refusals a_row s_rows a_letters s_lettered a_hit a_lead a_defeat a_defeater s_ins s_outs a_order s_ordered a_is a_was s_reading s_isWell a_depths a_ways s_z, caI G a_w 43 g_w, caI G a_refusals 7 g_refusals] := hD
  refine lv_if_ne (tgt := 28) hx hb dX11_mode_9 (by decide) (fun c => ?_) (fun c => ?_)
  · replace h := h.1 c
    refine lv_aload_n hx hb dX11_mode_28 rfl (lv_at hl 0 rfl) ?_
    refine va_get (D := G.1) (ci := 9) (v := .ref a_w) (C := RX11) (T := TX11) (N := 24) hx hb hts ki_X11 hown hK.1 hP 0 rfl rfl 0 (by decide) kf1 (fun _ h9 => h9) rfl dX11_mode_29 ?_
    refine lv_bipush (v := nI 41) hx hb dX11_mode_32 kb_41 ?_
    have hin := h.1
    replace h := h.2
    refine va_iald hx hb hK.1 hP 1 0 rfl rfl hin dX11_mode_34 ?_
    refine lv_istore_n (lv' := [(2, .int (g_w (nI 41).toNatClampNeg)), (0, .ref h0), (1, .int x1)]) hx hb dX11_mode_35 rfl hl (by decide) rfl (fun ls hl => ?_)
    refine lv_aload_n hx hb dX11_mode_36 rfl (lv_at hl 1 rfl) ?_
    refine va_get (D := G.1) (ci := 9) (v := .ref a_w) (C := RX11) (T := TX11) (N := 24) hx hb hts ki_X11 hown hK.1 hP 0 rfl rfl 0 (by decide) kf1 (fun _ h9 => h9) rfl dX11_mode_37 ?_
    refine lv_bipush (v := nI 41) hx hb dX11_mode_40 kb_41 ?_
    refine lv_iload_n hx hb dX11_mode_42 rfl (lv_at hl 2 rfl) ?_
    have hin := h.1
    replace h := h.2
    refine va_iast hx hb hK.1 hP hD hS 1 0 rfl rfl hin dX11_mode_43 (fun H locs hP hD hS => ?_)
    have hP : va_P G.1 vwCl [ceX11 h0 a_w a_kept a_laid s_hasImage a_refusals a_row s_rows a_letters s_lettered a_hit a_lead a_defeat a_defeater s_ins s_outs a_order s_ordered a_is a_was s_reading s_isWell a_depths a_ways s_z, caI G a_w 43 (upd g_w (nI 41).toNatClampNeg x1), caI G a_refusals 7 g_refusals] H := hP
    have hD : va_D A [ceX11 h0 a_w a_kept a_laid s_hasImage a_refusals a_row s_rows a_letters s_lettered a_hit a_lead a_defeat a_defeater s_ins s_outs a_order s_ordered a_is a_was s_reading s_isWell a_depths a_ways s_z, caI G a_w 43 (upd g_w (nI 41).toNatClampNeg x1), caI G a_refusals 7 g_refusals] := hD
    refine lv_iload_n hx hb dX11_mode_44 rfl (lv_at hl 0 rfl) ?_
    exact W.iret (v := g_w (nI 41).toNatClampNeg) hx hb hr (fun t ht hW => ⟨⟨_, ⟨(upd g_w (nI 41).toNatClampNeg x1), g_refusals⟩, rfl, h, ⟨by rw [ht]; exact hP, hD⟩⟩, hS.F ht⟩) hS.2.2 dX11_mode_45
  · replace h := h.2 c
    refine lv_aload_n hx hb dX11_mode_12 rfl (lv_at hl 0 rfl) ?_
    refine lv_iload_n hx hb dX11_mode_13 rfl (lv_at hl 1 rfl) ?_
    refine lv_if_ge (tgt := 22) hx hb dX11_mode_14 (by decide) (fun c => ?_) (fun c => ?_)
    · replace h := h.1 c
      refine lv_bipush (v := (-6 : Int32)) hx hb dX11_mode_22 kb_m6 ?_
      refine hc_ki (wr := [caI G a_w 43 g_w]) (va_runV (As := [.int ((-6 : Int32))]) (rest := []) ⟨hx, hb, hml, hown, hts⟩ (c_X11_refused l G h0 a_w a_kept a_laid a_refusals a_row a_letters a_hit a_lead a_defeat a_defeater a_order a_is a_was a_depths a_ways H.size s_hasImage s_rows s_lettered s_ins s_outs s_ordered s_reading s_isWell s_z g_refusals ((-6 : Int32)) _ h) (cwV 1 hts gX11_mode_X11_refused rfl rfl rfl (by decide +kernel) ⟨Nat.le_of_ble_eq_true rfl, Nat.le_of_ble_eq_true rfl⟩) (hc_pV hK hP hD [0, 2] rfl rfl (ci := 9) 0 rfl rfl) rfl rfl hl.1 rfl (lv_room (Nat.le_of_ble_eq_true rfl)) dX11_mode_24 ⟨Nat.le_refl _, Nat.le_refl _⟩) hP hD hS hA [0, 2] [1] rfl rfl rfl (by decide) (fun r24 u H locs h hP hD hS => ?_)
      obtain ⟨g_refusals_24, rfl⟩ : ∃ z, z = u := ⟨_, rfl⟩
      try dsimp only at h
      have hP : va_P G.1 vwCl [caI G a_w 43 g_w, ceX11 h0 a_w a_kept a_laid s_hasImage a_refusals a_row s_rows a_letters s_lettered a_hit a_lead a_defeat a_defeater s_ins s_outs a_order s_ordered a_is a_was s_reading s_isWell a_depths a_ways s_z, caI G a_refusals 7 g_refusals_24] H := hP
      have hD : va_D A [caI G a_w 43 g_w, ceX11 h0 a_w a_kept a_laid s_hasImage a_refusals a_row s_rows a_letters s_lettered a_hit a_lead a_defeat a_defeater s_ins s_outs a_order s_ordered a_is a_was s_reading s_isWell a_depths a_ways s_z, caI G a_refusals 7 g_refusals_24] := hD
      exact W.iret (v := r24) hx hb hr (fun t ht hW => ⟨⟨_, ⟨g_w, g_refusals_24⟩, rfl, h, ⟨by rw [ht]; exact (hP.sub [1, 0, 2] rfl), (hD.sub [1, 0, 2] (by decide) rfl)⟩⟩, hS.F ht⟩) hS.2.2 dX11_mode_27
    · replace h := h.2 c
      refine lv_bipush (v := (-4 : Int32)) hx hb dX11_mode_17 kb_m4 ?_
      refine lv_goto (tgt := 24) hx hb dX11_mode_19 (by decide) ?_
      refine hc_ki (wr := [caI G a_w 43 g_w]) (va_runV (As := [.int ((-4 : Int32))]) (rest := []) ⟨hx, hb, hml, hown, hts⟩ (c_X11_refused l G h0 a_w a_kept a_laid a_refusals a_row a_letters a_hit a_lead a_defeat a_defeater a_order a_is a_was a_depths a_ways H.size s_hasImage s_rows s_lettered s_ins s_outs s_ordered s_reading s_isWell s_z g_refusals ((-4 : Int32)) _ h) (cwV 1 hts gX11_mode_X11_refused rfl rfl rfl (by decide +kernel) ⟨Nat.le_of_ble_eq_true rfl, Nat.le_of_ble_eq_true rfl⟩) (hc_pV hK hP hD [0, 2] rfl rfl (ci := 9) 0 rfl rfl) rfl rfl hl.1 rfl (lv_room (Nat.le_of_ble_eq_true rfl)) dX11_mode_24 ⟨Nat.le_refl _, Nat.le_refl _⟩) hP hD hS hA [0, 2] [1] rfl rfl rfl (by decide) (fun r24 u H locs h hP hD hS => ?_)
      obtain ⟨g_refusals_24, rfl⟩ : ∃ z, z = u := ⟨_, rfl⟩
      try dsimp only at h
      have hP : va_P G.1 vwCl [caI G a_w 43 g_w, ceX11 h0 a_w a_kept a_laid s_hasImage a_refusals a_row s_rows a_letters s_lettered a_hit a_lead a_defeat a_defeater s_ins s_outs a_order s_ordered a_is a_was s_reading s_isWell a_depths a_ways s_z, caI G a_refusals 7 g_refusals_24] H := hP
      have hD : va_D A [caI G a_w 43 g_w, ceX11 h0 a_w a_kept a_laid s_hasImage a_refusals a_row s_rows a_letters s_lettered a_hit a_lead a_defeat a_defeater s_ins s_outs a_order s_ordered a_is a_was s_reading s_isWell a_depths a_ways s_z, caI G a_refusals 7 g_refusals_24] := hD
      exact W.iret (v := r24) hx hb hr (fun t ht hW => ⟨⟨_, ⟨g_w, g_refusals_24⟩, rfl, h, ⟨by rw [ht]; exact (hP.sub [1, 0, 2] rfl), (hD.sub [1, 0, 2] (by decide) rfl)⟩⟩, hS.F ht⟩) hS.2.2 dX11_mode_27
set_option maxHeartbeats 4000000 in
set_option maxRecDepth 100000 in
theorem c_X11_claim (l : Launch) (G : hcG) (h0 : Nat) (a_w : Nat) (a_kept : Nat) (a_laid : Nat) (a_refusals : Nat) (a_row : Nat) (a_letters : Nat) (a_hit : Nat) (a_lead : Nat) (a_defeat : Nat) (a_defeater : Nat) (a_order : Nat) (a_is : Nat) (a_was : Nat) (a_depths : Nat) (a_ways : Nat) (sz : Nat) (s_hasImage : Int32) (s_rows : Int32) (s_lettered : Int32) (s_ins : Int32) (s_outs : Int32) (s_ordered : Int32) (s_reading : Int32) (s_isWell : Int32) (s_z : Int32) (g_w : Nat → Int32) (g_refusals : Nat → Int32) (g_hit : Nat → Int32) (g_lead : Nat → Int32) (g_defeat : Nat → Int32) (g_defeater : Nat → Int32) (x1 : Int32) (x2 : Int32) (post : Int32 → (Nat → Int32) → (Nat → Int32) → (Nat → Int32) → (Nat → Int32) → (Nat → Int32) → Prop) (h : wp_X11_claim post g_w g_refusals g_hit g_lead g_defeat g_defeater x1 x2) : Met l yX11_claim wsX11_claim ({ frames := 4, cells := 0, slots := 0, locals := 86 }) (hcPc G [.ref h0, .int x1, .int x2] [ceX11 h0 a_w a_kept a_laid s_hasImage a_refusals a_row s_rows a_letters s_lettered a_hit a_lead a_defeat a_defeater s_ins s_outs a_order s_ordered a_is a_was s_reading s_isWell a_depths a_ways s_z, caI G a_w 43 g_w, caI G a_refusals 7 g_refusals, caI G a_hit 8 g_hit, caI G a_lead 8 g_lead, caI G a_defeat 8 g_defeat, caI G a_defeater 8 g_defeater] sz) (va_Qi (fun (r : Int32) (u : (Nat → Int32) × (Nat → Int32) × (Nat → Int32) × (Nat → Int32) × (Nat → Int32)) => post r u.1 u.2.1 u.2.2.1 u.2.2.2.1 u.2.2.2.2) (hcB G (va_A [ceX11 h0 a_w a_kept a_laid s_hasImage a_refusals a_row s_rows a_letters s_lettered a_hit a_lead a_defeat a_defeater s_ins s_outs a_order s_ordered a_is a_was s_reading s_isWell a_depths a_ways s_z, caI G a_w 43 g_w, caI G a_refusals 7 g_refusals, caI G a_hit 8 g_hit, caI G a_lead 8 g_lead, caI G a_defeat 8 g_defeat, caI G a_defeater 8 g_defeater] sz) (fun u : (Nat → Int32) × (Nat → Int32) × (Nat → Int32) × (Nat → Int32) × (Nat → Int32) => [ceX11 h0 a_w a_kept a_laid s_hasImage a_refusals a_row s_rows a_letters s_lettered a_hit a_lead a_defeat a_defeater s_ins s_outs a_order s_ordered a_is a_was s_reading s_isWell a_depths a_ways s_z, caI G a_w 43 g_w, caI G a_refusals 7 u.1, caI G a_hit 8 u.2.1, caI G a_lead 8 u.2.2.1, caI G a_defeat 8 u.2.2.2.1, caI G a_defeater 8 u.2.2.2.2])) (va_A [ceX11 h0 a_w a_kept a_laid s_hasImage a_refusals a_row s_rows a_letters s_lettered a_hit a_lead a_defeat a_defeater s_ins s_outs a_order s_ordered a_is a_was s_reading s_isWell a_depths a_ways s_z, caI G a_w 43 g_w, caI G a_refusals 7 g_refusals, caI G a_hit 8 g_hit, caI G a_lead 8 g_lead, caI G a_defeat 8 g_defeat, caI G a_defeater 8 g_defeater] sz)) 0 0 (va_A [ceX11 h0 a_w a_kept a_laid s_hasImage a_refusals a_row s_rows a_letters s_lettered a_hit a_lead a_defeat a_defeater s_ins s_outs a_order s_ordered a_is a_was s_reading s_isWell a_depths a_ways s_z, caI G a_w 43 g_w, caI G a_refusals 7 g_refusals, caI G a_hit 8 g_hit, caI G a_lead 8 g_lead, caI G a_defeat 8 g_defeat, caI G a_defeater 8 g_defeater] sz) := by
  refine Met.ofW (cc := cX11_claim) (maxL := 3) (ret := (some .int)) (by decide) rfl ?_
  intro p e s m args below meth c s₁ B hml hv
  obtain ⟨rfl, hsz, hP, hK, hD0⟩ := hv
  have hx := B.exec
  have hb := B.bytes
  have hr := B.returns
  have hts := atoms_spec (ws := wsX11_claim) B.pre
  have hown : s.vm.findClass RX11 = some m.cls := findClass_of_methodNamed B.named
  have hlocks := B.notSynchronized
  subst hsz
  have hD := hD0.self (sz := s.heap.size)
  generalize hAe : va_A [ceX11 h0 a_w a_kept a_laid s_hasImage a_refusals a_row s_rows a_letters s_lettered a_hit a_lead a_defeat a_defeater s_ins s_outs a_order s_ordered a_is a_was s_reading s_isWell a_depths a_ways s_z, caI G a_w 43 g_w, caI G a_refusals 7 g_refusals, caI G a_hit 8 g_hit, caI G a_lead 8 g_lead, caI G a_defeat 8 g_defeat, caI G a_defeater 8 g_defeater] s.heap.size = A at hD ⊢
  have hA : ∀ q : Nat, s.heap.size ≤ q → A q := fun q h => by rw [← hAe]; exact Or.inr h
  have hS : va_S A s.heap s.heap [] := va_S.rf
  have hP : va_P G.1 vwCl [ceX11 h0 a_w a_kept a_laid s_hasImage a_refusals a_row s_rows a_letters s_lettered a_hit a_lead a_defeat a_defeater s_ins s_outs a_order s_ordered a_is a_was s_reading s_isWell a_depths a_ways s_z, caI G a_w 43 g_w, caI G a_refusals 7 g_refusals, caI G a_hit 8 g_hit, caI G a_lead 8 g_lead, caI G a_defeat 8 g_defeat, caI G a_defeater 8 g_defeater] s.heap := hP
  have hl := lv_entry ([.ref h0, .int x1, .int x2]) (n := 3) (Nat.le_of_ble_eq_true rfl)
  rw [lg_entry_eq]
  generalize (lg_sl ([.ref h0, .int x1, .int x2]) ++ List.replicate (3 - (lg_sl ([.ref h0, .int x1, .int x2])).length) Slot.unset).toArray = ls at hl ⊢
  have hl : lv_has ls 3 [(0, .ref h0), (1, .int x1), (2, .int x2)] := hl
  have kf0 := hts (.fieldLink RX11 9 "HallOfClaimsModel" "w" "[I") (List.mem_of_getElem? (i := 1) (by decide +kernel))
  have kf1 := hts (.fieldLink RX11 28 "HallOfClaimsModel" "hit" "[I") (List.mem_of_getElem? (i := 2) (by decide +kernel))
  have kf2 := hts (.fieldLink RX11 31 "HallOfClaimsModel" "lead" "[I") (List.mem_of_getElem? (i := 3) (by decide +kernel))
  have kf3 := hts (.fieldLink RX11 34 "HallOfClaimsModel" "defeat" "[I") (List.mem_of_getElem? (i := 4) (by decide +kernel))
  have kf4 := hts (.fieldLink RX11 37 "HallOfClaimsModel" "defeater" "[I") (List.mem_of_getElem? (i := 5) (by decide +kernel))
  have ki_X11 : ∀ w ∈ u_ws RX11 TX11 24, w ∈ wsX11_claim := by decide +kernel
  unfold wp_X11_claim at h
  refine lv_aload_n hx hb dX11_claim_0 rfl (lv_at hl 0 rfl) ?_
  refine lv_iload_n hx hb dX11_claim_1 rfl (lv_at hl 1 rfl) ?_
  refine hc_ki (wr := [caI G a_refusals 7 g_refusals, caI G a_hit 8 g_hit, caI G a_lead 8 g_lead, caI G a_defeat 8 g_defeat, caI G a_defeater 8 g_defeater]) (va_runV (As := [.int x1]) (rest := []) ⟨hx, hb, hml, hown, hts⟩ (c_X11_isClaim l G h0 a_w a_kept a_laid a_refusals a_row a_letters a_hit a_lead a_defeat a_defeater a_order a_is a_was a_depths a_ways s.heap.size s_hasImage s_rows s_lettered s_ins s_outs s_ordered s_reading s_isWell s_z g_w x1 _ h) (cwV 1 hts gX11_claim_X11_isClaim rfl rfl rfl (by decide +kernel) ⟨Nat.le_of_ble_eq_true rfl, Nat.le_of_ble_eq_true rfl⟩) (hc_pV hK hP hD [0, 1] rfl rfl (ci := 9) 0 rfl rfl) rfl rfl hl.1 rfl (lv_room (Nat.le_of_ble_eq_true rfl)) dX11_claim_2 ⟨Nat.le_refl _, Nat.le_refl _⟩) hP hD hS hA [0, 1] [2, 3, 4, 5, 6] rfl rfl rfl (by decide) (fun r2 u H locs h hP hD hS => ?_)
  try dsimp only at h
  have hP : va_P G.1 vwCl [caI G a_refusals 7 g_refusals, caI G a_hit 8 g_hit, caI G a_lead 8 g_lead, caI G a_defeat 8 g_defeat, caI G a_defeater 8 g_defeater, ceX11 h0 a_w a_kept a_laid s_hasImage a_refusals a_row s_rows a_letters s_lettered a_hit a_lead a_defeat a_defeater s_ins s_outs a_order s_ordered a_is a_was s_reading s_isWell a_depths a_ways s_z, caI G a_w 43 g_w] H := hP
  have hD : va_D A [caI G a_refusals 7 g_refusals, caI G a_hit 8 g_hit, caI G a_lead 8 g_lead, caI G a_defeat 8 g_defeat, caI G a_defeater 8 g_defeater, ceX11 h0 a_w a_kept a_laid s_hasImage a_refusals a_row s_rows a_letters s_lettered a_hit a_lead a_defeat a_defeater s_ins s_outs a_order s_ordered a_is a_was s_reading s_isWell a_depths a_ways s_z, caI G a_w 43 g_w] := hD
  refine lv_if_ne (tgt := 14) hx hb dX11_claim_5 (by decide) (fun c => ?_) (fun c => ?_)
  · replace h := h.1 c
    refine lv_aload_n hx hb dX11_claim_14 rfl (lv_at hl 0 rfl) ?_
    refine hc_kv (wr := [caI G a_refusals 7 g_refusals]) (va_runV (As := []) (rest := []) ⟨hx, hb, hml, hown, hts⟩ (c_X11_reckons l G h0 a_w a_kept a_laid a_refusals a_row a_letters a_hit a_lead a_defeat a_defeater a_order a_is a_was a_depths a_ways H.size s_hasImage s_rows s_lettered s_ins s_outs s_ordered s_reading s_isWell s_z g_w g_hit g_lead g_defeat g_defeater _ h) (cwV 0 hts gX11_claim_X11_reckons rfl rfl rfl (by decide +kernel) ⟨Nat.le_of_ble_eq_true rfl, Nat.le_of_ble_eq_true rfl⟩) (hc_pV hK hP hD [5, 6, 1, 2, 3, 4] rfl rfl (ci := 9) 5 rfl rfl) rfl rfl hl.1 rfl (lv_room (Nat.le_of_ble_eq_true rfl)) dX11_claim_15 ⟨Nat.le_refl _, Nat.le_refl _⟩) hP hD hS hA [5, 6, 1, 2, 3, 4] [0] rfl rfl rfl (by decide) (fun u H locs h hP hD hS => ?_)
    obtain ⟨g_hit_15, g_lead_15, g_defeat_15, g_defeater_15⟩ := u
    try dsimp only at h
    have hP : va_P G.1 vwCl [caI G a_refusals 7 g_refusals, ceX11 h0 a_w a_kept a_laid s_hasImage a_refusals a_row s_rows a_letters s_lettered a_hit a_lead a_defeat a_defeater s_ins s_outs a_order s_ordered a_is a_was s_reading s_isWell a_depths a_ways s_z, caI G a_w 43 g_w, caI G a_hit 8 g_hit_15, caI G a_lead 8 g_lead_15, caI G a_defeat 8 g_defeat_15, caI G a_defeater 8 g_defeater_15] H := hP
    have hD : va_D A [caI G a_refusals 7 g_refusals, ceX11 h0 a_w a_kept a_laid s_hasImage a_refusals a_row s_rows a_letters s_lettered a_hit a_lead a_defeat a_defeater s_ins s_outs a_order s_ordered a_is a_was s_reading s_isWell a_depths a_ways s_z, caI G a_w 43 g_w, caI G a_hit 8 g_hit_15, caI G a_lead 8 g_lead_15, caI G a_defeat 8 g_defeat_15, caI G a_defeater 8 g_defeater_15] := hD
    refine lv_iload_n hx hb dX11_claim_18 rfl (lv_at hl 2 rfl) ?_
    rcases hc_sw9 x2 with c | c | c | c | c | c | c | c | c | c | c
    · refine lv_tableOut (tgt := 161) hx hb dX11_claim_19 c (by decide) ?_
      replace h := h.1 c
      refine lv_aload_n hx hb dX11_claim_161 rfl (lv_at hl 0 rfl) ?_
      refine lv_bipush (v := (-2 : Int32)) hx hb dX11_claim_162 kb_m2 ?_
      refine hc_ki (wr := [caI G a_w 43 g_w, caI G a_hit 8 g_hit_15, caI G a_lead 8 g_lead_15, caI G a_defeat 8 g_defeat_15, caI G a_defeater 8 g_defeater_15]) (va_runV (As := [.int ((-2 : Int32))]) (rest := []) ⟨hx, hb, hml, hown, hts⟩ (c_X11_refused l G h0 a_w a_kept a_laid a_refusals a_row a_letters a_hit a_lead a_defeat a_defeater a_order a_is a_was a_depths a_ways H.size s_hasImage s_rows s_lettered s_ins s_outs s_ordered s_reading s_isWell s_z g_refusals ((-2 : Int32)) _ h) (cwV 1 hts gX11_claim_X11_refused rfl rfl rfl (by decide +kernel) ⟨Nat.le_of_ble_eq_true rfl, Nat.le_of_ble_eq_true rfl⟩) (hc_pV hK hP hD [1, 0] rfl rfl (ci := 9) 1 rfl rfl) rfl rfl hl.1 rfl (lv_room (Nat.le_of_ble_eq_true rfl)) dX11_claim_164 ⟨Nat.le_refl _, Nat.le_refl _⟩) hP hD hS hA [1, 0] [2, 3, 4, 5, 6] rfl rfl rfl (by decide) (fun r164 u H locs h hP hD hS => ?_)
      obtain ⟨g_refusals_164, rfl⟩ : ∃ z, z = u := ⟨_, rfl⟩
      try dsimp only at h
      have hP : va_P G.1 vwCl [caI G a_w 43 g_w, caI G a_hit 8 g_hit_15, caI G a_lead 8 g_lead_15, caI G a_defeat 8 g_defeat_15, caI G a_defeater 8 g_defeater_15, ceX11 h0 a_w a_kept a_laid s_hasImage a_refusals a_row s_rows a_letters s_lettered a_hit a_lead a_defeat a_defeater s_ins s_outs a_order s_ordered a_is a_was s_reading s_isWell a_depths a_ways s_z, caI G a_refusals 7 g_refusals_164] H := hP
      have hD : va_D A [caI G a_w 43 g_w, caI G a_hit 8 g_hit_15, caI G a_lead 8 g_lead_15, caI G a_defeat 8 g_defeat_15, caI G a_defeater 8 g_defeater_15, ceX11 h0 a_w a_kept a_laid s_hasImage a_refusals a_row s_rows a_letters s_lettered a_hit a_lead a_defeat a_defeater s_ins s_outs a_order s_ordered a_is a_was s_reading s_isWell a_depths a_ways s_z, caI G a_refusals 7 g_refusals_164] := hD
      exact W.iret (v := r164) hx hb hr (fun t ht hW => ⟨⟨_, ⟨g_refusals_164, g_hit_15, g_lead_15, g_defeat_15, g_defeater_15⟩, rfl, h, ⟨by rw [ht]; exact (hP.sub [5, 0, 6, 1, 2, 3, 4] rfl), (hD.sub [5, 0, 6, 1, 2, 3, 4] (by decide) rfl)⟩⟩, hS.F ht⟩) hS.2.2 dX11_claim_167
    · refine lv_tableIn (tgt := 72) (off := 53) hx hb dX11_claim_19 (by rw [c]; decide) (by rw [c]; decide) (by rw [c]; decide +kernel) (by decide) ?_
      replace h := h.2.1 c
      refine lv_aload_n hx hb dX11_claim_72 rfl (lv_at hl 0 rfl) ?_
      refine va_get (D := G.1) (ci := 9) (v := .ref a_w) (C := RX11) (T := TX11) (N := 24) hx hb hts ki_X11 hown hK.1 hP 1 rfl rfl 0 (by decide) kf0 (fun _ h9 => h9) rfl dX11_claim_73 ?_
      refine lv_iconst (v := nI 0) hx hb dX11_claim_76 kc_0 ?_
      refine lv_iload_n hx hb dX11_claim_77 rfl (lv_at hl 1 rfl) ?_
      refine lv_iadd hx hb dX11_claim_78 ?_
      have hin := h.1
      replace h := h.2
      refine va_iald hx hb hK.1 hP 2 0 rfl rfl hin dX11_claim_79 ?_
      exact W.iret (v := g_w ((nI 0) + x1).toNatClampNeg) hx hb hr (fun t ht hW => ⟨⟨_, ⟨g_refusals, g_hit_15, g_lead_15, g_defeat_15, g_defeater_15⟩, rfl, h, ⟨by rw [ht]; exact (hP.sub [1, 2, 0, 3, 4, 5, 6] rfl), (hD.sub [1, 2, 0, 3, 4, 5, 6] (by decide) rfl)⟩⟩, hS.F ht⟩) hS.2.2 dX11_claim_80
    · refine lv_tableIn (tgt := 81) (off := 62) hx hb dX11_claim_19 (by rw [c]; decide) (by rw [c]; decide) (by rw [c]; decide +kernel) (by decide) ?_
      replace h := h.2.2.1 c
      refine lv_aload_n hx hb dX11_claim_81 rfl (lv_at hl 0 rfl) ?_
      refine va_get (D := G.1) (ci := 9) (v := .ref a_w) (C := RX11) (T := TX11) (N := 24) hx hb hts ki_X11 hown hK.1 hP 1 rfl rfl 0 (by decide) kf0 (fun _ h9 => h9) rfl dX11_claim_82 ?_
      refine lv_bipush (v := nI 8) hx hb dX11_claim_85 kb_8 ?_
      refine lv_iload_n hx hb dX11_claim_87 rfl (lv_at hl 1 rfl) ?_
      refine lv_iadd hx hb dX11_claim_88 ?_
      have hin := h.1
      replace h := h.2
      refine va_iald hx hb hK.1 hP 2 0 rfl rfl hin dX11_claim_89 ?_
      exact W.iret (v := g_w ((nI 8) + x1).toNatClampNeg) hx hb hr (fun t ht hW => ⟨⟨_, ⟨g_refusals, g_hit_15, g_lead_15, g_defeat_15, g_defeater_15⟩, rfl, h, ⟨by rw [ht]; exact (hP.sub [1, 2, 0, 3, 4, 5, 6] rfl), (hD.sub [1, 2, 0, 3, 4, 5, 6] (by decide) rfl)⟩⟩, hS.F ht⟩) hS.2.2 dX11_claim_90
    · refine lv_tableIn (tgt := 91) (off := 72) hx hb dX11_claim_19 (by rw [c]; decide) (by rw [c]; decide) (by rw [c]; decide +kernel) (by decide) ?_
      replace h := h.2.2.2.1 c
      refine lv_aload_n hx hb dX11_claim_91 rfl (lv_at hl 0 rfl) ?_
      refine va_get (D := G.1) (ci := 9) (v := .ref a_w) (C := RX11) (T := TX11) (N := 24) hx hb hts ki_X11 hown hK.1 hP 1 rfl rfl 0 (by decide) kf0 (fun _ h9 => h9) rfl dX11_claim_92 ?_
      refine lv_bipush (v := nI 16) hx hb dX11_claim_95 kb_16 ?_
      refine lv_iload_n hx hb dX11_claim_97 rfl (lv_at hl 1 rfl) ?_
      refine lv_iadd hx hb dX11_claim_98 ?_
      have hin := h.1
      replace h := h.2
      refine va_iald hx hb hK.1 hP 2 0 rfl rfl hin dX11_claim_99 ?_
      exact W.iret (v := g_w ((nI 16) + x1).toNatClampNeg) hx hb hr (fun t ht hW => ⟨⟨_, ⟨g_refusals, g_hit_15, g_lead_15, g_defeat_15, g_defeater_15⟩, rfl, h, ⟨by rw [ht]; exact (hP.sub [1, 2, 0, 3, 4, 5, 6] rfl), (hD.sub [1, 2, 0, 3, 4, 5, 6] (by decide) rfl)⟩⟩, hS.F ht⟩) hS.2.2 dX11_claim_100
    · refine lv_tableIn (tgt := 101) (off := 82) hx hb dX11_claim_19 (by rw [c]; decide) (by rw [c]; decide) (by rw [c]; decide +kernel) (by decide) ?_
      replace h := h.2.2.2.2.1 c
      refine lv_aload_n hx hb dX11_claim_101 rfl (lv_at hl 0 rfl) ?_
      refine va_get (D := G.1) (ci := 9) (v := .ref a_w) (C := RX11) (T := TX11) (N := 24) hx hb hts ki_X11 hown hK.1 hP 1 rfl rfl 0 (by decide) kf0 (fun _ h9 => h9) rfl dX11_claim_102 ?_
      refine lv_bipush (v := nI 40) hx hb dX11_claim_105 kb_40 ?_
      have hin := h.1
      replace h := h.2
      refine va_iald hx hb hK.1 hP 2 0 rfl rfl hin dX11_claim_107 ?_
      refine lv_iload_n hx hb dX11_claim_108 rfl (lv_at hl 1 rfl) ?_
      refine lv_ishr hx hb dX11_claim_109 ?_
      refine lv_iconst (v := nI 1) hx hb dX11_claim_110 kc_1 ?_
      refine lv_iand hx hb dX11_claim_111 ?_
      exact W.iret (v := ((g_w (nI 40).toNatClampNeg) >>> (x1 &&& 31)) &&& (nI 1)) hx hb hr (fun t ht hW => ⟨⟨_, ⟨g_refusals, g_hit_15, g_lead_15, g_defeat_15, g_defeater_15⟩, rfl, h, ⟨by rw [ht]; exact (hP.sub [1, 2, 0, 3, 4, 5, 6] rfl), (hD.sub [1, 2, 0, 3, 4, 5, 6] (by decide) rfl)⟩⟩, hS.F ht⟩) hS.2.2 dX11_claim_112
    · refine lv_tableIn (tgt := 113) (off := 94) hx hb dX11_claim_19 (by rw [c]; decide) (by rw [c]; decide) (by rw [c]; decide +kernel) (by decide) ?_
      replace h := h.2.2.2.2.2.1 c
      refine lv_aload_n hx hb dX11_claim_113 rfl (lv_at hl 0 rfl) ?_
      refine va_get (D := G.1) (ci := 9) (v := .ref a_w) (C := RX11) (T := TX11) (N := 24) hx hb hts ki_X11 hown hK.1 hP 1 rfl rfl 0 (by decide) kf0 (fun _ h9 => h9) rfl dX11_claim_114 ?_
      refine lv_bipush (v := nI 24) hx hb dX11_claim_117 kb_24 ?_
      refine lv_iload_n hx hb dX11_claim_119 rfl (lv_at hl 1 rfl) ?_
      refine lv_iadd hx hb dX11_claim_120 ?_
      have hin := h.1
      replace h := h.2
      refine va_iald hx hb hK.1 hP 2 0 rfl rfl hin dX11_claim_121 ?_
      exact W.iret (v := g_w ((nI 24) + x1).toNatClampNeg) hx hb hr (fun t ht hW => ⟨⟨_, ⟨g_refusals, g_hit_15, g_lead_15, g_defeat_15, g_defeater_15⟩, rfl, h, ⟨by rw [ht]; exact (hP.sub [1, 2, 0, 3, 4, 5, 6] rfl), (hD.sub [1, 2, 0, 3, 4, 5, 6] (by decide) rfl)⟩⟩, hS.F ht⟩) hS.2.2 dX11_claim_122
    · refine lv_tableIn (tgt := 123) (off := 104) hx hb dX11_claim_19 (by rw [c]; decide) (by rw [c]; decide) (by rw [c]; decide +kernel) (by decide) ?_
      replace h := h.2.2.2.2.2.2.1 c
      refine lv_aload_n hx hb dX11_claim_123 rfl (lv_at hl 0 rfl) ?_
      refine va_get (D := G.1) (ci := 9) (v := .ref a_w) (C := RX11) (T := TX11) (N := 24) hx hb hts ki_X11 hown hK.1 hP 1 rfl rfl 0 (by decide) kf0 (fun _ h9 => h9) rfl dX11_claim_124 ?_
      refine lv_bipush (v := nI 32) hx hb dX11_claim_127 kb_32 ?_
      refine lv_iload_n hx hb dX11_claim_129 rfl (lv_at hl 1 rfl) ?_
      refine lv_iadd hx hb dX11_claim_130 ?_
      have hin := h.1
      replace h := h.2
      refine va_iald hx hb hK.1 hP 2 0 rfl rfl hin dX11_claim_131 ?_
      exact W.iret (v := g_w ((nI 32) + x1).toNatClampNeg) hx hb hr (fun t ht hW => ⟨⟨_, ⟨g_refusals, g_hit_15, g_lead_15, g_defeat_15, g_defeater_15⟩, rfl, h, ⟨by rw [ht]; exact (hP.sub [1, 2, 0, 3, 4, 5, 6] rfl), (hD.sub [1, 2, 0, 3, 4, 5, 6] (by decide) rfl)⟩⟩, hS.F ht⟩) hS.2.2 dX11_claim_132
    · refine lv_tableIn (tgt := 133) (off := 114) hx hb dX11_claim_19 (by rw [c]; decide) (by rw [c]; decide) (by rw [c]; decide +kernel) (by decide) ?_
      replace h := h.2.2.2.2.2.2.2.1 c
      refine lv_aload_n hx hb dX11_claim_133 rfl (lv_at hl 0 rfl) ?_
      refine va_get (D := G.1) (ci := 9) (v := .ref a_hit) (C := RX11) (T := TX11) (N := 24) hx hb hts ki_X11 hown hK.1 hP 1 rfl rfl 9 (by decide) kf1 (fun _ h9 => h9) rfl dX11_claim_134 ?_
      refine lv_iload_n hx hb dX11_claim_137 rfl (lv_at hl 1 rfl) ?_
      have hin := h.1
      replace h := h.2
      refine va_iald hx hb hK.1 hP 3 0 rfl rfl hin dX11_claim_138 ?_
      exact W.iret (v := g_hit_15 x1.toNatClampNeg) hx hb hr (fun t ht hW => ⟨⟨_, ⟨g_refusals, g_hit_15, g_lead_15, g_defeat_15, g_defeater_15⟩, rfl, h, ⟨by rw [ht]; exact (hP.sub [1, 2, 0, 3, 4, 5, 6] rfl), (hD.sub [1, 2, 0, 3, 4, 5, 6] (by decide) rfl)⟩⟩, hS.F ht⟩) hS.2.2 dX11_claim_139
    · refine lv_tableIn (tgt := 140) (off := 121) hx hb dX11_claim_19 (by rw [c]; decide) (by rw [c]; decide) (by rw [c]; decide +kernel) (by decide) ?_
      replace h := h.2.2.2.2.2.2.2.2.1 c
      refine lv_aload_n hx hb dX11_claim_140 rfl (lv_at hl 0 rfl) ?_
      refine va_get (D := G.1) (ci := 9) (v := .ref a_lead) (C := RX11) (T := TX11) (N := 24) hx hb hts ki_X11 hown hK.1 hP 1 rfl rfl 10 (by decide) kf2 (fun _ h9 => h9) rfl dX11_claim_141 ?_
      refine lv_iload_n hx hb dX11_claim_144 rfl (lv_at hl 1 rfl) ?_
      have hin := h.1
      replace h := h.2
      refine va_iald hx hb hK.1 hP 4 0 rfl rfl hin dX11_claim_145 ?_
      exact W.iret (v := g_lead_15 x1.toNatClampNeg) hx hb hr (fun t ht hW => ⟨⟨_, ⟨g_refusals, g_hit_15, g_lead_15, g_defeat_15, g_defeater_15⟩, rfl, h, ⟨by rw [ht]; exact (hP.sub [1, 2, 0, 3, 4, 5, 6] rfl), (hD.sub [1, 2, 0, 3, 4, 5, 6] (by decide) rfl)⟩⟩, hS.F ht⟩) hS.2.2 dX11_claim_146
    · refine lv_tableIn (tgt := 147) (off := 128) hx hb dX11_claim_19 (by rw [c]; decide) (by rw [c]; decide) (by rw [c]; decide +kernel) (by decide) ?_
      replace h := h.2.2.2.2.2.2.2.2.2.1 c
      refine lv_aload_n hx hb dX11_claim_147 rfl (lv_at hl 0 rfl) ?_
      refine va_get (D := G.1) (ci := 9) (v := .ref a_defeat) (C := RX11) (T := TX11) (N := 24) hx hb hts ki_X11 hown hK.1 hP 1 rfl rfl 11 (by decide) kf3 (fun _ h9 => h9) rfl dX11_claim_148 ?_
      refine lv_iload_n hx hb dX11_claim_151 rfl (lv_at hl 1 rfl) ?_
      have hin := h.1
      replace h := h.2
      refine va_iald hx hb hK.1 hP 5 0 rfl rfl hin dX11_claim_152 ?_
      exact W.iret (v := g_defeat_15 x1.toNatClampNeg) hx hb hr (fun t ht hW => ⟨⟨_, ⟨g_refusals, g_hit_15, g_lead_15, g_defeat_15, g_defeater_15⟩, rfl, h, ⟨by rw [ht]; exact (hP.sub [1, 2, 0, 3, 4, 5, 6] rfl), (hD.sub [1, 2, 0, 3, 4, 5, 6] (by decide) rfl)⟩⟩, hS.F ht⟩) hS.2.2 dX11_claim_153
    · refine lv_tableIn (tgt := 154) (off := 135) hx hb dX11_claim_19 (by rw [c]; decide) (by rw [c]; decide) (by rw [c]; decide +kernel) (by decide) ?_
      replace h := h.2.2.2.2.2.2.2.2.2.2 c
      refine lv_aload_n hx hb dX11_claim_154 rfl (lv_at hl 0 rfl) ?_
      refine va_get (D := G.1) (ci := 9) (v := .ref a_defeater) (C := RX11) (T := TX11) (N := 24) hx hb hts ki_X11 hown hK.1 hP 1 rfl rfl 12 (by decide) kf4 (fun _ h9 => h9) rfl dX11_claim_155 ?_
      refine lv_iload_n hx hb dX11_claim_158 rfl (lv_at hl 1 rfl) ?_
      have hin := h.1
      replace h := h.2
      refine va_iald hx hb hK.1 hP 6 0 rfl rfl hin dX11_claim_159 ?_
      exact W.iret (v := g_defeater_15 x1.toNatClampNeg) hx hb hr (fun t ht hW => ⟨⟨_, ⟨g_refusals, g_hit_15, g_lead_15, g_defeat_15, g_defeater_15⟩, rfl, h, ⟨by rw [ht]; exact (hP.sub [1, 2, 0, 3, 4, 5, 6] rfl), (hD.sub [1, 2, 0, 3, 4, 5, 6] (by decide) rfl)⟩⟩, hS.F ht⟩) hS.2.2 dX11_claim_160
  · replace h := h.2 c
    refine lv_aload_n hx hb dX11_claim_8 rfl (lv_at hl 0 rfl) ?_
    refine lv_iconst (v := (-1 : Int32)) hx hb dX11_claim_9 kc_m1 ?_
    refine hc_ki (wr := [caI G a_hit 8 g_hit, caI G a_lead 8 g_lead, caI G a_defeat 8 g_defeat, caI G a_defeater 8 g_defeater, caI G a_w 43 g_w]) (va_runV (As := [.int ((-1 : Int32))]) (rest := []) ⟨hx, hb, hml, hown, hts⟩ (c_X11_refused l G h0 a_w a_kept a_laid a_refusals a_row a_letters a_hit a_lead a_defeat a_defeater a_order a_is a_was a_depths a_ways H.size s_hasImage s_rows s_lettered s_ins s_outs s_ordered s_reading s_isWell s_z g_refusals ((-1 : Int32)) _ h) (cwV 1 hts gX11_claim_X11_refused rfl rfl rfl (by decide +kernel) ⟨Nat.le_of_ble_eq_true rfl, Nat.le_of_ble_eq_true rfl⟩) (hc_pV hK hP hD [5, 0] rfl rfl (ci := 9) 5 rfl rfl) rfl rfl hl.1 rfl (lv_room (Nat.le_of_ble_eq_true rfl)) dX11_claim_10 ⟨Nat.le_refl _, Nat.le_refl _⟩) hP hD hS hA [5, 0] [1, 2, 3, 4, 6] rfl rfl rfl (by decide) (fun r10 u H locs h hP hD hS => ?_)
    obtain ⟨g_refusals_10, rfl⟩ : ∃ z, z = u := ⟨_, rfl⟩
    try dsimp only at h
    have hP : va_P G.1 vwCl [caI G a_hit 8 g_hit, caI G a_lead 8 g_lead, caI G a_defeat 8 g_defeat, caI G a_defeater 8 g_defeater, caI G a_w 43 g_w, ceX11 h0 a_w a_kept a_laid s_hasImage a_refusals a_row s_rows a_letters s_lettered a_hit a_lead a_defeat a_defeater s_ins s_outs a_order s_ordered a_is a_was s_reading s_isWell a_depths a_ways s_z, caI G a_refusals 7 g_refusals_10] H := hP
    have hD : va_D A [caI G a_hit 8 g_hit, caI G a_lead 8 g_lead, caI G a_defeat 8 g_defeat, caI G a_defeater 8 g_defeater, caI G a_w 43 g_w, ceX11 h0 a_w a_kept a_laid s_hasImage a_refusals a_row s_rows a_letters s_lettered a_hit a_lead a_defeat a_defeater s_ins s_outs a_order s_ordered a_is a_was s_reading s_isWell a_depths a_ways s_z, caI G a_refusals 7 g_refusals_10] := hD
    exact W.iret (v := r10) hx hb hr (fun t ht hW => ⟨⟨_, ⟨g_refusals_10, g_hit, g_lead, g_defeat, g_defeater⟩, rfl, h, ⟨by rw [ht]; exact (hP.sub [5, 4, 6, 0, 1, 2, 3] rfl), (hD.sub [5, 4, 6, 0, 1, 2, 3] (by decide) rfl)⟩⟩, hS.F ht⟩) hS.2.2 dX11_claim_13
set_option maxHeartbeats 4000000 in
set_option maxRecDepth 100000 in
theorem c_X11_label (l : Launch) (G : hcG) (h0 : Nat) (a_w : Nat) (a_kept : Nat) (a_laid : Nat) (a_refusals : Nat) (a_row : Nat) (a_letters : Nat) (a_hit : Nat) (a_lead : Nat) (a_defeat : Nat) (a_defeater : Nat) (a_order : Nat) (a_is : Nat) (a_was : Nat) (a_depths : Nat) (a_ways : Nat) (sz : Nat) (s_hasImage : Int32) (s_rows : Int32) (s_lettered : Int32) (s_ins : Int32) (s_outs : Int32) (s_ordered : Int32) (s_reading : Int32) (s_isWell : Int32) (s_z : Int32) (g_w : Nat → Int32) (g_refusals : Nat → Int32) (g_hit : Nat → Int32) (g_lead : Nat → Int32) (g_defeat : Nat → Int32) (g_defeater : Nat → Int32) (g_order : Nat → Int32) (x1 : Int32) (post : Int32 → (Nat → Int32) → (Nat → Int32) → (Nat → Int32) → (Nat → Int32) → (Nat → Int32) → Int32 → Int32 → (Nat → Int32) → Int32 → Prop) (h : wp_X11_label post g_w g_refusals g_hit g_lead g_defeat g_defeater s_ins s_outs g_order s_ordered x1) : Met l yX11_label wsX11_label ({ frames := 5, cells := 0, slots := 0, locals := 107 }) (hcPc G [.ref h0, .int x1] [ceX11 h0 a_w a_kept a_laid s_hasImage a_refusals a_row s_rows a_letters s_lettered a_hit a_lead a_defeat a_defeater s_ins s_outs a_order s_ordered a_is a_was s_reading s_isWell a_depths a_ways s_z, caI G a_w 43 g_w, caI G a_refusals 7 g_refusals, caI G a_hit 8 g_hit, caI G a_lead 8 g_lead, caI G a_defeat 8 g_defeat, caI G a_defeater 8 g_defeater, caI G a_order 8 g_order] sz) (va_Qi (fun (r : Int32) (u : (Nat → Int32) × (Nat → Int32) × (Nat → Int32) × (Nat → Int32) × (Nat → Int32) × Int32 × Int32 × (Nat → Int32) × Int32) => post r u.1 u.2.1 u.2.2.1 u.2.2.2.1 u.2.2.2.2.1 u.2.2.2.2.2.1 u.2.2.2.2.2.2.1 u.2.2.2.2.2.2.2.1 u.2.2.2.2.2.2.2.2) (hcB G (va_A [ceX11 h0 a_w a_kept a_laid s_hasImage a_refusals a_row s_rows a_letters s_lettered a_hit a_lead a_defeat a_defeater s_ins s_outs a_order s_ordered a_is a_was s_reading s_isWell a_depths a_ways s_z, caI G a_w 43 g_w, caI G a_refusals 7 g_refusals, caI G a_hit 8 g_hit, caI G a_lead 8 g_lead, caI G a_defeat 8 g_defeat, caI G a_defeater 8 g_defeater, caI G a_order 8 g_order] sz) (fun u : (Nat → Int32) × (Nat → Int32) × (Nat → Int32) × (Nat → Int32) × (Nat → Int32) × Int32 × Int32 × (Nat → Int32) × Int32 => [ceX11 h0 a_w a_kept a_laid s_hasImage a_refusals a_row s_rows a_letters s_lettered a_hit a_lead a_defeat a_defeater u.2.2.2.2.2.1 u.2.2.2.2.2.2.1 a_order u.2.2.2.2.2.2.2.2 a_is a_was s_reading s_isWell a_depths a_ways s_z, caI G a_w 43 g_w, caI G a_refusals 7 u.1, caI G a_hit 8 u.2.1, caI G a_lead 8 u.2.2.1, caI G a_defeat 8 u.2.2.2.1, caI G a_defeater 8 u.2.2.2.2.1, caI G a_order 8 u.2.2.2.2.2.2.2.1])) (va_A [ceX11 h0 a_w a_kept a_laid s_hasImage a_refusals a_row s_rows a_letters s_lettered a_hit a_lead a_defeat a_defeater s_ins s_outs a_order s_ordered a_is a_was s_reading s_isWell a_depths a_ways s_z, caI G a_w 43 g_w, caI G a_refusals 7 g_refusals, caI G a_hit 8 g_hit, caI G a_lead 8 g_lead, caI G a_defeat 8 g_defeat, caI G a_defeater 8 g_defeater, caI G a_order 8 g_order] sz)) 0 0 (va_A [ceX11 h0 a_w a_kept a_laid s_hasImage a_refusals a_row s_rows a_letters s_lettered a_hit a_lead a_defeat a_defeater s_ins s_outs a_order s_ordered a_is a_was s_reading s_isWell a_depths a_ways s_z, caI G a_w 43 g_w, caI G a_refusals 7 g_refusals, caI G a_hit 8 g_hit, caI G a_lead 8 g_lead, caI G a_defeat 8 g_defeat, caI G a_defeater 8 g_defeater, caI G a_order 8 g_order] sz) := by
  refine Met.ofW (cc := cX11_label) (maxL := 2) (ret := (some .int)) (by decide) rfl ?_
  intro p e s m args below meth c s₁ B hml hv
  obtain ⟨rfl, hsz, hP, hK, hD0⟩ := hv
  have hx := B.exec
  have hb := B.bytes
  have hr := B.returns
  have hts := atoms_spec (ws := wsX11_label) B.pre
  have hown : s.vm.findClass RX11 = some m.cls := findClass_of_methodNamed B.named
  have hlocks := B.notSynchronized
  subst hsz
  have hD := hD0.self (sz := s.heap.size)
  generalize hAe : va_A [ceX11 h0 a_w a_kept a_laid s_hasImage a_refusals a_row s_rows a_letters s_lettered a_hit a_lead a_defeat a_defeater s_ins s_outs a_order s_ordered a_is a_was s_reading s_isWell a_depths a_ways s_z, caI G a_w 43 g_w, caI G a_refusals 7 g_refusals, caI G a_hit 8 g_hit, caI G a_lead 8 g_lead, caI G a_defeat 8 g_defeat, caI G a_defeater 8 g_defeater, caI G a_order 8 g_order] s.heap.size = A at hD ⊢
  have hA : ∀ q : Nat, s.heap.size ≤ q → A q := fun q h => by rw [← hAe]; exact Or.inr h
  have hS : va_S A s.heap s.heap [] := va_S.rf
  have hP : va_P G.1 vwCl [ceX11 h0 a_w a_kept a_laid s_hasImage a_refusals a_row s_rows a_letters s_lettered a_hit a_lead a_defeat a_defeater s_ins s_outs a_order s_ordered a_is a_was s_reading s_isWell a_depths a_ways s_z, caI G a_w 43 g_w, caI G a_refusals 7 g_refusals, caI G a_hit 8 g_hit, caI G a_lead 8 g_lead, caI G a_defeat 8 g_defeat, caI G a_defeater 8 g_defeater, caI G a_order 8 g_order] s.heap := hP
  have hl := lv_entry ([.ref h0, .int x1]) (n := 2) (Nat.le_of_ble_eq_true rfl)
  rw [lg_entry_eq]
  generalize (lg_sl ([.ref h0, .int x1]) ++ List.replicate (2 - (lg_sl ([.ref h0, .int x1])).length) Slot.unset).toArray = ls at hl ⊢
  have hl : lv_has ls 2 [(0, .ref h0), (1, .int x1)] := hl
  unfold wp_X11_label at h
  refine lv_aload_n hx hb dX11_label_0 rfl (lv_at hl 0 rfl) ?_
  refine lv_iload_n hx hb dX11_label_1 rfl (lv_at hl 1 rfl) ?_
  refine hc_ki (wr := [caI G a_refusals 7 g_refusals, caI G a_hit 8 g_hit, caI G a_lead 8 g_lead, caI G a_defeat 8 g_defeat, caI G a_defeater 8 g_defeater, caI G a_order 8 g_order]) (va_runV (As := [.int x1]) (rest := []) ⟨hx, hb, hml, hown, hts⟩ (c_X11_isClaim l G h0 a_w a_kept a_laid a_refusals a_row a_letters a_hit a_lead a_defeat a_defeater a_order a_is a_was a_depths a_ways s.heap.size s_hasImage s_rows s_lettered s_ins s_outs s_ordered s_reading s_isWell s_z g_w x1 _ h) (cwV 1 hts gX11_label_X11_isClaim rfl rfl rfl (by decide +kernel) ⟨Nat.le_of_ble_eq_true rfl, Nat.le_of_ble_eq_true rfl⟩) (hc_pV hK hP hD [0, 1] rfl rfl (ci := 9) 0 rfl rfl) rfl rfl hl.1 rfl (lv_room (Nat.le_of_ble_eq_true rfl)) dX11_label_2 ⟨Nat.le_refl _, Nat.le_refl _⟩) hP hD hS hA [0, 1] [2, 3, 4, 5, 6, 7] rfl rfl rfl (by decide) (fun r2 u H locs h hP hD hS => ?_)
  try dsimp only at h
  have hP : va_P G.1 vwCl [caI G a_refusals 7 g_refusals, caI G a_hit 8 g_hit, caI G a_lead 8 g_lead, caI G a_defeat 8 g_defeat, caI G a_defeater 8 g_defeater, caI G a_order 8 g_order, ceX11 h0 a_w a_kept a_laid s_hasImage a_refusals a_row s_rows a_letters s_lettered a_hit a_lead a_defeat a_defeater s_ins s_outs a_order s_ordered a_is a_was s_reading s_isWell a_depths a_ways s_z, caI G a_w 43 g_w] H := hP
  have hD : va_D A [caI G a_refusals 7 g_refusals, caI G a_hit 8 g_hit, caI G a_lead 8 g_lead, caI G a_defeat 8 g_defeat, caI G a_defeater 8 g_defeater, caI G a_order 8 g_order, ceX11 h0 a_w a_kept a_laid s_hasImage a_refusals a_row s_rows a_letters s_lettered a_hit a_lead a_defeat a_defeater s_ins s_outs a_order s_ordered a_is a_was s_reading s_isWell a_depths a_ways s_z, caI G a_w 43 g_w] := hD
  refine lv_if_ne (tgt := 14) hx hb dX11_label_5 (by decide) (fun c => ?_) (fun c => ?_)
  · replace h := h.1 c
    refine lv_aload_n hx hb dX11_label_14 rfl (lv_at hl 0 rfl) ?_
    refine hc_kv (wr := [caI G a_refusals 7 g_refusals]) (va_runV (As := []) (rest := []) ⟨hx, hb, hml, hown, hts⟩ (c_X11_turnsAll l G h0 a_w a_kept a_laid a_refusals a_row a_letters a_hit a_lead a_defeat a_defeater a_order a_is a_was a_depths a_ways H.size s_hasImage s_rows s_lettered s_ins s_outs s_ordered s_reading s_isWell s_z g_w g_hit g_lead g_defeat g_defeater g_order _ h) (cwV 0 hts gX11_label_X11_turnsAll rfl rfl rfl (by decide +kernel) ⟨Nat.le_of_ble_eq_true rfl, Nat.le_of_ble_eq_true rfl⟩) (hc_pV hK hP hD [6, 7, 1, 2, 3, 4, 5] rfl rfl (ci := 9) 6 rfl rfl) rfl rfl hl.1 rfl (lv_room (Nat.le_of_ble_eq_true rfl)) dX11_label_15 ⟨Nat.le_refl _, Nat.le_refl _⟩) hP hD hS hA [6, 7, 1, 2, 3, 4, 5] [0] rfl rfl rfl (by decide) (fun u H locs h hP hD hS => ?_)
    obtain ⟨g_hit_15, g_lead_15, g_defeat_15, g_defeater_15, s_ins_15, s_outs_15, g_order_15, s_ordered_15⟩ := u
    try dsimp only at h
    have hP : va_P G.1 vwCl [caI G a_refusals 7 g_refusals, ceX11 h0 a_w a_kept a_laid s_hasImage a_refusals a_row s_rows a_letters s_lettered a_hit a_lead a_defeat a_defeater s_ins_15 s_outs_15 a_order s_ordered_15 a_is a_was s_reading s_isWell a_depths a_ways s_z, caI G a_w 43 g_w, caI G a_hit 8 g_hit_15, caI G a_lead 8 g_lead_15, caI G a_defeat 8 g_defeat_15, caI G a_defeater 8 g_defeater_15, caI G a_order 8 g_order_15] H := hP
    have hD : va_D A [caI G a_refusals 7 g_refusals, ceX11 h0 a_w a_kept a_laid s_hasImage a_refusals a_row s_rows a_letters s_lettered a_hit a_lead a_defeat a_defeater s_ins_15 s_outs_15 a_order s_ordered_15 a_is a_was s_reading s_isWell a_depths a_ways s_z, caI G a_w 43 g_w, caI G a_hit 8 g_hit_15, caI G a_lead 8 g_lead_15, caI G a_defeat 8 g_defeat_15, caI G a_defeater 8 g_defeater_15, caI G a_order 8 g_order_15] := hD
    refine lv_aload_n hx hb dX11_label_18 rfl (lv_at hl 0 rfl) ?_
    refine lv_iload_n hx hb dX11_label_19 rfl (lv_at hl 1 rfl) ?_
    refine hc_ki (wr := [caI G a_refusals 7 g_refusals, caI G a_hit 8 g_hit_15, caI G a_lead 8 g_lead_15, caI G a_defeat 8 g_defeat_15, caI G a_defeater 8 g_defeater_15, caI G a_order 8 g_order_15]) (va_runV (As := [.int x1]) (rest := []) ⟨hx, hb, hml, hown, hts⟩ (c_X11_labelOf l G h0 a_w a_kept a_laid a_refusals a_row a_letters a_hit a_lead a_defeat a_defeater a_order a_is a_was a_depths a_ways H.size s_hasImage s_rows s_lettered s_ins_15 s_outs_15 s_ordered_15 s_reading s_isWell s_z g_w x1 _ h) (cwV 1 hts gX11_label_X11_labelOf rfl rfl rfl (by decide +kernel) ⟨Nat.le_of_ble_eq_true rfl, Nat.le_of_ble_eq_true rfl⟩) (hc_pV hK hP hD [1, 2] rfl rfl (ci := 9) 1 rfl rfl) rfl rfl hl.1 rfl (lv_room (Nat.le_of_ble_eq_true rfl)) dX11_label_20 ⟨Nat.le_refl _, Nat.le_refl _⟩) hP hD hS hA [1, 2] [0, 3, 4, 5, 6, 7] rfl rfl rfl (by decide) (fun r20 u H locs h hP hD hS => ?_)
    try dsimp only at h
    have hP : va_P G.1 vwCl [caI G a_refusals 7 g_refusals, caI G a_hit 8 g_hit_15, caI G a_lead 8 g_lead_15, caI G a_defeat 8 g_defeat_15, caI G a_defeater 8 g_defeater_15, caI G a_order 8 g_order_15, ceX11 h0 a_w a_kept a_laid s_hasImage a_refusals a_row s_rows a_letters s_lettered a_hit a_lead a_defeat a_defeater s_ins_15 s_outs_15 a_order s_ordered_15 a_is a_was s_reading s_isWell a_depths a_ways s_z, caI G a_w 43 g_w] H := hP
    have hD : va_D A [caI G a_refusals 7 g_refusals, caI G a_hit 8 g_hit_15, caI G a_lead 8 g_lead_15, caI G a_defeat 8 g_defeat_15, caI G a_defeater 8 g_defeater_15, caI G a_order 8 g_order_15, ceX11 h0 a_w a_kept a_laid s_hasImage a_refusals a_row s_rows a_letters s_lettered a_hit a_lead a_defeat a_defeater s_ins_15 s_outs_15 a_order s_ordered_15 a_is a_was s_reading s_isWell a_depths a_ways s_z, caI G a_w 43 g_w] := hD
    exact W.iret (v := r20) hx hb hr (fun t ht hW => ⟨⟨_, ⟨g_refusals, g_hit_15, g_lead_15, g_defeat_15, g_defeater_15, s_ins_15, s_outs_15, g_order_15, s_ordered_15⟩, rfl, h, ⟨by rw [ht]; exact (hP.sub [6, 7, 0, 1, 2, 3, 4, 5] rfl), (hD.sub [6, 7, 0, 1, 2, 3, 4, 5] (by decide) rfl)⟩⟩, hS.F ht⟩) hS.2.2 dX11_label_23
  · replace h := h.2 c
    refine lv_aload_n hx hb dX11_label_8 rfl (lv_at hl 0 rfl) ?_
    refine lv_iconst (v := (-1 : Int32)) hx hb dX11_label_9 kc_m1 ?_
    refine hc_ki (wr := [caI G a_hit 8 g_hit, caI G a_lead 8 g_lead, caI G a_defeat 8 g_defeat, caI G a_defeater 8 g_defeater, caI G a_order 8 g_order, caI G a_w 43 g_w]) (va_runV (As := [.int ((-1 : Int32))]) (rest := []) ⟨hx, hb, hml, hown, hts⟩ (c_X11_refused l G h0 a_w a_kept a_laid a_refusals a_row a_letters a_hit a_lead a_defeat a_defeater a_order a_is a_was a_depths a_ways H.size s_hasImage s_rows s_lettered s_ins s_outs s_ordered s_reading s_isWell s_z g_refusals ((-1 : Int32)) _ h) (cwV 1 hts gX11_label_X11_refused rfl rfl rfl (by decide +kernel) ⟨Nat.le_of_ble_eq_true rfl, Nat.le_of_ble_eq_true rfl⟩) (hc_pV hK hP hD [6, 0] rfl rfl (ci := 9) 6 rfl rfl) rfl rfl hl.1 rfl (lv_room (Nat.le_of_ble_eq_true rfl)) dX11_label_10 ⟨Nat.le_refl _, Nat.le_refl _⟩) hP hD hS hA [6, 0] [1, 2, 3, 4, 5, 7] rfl rfl rfl (by decide) (fun r10 u H locs h hP hD hS => ?_)
    obtain ⟨g_refusals_10, rfl⟩ : ∃ z, z = u := ⟨_, rfl⟩
    try dsimp only at h
    have hP : va_P G.1 vwCl [caI G a_hit 8 g_hit, caI G a_lead 8 g_lead, caI G a_defeat 8 g_defeat, caI G a_defeater 8 g_defeater, caI G a_order 8 g_order, caI G a_w 43 g_w, ceX11 h0 a_w a_kept a_laid s_hasImage a_refusals a_row s_rows a_letters s_lettered a_hit a_lead a_defeat a_defeater s_ins s_outs a_order s_ordered a_is a_was s_reading s_isWell a_depths a_ways s_z, caI G a_refusals 7 g_refusals_10] H := hP
    have hD : va_D A [caI G a_hit 8 g_hit, caI G a_lead 8 g_lead, caI G a_defeat 8 g_defeat, caI G a_defeater 8 g_defeater, caI G a_order 8 g_order, caI G a_w 43 g_w, ceX11 h0 a_w a_kept a_laid s_hasImage a_refusals a_row s_rows a_letters s_lettered a_hit a_lead a_defeat a_defeater s_ins s_outs a_order s_ordered a_is a_was s_reading s_isWell a_depths a_ways s_z, caI G a_refusals 7 g_refusals_10] := hD
    exact W.iret (v := r10) hx hb hr (fun t ht hW => ⟨⟨_, ⟨g_refusals_10, g_hit, g_lead, g_defeat, g_defeater, s_ins, s_outs, g_order, s_ordered⟩, rfl, h, ⟨by rw [ht]; exact (hP.sub [6, 5, 7, 0, 1, 2, 3, 4] rfl), (hD.sub [6, 5, 7, 0, 1, 2, 3, 4] (by decide) rfl)⟩⟩, hS.F ht⟩) hS.2.2 dX11_label_13
set_option maxHeartbeats 4000000 in
set_option maxRecDepth 100000 in
theorem c_X11_turn (l : Launch) (G : hcG) (h0 : Nat) (a_w : Nat) (a_kept : Nat) (a_laid : Nat) (a_refusals : Nat) (a_row : Nat) (a_letters : Nat) (a_hit : Nat) (a_lead : Nat) (a_defeat : Nat) (a_defeater : Nat) (a_order : Nat) (a_is : Nat) (a_was : Nat) (a_depths : Nat) (a_ways : Nat) (sz : Nat) (s_hasImage : Int32) (s_rows : Int32) (s_lettered : Int32) (s_ins : Int32) (s_outs : Int32) (s_ordered : Int32) (s_reading : Int32) (s_isWell : Int32) (s_z : Int32) (g_w : Nat → Int32) (g_refusals : Nat → Int32) (g_hit : Nat → Int32) (g_lead : Nat → Int32) (g_defeat : Nat → Int32) (g_defeater : Nat → Int32) (g_order : Nat → Int32) (x1 : Int32) (post : Int32 → (Nat → Int32) → (Nat → Int32) → (Nat → Int32) → (Nat → Int32) → (Nat → Int32) → Int32 → Int32 → (Nat → Int32) → Int32 → Prop) (h : wp_X11_turn post g_w g_refusals g_hit g_lead g_defeat g_defeater s_ins s_outs g_order s_ordered x1) : Met l yX11_turn wsX11_turn ({ frames := 5, cells := 0, slots := 0, locals := 107 }) (hcPc G [.ref h0, .int x1] [ceX11 h0 a_w a_kept a_laid s_hasImage a_refusals a_row s_rows a_letters s_lettered a_hit a_lead a_defeat a_defeater s_ins s_outs a_order s_ordered a_is a_was s_reading s_isWell a_depths a_ways s_z, caI G a_w 43 g_w, caI G a_refusals 7 g_refusals, caI G a_hit 8 g_hit, caI G a_lead 8 g_lead, caI G a_defeat 8 g_defeat, caI G a_defeater 8 g_defeater, caI G a_order 8 g_order] sz) (va_Qi (fun (r : Int32) (u : (Nat → Int32) × (Nat → Int32) × (Nat → Int32) × (Nat → Int32) × (Nat → Int32) × Int32 × Int32 × (Nat → Int32) × Int32) => post r u.1 u.2.1 u.2.2.1 u.2.2.2.1 u.2.2.2.2.1 u.2.2.2.2.2.1 u.2.2.2.2.2.2.1 u.2.2.2.2.2.2.2.1 u.2.2.2.2.2.2.2.2) (hcB G (va_A [ceX11 h0 a_w a_kept a_laid s_hasImage a_refusals a_row s_rows a_letters s_lettered a_hit a_lead a_defeat a_defeater s_ins s_outs a_order s_ordered a_is a_was s_reading s_isWell a_depths a_ways s_z, caI G a_w 43 g_w, caI G a_refusals 7 g_refusals, caI G a_hit 8 g_hit, caI G a_lead 8 g_lead, caI G a_defeat 8 g_defeat, caI G a_defeater 8 g_defeater, caI G a_order 8 g_order] sz) (fun u : (Nat → Int32) × (Nat → Int32) × (Nat → Int32) × (Nat → Int32) × (Nat → Int32) × Int32 × Int32 × (Nat → Int32) × Int32 => [ceX11 h0 a_w a_kept a_laid s_hasImage a_refusals a_row s_rows a_letters s_lettered a_hit a_lead a_defeat a_defeater u.2.2.2.2.2.1 u.2.2.2.2.2.2.1 a_order u.2.2.2.2.2.2.2.2 a_is a_was s_reading s_isWell a_depths a_ways s_z, caI G a_w 43 g_w, caI G a_refusals 7 u.1, caI G a_hit 8 u.2.1, caI G a_lead 8 u.2.2.1, caI G a_defeat 8 u.2.2.2.1, caI G a_defeater 8 u.2.2.2.2.1, caI G a_order 8 u.2.2.2.2.2.2.2.1])) (va_A [ceX11 h0 a_w a_kept a_laid s_hasImage a_refusals a_row s_rows a_letters s_lettered a_hit a_lead a_defeat a_defeater s_ins s_outs a_order s_ordered a_is a_was s_reading s_isWell a_depths a_ways s_z, caI G a_w 43 g_w, caI G a_refusals 7 g_refusals, caI G a_hit 8 g_hit, caI G a_lead 8 g_lead, caI G a_defeat 8 g_defeat, caI G a_defeater 8 g_defeater, caI G a_order 8 g_order] sz)) 0 0 (va_A [ceX11 h0 a_w a_kept a_laid s_hasImage a_refusals a_row s_rows a_letters s_lettered a_hit a_lead a_defeat a_defeater s_ins s_outs a_order s_ordered a_is a_was s_reading s_isWell a_depths a_ways s_z, caI G a_w 43 g_w, caI G a_refusals 7 g_refusals, caI G a_hit 8 g_hit, caI G a_lead 8 g_lead, caI G a_defeat 8 g_defeat, caI G a_defeater 8 g_defeater, caI G a_order 8 g_order] sz) := by
  refine Met.ofW (cc := cX11_turn) (maxL := 2) (ret := (some .int)) (by decide) rfl ?_
  intro p e s m args below meth c s₁ B hml hv
  obtain ⟨rfl, hsz, hP, hK, hD0⟩ := hv
  have hx := B.exec
  have hb := B.bytes
  have hr := B.returns
  have hts := atoms_spec (ws := wsX11_turn) B.pre
  have hown : s.vm.findClass RX11 = some m.cls := findClass_of_methodNamed B.named
  have hlocks := B.notSynchronized
  subst hsz
  have hD := hD0.self (sz := s.heap.size)
  generalize hAe : va_A [ceX11 h0 a_w a_kept a_laid s_hasImage a_refusals a_row s_rows a_letters s_lettered a_hit a_lead a_defeat a_defeater s_ins s_outs a_order s_ordered a_is a_was s_reading s_isWell a_depths a_ways s_z, caI G a_w 43 g_w, caI G a_refusals 7 g_refusals, caI G a_hit 8 g_hit, caI G a_lead 8 g_lead, caI G a_defeat 8 g_defeat, caI G a_defeater 8 g_defeater, caI G a_order 8 g_order] s.heap.size = A at hD ⊢
  have hA : ∀ q : Nat, s.heap.size ≤ q → A q := fun q h => by rw [← hAe]; exact Or.inr h
  have hS : va_S A s.heap s.heap [] := va_S.rf
  have hP : va_P G.1 vwCl [ceX11 h0 a_w a_kept a_laid s_hasImage a_refusals a_row s_rows a_letters s_lettered a_hit a_lead a_defeat a_defeater s_ins s_outs a_order s_ordered a_is a_was s_reading s_isWell a_depths a_ways s_z, caI G a_w 43 g_w, caI G a_refusals 7 g_refusals, caI G a_hit 8 g_hit, caI G a_lead 8 g_lead, caI G a_defeat 8 g_defeat, caI G a_defeater 8 g_defeater, caI G a_order 8 g_order] s.heap := hP
  have hl := lv_entry ([.ref h0, .int x1]) (n := 2) (Nat.le_of_ble_eq_true rfl)
  rw [lg_entry_eq]
  generalize (lg_sl ([.ref h0, .int x1]) ++ List.replicate (2 - (lg_sl ([.ref h0, .int x1])).length) Slot.unset).toArray = ls at hl ⊢
  have hl : lv_has ls 2 [(0, .ref h0), (1, .int x1)] := hl
  have kf0 := hts (.fieldLink RX11 89 "HallOfClaimsModel" "ordered" "I") (List.mem_of_getElem? (i := 1) (by decide +kernel))
  have kf1 := hts (.fieldLink RX11 40 "HallOfClaimsModel" "order" "[I") (List.mem_of_getElem? (i := 2) (by decide +kernel))
  have ki_X11 : ∀ w ∈ u_ws RX11 TX11 24, w ∈ wsX11_turn := by decide +kernel
  unfold wp_X11_turn at h
  refine lv_iload_n hx hb dX11_turn_0 rfl (lv_at hl 1 rfl) ?_
  refine lv_iconst (v := (-1 : Int32)) hx hb dX11_turn_1 kc_m1 ?_
  refine lv_icmp_ge (tgt := 12) hx hb dX11_turn_2 (by decide) (fun c => ?_) (fun c => ?_)
  · replace h := h.1 c
    refine lv_aload_n hx hb dX11_turn_12 rfl (lv_at hl 0 rfl) ?_
    refine hc_kv (wr := [caI G a_refusals 7 g_refusals]) (va_runV (As := []) (rest := []) ⟨hx, hb, hml, hown, hts⟩ (c_X11_turnsAll l G h0 a_w a_kept a_laid a_refusals a_row a_letters a_hit a_lead a_defeat a_defeater a_order a_is a_was a_depths a_ways s.heap.size s_hasImage s_rows s_lettered s_ins s_outs s_ordered s_reading s_isWell s_z g_w g_hit g_lead g_defeat g_defeater g_order _ h) (cwV 0 hts gX11_turn_X11_turnsAll rfl rfl rfl (by decide +kernel) ⟨Nat.le_of_ble_eq_true rfl, Nat.le_of_ble_eq_true rfl⟩) (hc_pV hK hP hD [0, 1, 3, 4, 5, 6, 7] rfl rfl (ci := 9) 0 rfl rfl) rfl rfl hl.1 rfl (lv_room (Nat.le_of_ble_eq_true rfl)) dX11_turn_13 ⟨Nat.le_refl _, Nat.le_refl _⟩) hP hD hS hA [0, 1, 3, 4, 5, 6, 7] [2] rfl rfl rfl (by decide) (fun u H locs h hP hD hS => ?_)
    obtain ⟨g_hit_13, g_lead_13, g_defeat_13, g_defeater_13, s_ins_13, s_outs_13, g_order_13, s_ordered_13⟩ := u
    try dsimp only at h
    have hP : va_P G.1 vwCl [caI G a_refusals 7 g_refusals, ceX11 h0 a_w a_kept a_laid s_hasImage a_refusals a_row s_rows a_letters s_lettered a_hit a_lead a_defeat a_defeater s_ins_13 s_outs_13 a_order s_ordered_13 a_is a_was s_reading s_isWell a_depths a_ways s_z, caI G a_w 43 g_w, caI G a_hit 8 g_hit_13, caI G a_lead 8 g_lead_13, caI G a_defeat 8 g_defeat_13, caI G a_defeater 8 g_defeater_13, caI G a_order 8 g_order_13] H := hP
    have hD : va_D A [caI G a_refusals 7 g_refusals, ceX11 h0 a_w a_kept a_laid s_hasImage a_refusals a_row s_rows a_letters s_lettered a_hit a_lead a_defeat a_defeater s_ins_13 s_outs_13 a_order s_ordered_13 a_is a_was s_reading s_isWell a_depths a_ways s_z, caI G a_w 43 g_w, caI G a_hit 8 g_hit_13, caI G a_lead 8 g_lead_13, caI G a_defeat 8 g_defeat_13, caI G a_defeater 8 g_defeater_13, caI G a_order 8 g_order_13] := hD
    refine lv_iload_n hx hb dX11_turn_16 rfl (lv_at hl 1 rfl) ?_
    refine lv_if_ge (tgt := 27) hx hb dX11_turn_17 (by decide) (fun c => ?_) (fun c => ?_)
    · replace h := h.1 c
      refine lv_iload_n hx hb dX11_turn_27 rfl (lv_at hl 1 rfl) ?_
      refine lv_aload_n hx hb dX11_turn_28 rfl (lv_at hl 0 rfl) ?_
      refine va_get (D := G.1) (ci := 9) (v := .int s_ordered_13) (C := RX11) (T := TX11) (N := 24) hx hb hts ki_X11 hown hK.1 hP 1 rfl rfl 16 (by decide) kf0 (fun _ h9 => h9) rfl dX11_turn_29 ?_
      refine lv_icmp_ge (tgt := 44) hx hb dX11_turn_32 (by decide) (fun c => ?_) (fun c => ?_)
      · replace h := h.1 c
        refine lv_bipush (v := (-9 : Int32)) hx hb dX11_turn_44 kb_m9 ?_
        exact W.iret (v := (-9 : Int32)) hx hb hr (fun t ht hW => ⟨⟨_, ⟨g_refusals, g_hit_13, g_lead_13, g_defeat_13, g_defeater_13, s_ins_13, s_outs_13, g_order_13, s_ordered_13⟩, rfl, h, ⟨by rw [ht]; exact (hP.sub [1, 2, 0, 3, 4, 5, 6, 7] rfl), (hD.sub [1, 2, 0, 3, 4, 5, 6, 7] (by decide) rfl)⟩⟩, hS.F ht⟩) hS.2.2 dX11_turn_46
      · replace h := h.2 c
        refine lv_aload_n hx hb dX11_turn_35 rfl (lv_at hl 0 rfl) ?_
        refine va_get (D := G.1) (ci := 9) (v := .ref a_order) (C := RX11) (T := TX11) (N := 24) hx hb hts ki_X11 hown hK.1 hP 1 rfl rfl 15 (by decide) kf1 (fun _ h9 => h9) rfl dX11_turn_36 ?_
        refine lv_iload_n hx hb dX11_turn_39 rfl (lv_at hl 1 rfl) ?_
        have hin := h.1
        replace h := h.2
        refine va_iald hx hb hK.1 hP 7 0 rfl rfl hin dX11_turn_40 ?_
        refine lv_goto (tgt := 46) hx hb dX11_turn_41 (by decide) ?_
        exact W.iret (v := g_order_13 x1.toNatClampNeg) hx hb hr (fun t ht hW => ⟨⟨_, ⟨g_refusals, g_hit_13, g_lead_13, g_defeat_13, g_defeater_13, s_ins_13, s_outs_13, g_order_13, s_ordered_13⟩, rfl, h, ⟨by rw [ht]; exact (hP.sub [1, 2, 0, 3, 4, 5, 6, 7] rfl), (hD.sub [1, 2, 0, 3, 4, 5, 6, 7] (by decide) rfl)⟩⟩, hS.F ht⟩) hS.2.2 dX11_turn_46
    · replace h := h.2 c
      refine lv_aload_n hx hb dX11_turn_20 rfl (lv_at hl 0 rfl) ?_
      refine va_get (D := G.1) (ci := 9) (v := .int s_ordered_13) (C := RX11) (T := TX11) (N := 24) hx hb hts ki_X11 hown hK.1 hP 1 rfl rfl 16 (by decide) kf0 (fun _ h9 => h9) rfl dX11_turn_21 ?_
      refine lv_goto (tgt := 46) hx hb dX11_turn_24 (by decide) ?_
      exact W.iret (v := s_ordered_13) hx hb hr (fun t ht hW => ⟨⟨_, ⟨g_refusals, g_hit_13, g_lead_13, g_defeat_13, g_defeater_13, s_ins_13, s_outs_13, g_order_13, s_ordered_13⟩, rfl, h, ⟨by rw [ht]; exact (hP.sub [1, 2, 0, 3, 4, 5, 6, 7] rfl), (hD.sub [1, 2, 0, 3, 4, 5, 6, 7] (by decide) rfl)⟩⟩, hS.F ht⟩) hS.2.2 dX11_turn_46
  · replace h := h.2 c
    refine lv_aload_n hx hb dX11_turn_5 rfl (lv_at hl 0 rfl) ?_
    refine lv_bipush (v := (-4 : Int32)) hx hb dX11_turn_6 kb_m4 ?_
    refine hc_ki (wr := [caI G a_w 43 g_w, caI G a_hit 8 g_hit, caI G a_lead 8 g_lead, caI G a_defeat 8 g_defeat, caI G a_defeater 8 g_defeater, caI G a_order 8 g_order]) (va_runV (As := [.int ((-4 : Int32))]) (rest := []) ⟨hx, hb, hml, hown, hts⟩ (c_X11_refused l G h0 a_w a_kept a_laid a_refusals a_row a_letters a_hit a_lead a_defeat a_defeater a_order a_is a_was a_depths a_ways s.heap.size s_hasImage s_rows s_lettered s_ins s_outs s_ordered s_reading s_isWell s_z g_refusals ((-4 : Int32)) _ h) (cwV 1 hts gX11_turn_X11_refused rfl rfl rfl (by decide +kernel) ⟨Nat.le_of_ble_eq_true rfl, Nat.le_of_ble_eq_true rfl⟩) (hc_pV hK hP hD [0, 2] rfl rfl (ci := 9) 0 rfl rfl) rfl rfl hl.1 rfl (lv_room (Nat.le_of_ble_eq_true rfl)) dX11_turn_8 ⟨Nat.le_refl _, Nat.le_refl _⟩) hP hD hS hA [0, 2] [1, 3, 4, 5, 6, 7] rfl rfl rfl (by decide) (fun r8 u H locs h hP hD hS => ?_)
    obtain ⟨g_refusals_8, rfl⟩ : ∃ z, z = u := ⟨_, rfl⟩
    try dsimp only at h
    have hP : va_P G.1 vwCl [caI G a_w 43 g_w, caI G a_hit 8 g_hit, caI G a_lead 8 g_lead, caI G a_defeat 8 g_defeat, caI G a_defeater 8 g_defeater, caI G a_order 8 g_order, ceX11 h0 a_w a_kept a_laid s_hasImage a_refusals a_row s_rows a_letters s_lettered a_hit a_lead a_defeat a_defeater s_ins s_outs a_order s_ordered a_is a_was s_reading s_isWell a_depths a_ways s_z, caI G a_refusals 7 g_refusals_8] H := hP
    have hD : va_D A [caI G a_w 43 g_w, caI G a_hit 8 g_hit, caI G a_lead 8 g_lead, caI G a_defeat 8 g_defeat, caI G a_defeater 8 g_defeater, caI G a_order 8 g_order, ceX11 h0 a_w a_kept a_laid s_hasImage a_refusals a_row s_rows a_letters s_lettered a_hit a_lead a_defeat a_defeater s_ins s_outs a_order s_ordered a_is a_was s_reading s_isWell a_depths a_ways s_z, caI G a_refusals 7 g_refusals_8] := hD
    exact W.iret (v := r8) hx hb hr (fun t ht hW => ⟨⟨_, ⟨g_refusals_8, g_hit, g_lead, g_defeat, g_defeater, s_ins, s_outs, g_order, s_ordered⟩, rfl, h, ⟨by rw [ht]; exact (hP.sub [6, 0, 7, 1, 2, 3, 4, 5] rfl), (hD.sub [6, 0, 7, 1, 2, 3, 4, 5] (by decide) rfl)⟩⟩, hS.F ht⟩) hS.2.2 dX11_turn_11
set_option maxHeartbeats 4000000 in
set_option maxRecDepth 100000 in
theorem c_X11_sets (l : Launch) (G : hcG) (h0 : Nat) (a_w : Nat) (a_kept : Nat) (a_laid : Nat) (a_refusals : Nat) (a_row : Nat) (a_letters : Nat) (a_hit : Nat) (a_lead : Nat) (a_defeat : Nat) (a_defeater : Nat) (a_order : Nat) (a_is : Nat) (a_was : Nat) (a_depths : Nat) (a_ways : Nat) (sz : Nat) (s_hasImage : Int32) (s_rows : Int32) (s_lettered : Int32) (s_ins : Int32) (s_outs : Int32) (s_ordered : Int32) (s_reading : Int32) (s_isWell : Int32) (s_z : Int32) (g_w : Nat → Int32) (g_refusals : Nat → Int32) (g_hit : Nat → Int32) (g_lead : Nat → Int32) (g_defeat : Nat → Int32) (g_defeater : Nat → Int32) (g_is : Nat → Int32) (g_was : Nat → Int32) (x1 : Int32) (x2 : Int32) (post : Int32 → (Nat → Int32) → (Nat → Int32) → (Nat → Int32) → (Nat → Int32) → (Nat → Int32) → (Nat → Int32) → (Nat → Int32) → Prop) (h : wp_X11_sets post g_w g_refusals g_hit g_lead g_defeat g_defeater g_is g_was x1 x2) : Met l yX11_sets wsX11_sets ({ frames := 7, cells := 0, slots := 0, locals := 156 }) (hcPc G [.ref h0, .int x1, .int x2] [ceX11 h0 a_w a_kept a_laid s_hasImage a_refusals a_row s_rows a_letters s_lettered a_hit a_lead a_defeat a_defeater s_ins s_outs a_order s_ordered a_is a_was s_reading s_isWell a_depths a_ways s_z, caI G a_w 43 g_w, caI G a_refusals 7 g_refusals, caI G a_hit 8 g_hit, caI G a_lead 8 g_lead, caI G a_defeat 8 g_defeat, caI G a_defeater 8 g_defeater, caZ G a_is 256 g_is, caZ G a_was 256 g_was] sz) (va_Qi (fun (r : Int32) (u : (Nat → Int32) × (Nat → Int32) × (Nat → Int32) × (Nat → Int32) × (Nat → Int32) × (Nat → Int32) × (Nat → Int32)) => post r u.1 u.2.1 u.2.2.1 u.2.2.2.1 u.2.2.2.2.1 u.2.2.2.2.2.1 u.2.2.2.2.2.2) (hcB G (va_A [ceX11 h0 a_w a_kept a_laid s_hasImage a_refusals a_row s_rows a_letters s_lettered a_hit a_lead a_defeat a_defeater s_ins s_outs a_order s_ordered a_is a_was s_reading s_isWell a_depths a_ways s_z, caI G a_w 43 g_w, caI G a_refusals 7 g_refusals, caI G a_hit 8 g_hit, caI G a_lead 8 g_lead, caI G a_defeat 8 g_defeat, caI G a_defeater 8 g_defeater, caZ G a_is 256 g_is, caZ G a_was 256 g_was] sz) (fun u : (Nat → Int32) × (Nat → Int32) × (Nat → Int32) × (Nat → Int32) × (Nat → Int32) × (Nat → Int32) × (Nat → Int32) => [ceX11 h0 a_w a_kept a_laid s_hasImage a_refusals a_row s_rows a_letters s_lettered a_hit a_lead a_defeat a_defeater s_ins s_outs a_order s_ordered a_is a_was s_reading s_isWell a_depths a_ways s_z, caI G a_w 43 g_w, caI G a_refusals 7 u.1, caI G a_hit 8 u.2.1, caI G a_lead 8 u.2.2.1, caI G a_defeat 8 u.2.2.2.1, caI G a_defeater 8 u.2.2.2.2.1, caZ G a_is 256 u.2.2.2.2.2.1, caZ G a_was 256 u.2.2.2.2.2.2])) (va_A [ceX11 h0 a_w a_kept a_laid s_hasImage a_refusals a_row s_rows a_letters s_lettered a_hit a_lead a_defeat a_defeater s_ins s_outs a_order s_ordered a_is a_was s_reading s_isWell a_depths a_ways s_z, caI G a_w 43 g_w, caI G a_refusals 7 g_refusals, caI G a_hit 8 g_hit, caI G a_lead 8 g_lead, caI G a_defeat 8 g_defeat, caI G a_defeater 8 g_defeater, caZ G a_is 256 g_is, caZ G a_was 256 g_was] sz)) 0 0 (va_A [ceX11 h0 a_w a_kept a_laid s_hasImage a_refusals a_row s_rows a_letters s_lettered a_hit a_lead a_defeat a_defeater s_ins s_outs a_order s_ordered a_is a_was s_reading s_isWell a_depths a_ways s_z, caI G a_w 43 g_w, caI G a_refusals 7 g_refusals, caI G a_hit 8 g_hit, caI G a_lead 8 g_lead, caI G a_defeat 8 g_defeat, caI G a_defeater 8 g_defeater, caZ G a_is 256 g_is, caZ G a_was 256 g_was] sz) := by
  refine Met.ofW (cc := cX11_sets) (maxL := 3) (ret := (some .int)) (by decide) rfl ?_
  intro p e s m args below meth c s₁ B hml hv
  obtain ⟨rfl, hsz, hP, hK, hD0⟩ := hv
  have hx := B.exec
  have hb := B.bytes
  have hr := B.returns
  have hts := atoms_spec (ws := wsX11_sets) B.pre
  have hown : s.vm.findClass RX11 = some m.cls := findClass_of_methodNamed B.named
  have hlocks := B.notSynchronized
  subst hsz
  have hD := hD0.self (sz := s.heap.size)
  generalize hAe : va_A [ceX11 h0 a_w a_kept a_laid s_hasImage a_refusals a_row s_rows a_letters s_lettered a_hit a_lead a_defeat a_defeater s_ins s_outs a_order s_ordered a_is a_was s_reading s_isWell a_depths a_ways s_z, caI G a_w 43 g_w, caI G a_refusals 7 g_refusals, caI G a_hit 8 g_hit, caI G a_lead 8 g_lead, caI G a_defeat 8 g_defeat, caI G a_defeater 8 g_defeater, caZ G a_is 256 g_is, caZ G a_was 256 g_was] s.heap.size = A at hD ⊢
  have hA : ∀ q : Nat, s.heap.size ≤ q → A q := fun q h => by rw [← hAe]; exact Or.inr h
  have hS : va_S A s.heap s.heap [] := va_S.rf
  have hP : va_P G.1 vwCl [ceX11 h0 a_w a_kept a_laid s_hasImage a_refusals a_row s_rows a_letters s_lettered a_hit a_lead a_defeat a_defeater s_ins s_outs a_order s_ordered a_is a_was s_reading s_isWell a_depths a_ways s_z, caI G a_w 43 g_w, caI G a_refusals 7 g_refusals, caI G a_hit 8 g_hit, caI G a_lead 8 g_lead, caI G a_defeat 8 g_defeat, caI G a_defeater 8 g_defeater, caZ G a_is 256 g_is, caZ G a_was 256 g_was] s.heap := hP
  have hl := lv_entry ([.ref h0, .int x1, .int x2]) (n := 3) (Nat.le_of_ble_eq_true rfl)
  rw [lg_entry_eq]
  generalize (lg_sl ([.ref h0, .int x1, .int x2]) ++ List.replicate (3 - (lg_sl ([.ref h0, .int x1, .int x2])).length) Slot.unset).toArray = ls at hl ⊢
  have hl : lv_has ls 3 [(0, .ref h0), (1, .int x1), (2, .int x2)] := hl
  have kf0 := hts (.constantLong RX11 206 (5)) (List.mem_of_getElem? (i := 1) (by decide +kernel))
  unfold wp_X11_sets at h
  refine lv_iload_n hx hb dX11_sets_0 rfl (lv_at hl 1 rfl) ?_
  refine lv_i2l (v := x1.toInt64) hx hb dX11_sets_1 rfl ?_
  refine lv_lconst (v := lN 0) hx hb dX11_sets_2 kl_0 ?_
  refine lv_ldc2 (own := RX11) (v := 5) hx hb hown kf0 dX11_sets_3 ?_
  refine hc_ki (wr := [ceX11 h0 a_w a_kept a_laid s_hasImage a_refusals a_row s_rows a_letters s_lettered a_hit a_lead a_defeat a_defeater s_ins s_outs a_order s_ordered a_is a_was s_reading s_isWell a_depths a_ways s_z, caI G a_w 43 g_w, caI G a_refusals 7 g_refusals, caI G a_hit 8 g_hit, caI G a_lead 8 g_lead, caI G a_defeat 8 g_defeat, caI G a_defeater 8 g_defeater, caZ G a_is 256 g_is, caZ G a_was 256 g_was]) (va_runS (As := [.long x1.toInt64, .long (lN 0), .long ((5 : Int64))]) (rest := []) ⟨hx, hb, hml, hown, hts⟩ (c_X11_in l G s.heap.size x1.toInt64 (lN 0) ((5 : Int64)) _ h) (va_cwS 3 hts gX11_sets_X11_in rfl rfl rfl (by decide +kernel) ⟨Nat.le_of_ble_eq_true rfl, Nat.le_of_ble_eq_true rfl⟩) (hc_pS hK hP hD [] rfl rfl) rfl rfl hl.1 rfl (lv_room (Nat.le_of_ble_eq_true rfl)) dX11_sets_6 ⟨Nat.le_refl _, Nat.le_refl _⟩) hP hD hS hA [] [0, 1, 2, 3, 4, 5, 6, 7, 8] rfl rfl rfl (by decide) (fun r6 u H locs h hP hD hS => ?_)
  try dsimp only at h
  have hP : va_P G.1 vwCl [ceX11 h0 a_w a_kept a_laid s_hasImage a_refusals a_row s_rows a_letters s_lettered a_hit a_lead a_defeat a_defeater s_ins s_outs a_order s_ordered a_is a_was s_reading s_isWell a_depths a_ways s_z, caI G a_w 43 g_w, caI G a_refusals 7 g_refusals, caI G a_hit 8 g_hit, caI G a_lead 8 g_lead, caI G a_defeat 8 g_defeat, caI G a_defeater 8 g_defeater, caZ G a_is 256 g_is, caZ G a_was 256 g_was] H := hP
  have hD : va_D A [ceX11 h0 a_w a_kept a_laid s_hasImage a_refusals a_row s_rows a_letters s_lettered a_hit a_lead a_defeat a_defeater s_ins s_outs a_order s_ordered a_is a_was s_reading s_isWell a_depths a_ways s_z, caI G a_w 43 g_w, caI G a_refusals 7 g_refusals, caI G a_hit 8 g_hit, caI G a_lead 8 g_lead, caI G a_defeat 8 g_defeat, caI G a_defeater 8 g_defeater, caZ G a_is 256 g_is, caZ G a_was 256 g_was] := hD
  refine lv_if_ne (tgt := 19) hx hb dX11_sets_9 (by decide) (fun c => ?_) (fun c => ?_)
  · replace h := h.1 c
    refine lv_iload_n hx hb dX11_sets_19 rfl (lv_at hl 2 rfl) ?_
    refine lv_iconst (v := (-1 : Int32)) hx hb dX11_sets_20 kc_m1 ?_
    refine lv_icmp_ge (tgt := 31) hx hb dX11_sets_21 (by decide) (fun c => ?_) (fun c => ?_)
    · replace h := h.1 c
      refine lv_aload_n hx hb dX11_sets_31 rfl (lv_at hl 0 rfl) ?_
      refine hc_kv (wr := [caI G a_refusals 7 g_refusals, caZ G a_is 256 g_is, caZ G a_was 256 g_was]) (va_runV (As := []) (rest := []) ⟨hx, hb, hml, hown, hts⟩ (c_X11_reckons l G h0 a_w a_kept a_laid a_refusals a_row a_letters a_hit a_lead a_defeat a_defeater a_order a_is a_was a_depths a_ways H.size s_hasImage s_rows s_lettered s_ins s_outs s_ordered s_reading s_isWell s_z g_w g_hit g_lead g_defeat g_defeater _ h) (cwV 0 hts gX11_sets_X11_reckons rfl rfl rfl (by decide +kernel) ⟨Nat.le_of_ble_eq_true rfl, Nat.le_of_ble_eq_true rfl⟩) (hc_pV hK hP hD [0, 1, 3, 4, 5, 6] rfl rfl (ci := 9) 0 rfl rfl) rfl rfl hl.1 rfl (lv_room (Nat.le_of_ble_eq_true rfl)) dX11_sets_32 ⟨Nat.le_refl _, Nat.le_refl _⟩) hP hD hS hA [0, 1, 3, 4, 5, 6] [2, 7, 8] rfl rfl rfl (by decide) (fun u H locs h hP hD hS => ?_)
      obtain ⟨g_hit_32, g_lead_32, g_defeat_32, g_defeater_32⟩ := u
      try dsimp only at h
      have hP : va_P G.1 vwCl [caI G a_refusals 7 g_refusals, caZ G a_is 256 g_is, caZ G a_was 256 g_was, ceX11 h0 a_w a_kept a_laid s_hasImage a_refusals a_row s_rows a_letters s_lettered a_hit a_lead a_defeat a_defeater s_ins s_outs a_order s_ordered a_is a_was s_reading s_isWell a_depths a_ways s_z, caI G a_w 43 g_w, caI G a_hit 8 g_hit_32, caI G a_lead 8 g_lead_32, caI G a_defeat 8 g_defeat_32, caI G a_defeater 8 g_defeater_32] H := hP
      have hD : va_D A [caI G a_refusals 7 g_refusals, caZ G a_is 256 g_is, caZ G a_was 256 g_was, ceX11 h0 a_w a_kept a_laid s_hasImage a_refusals a_row s_rows a_letters s_lettered a_hit a_lead a_defeat a_defeater s_ins s_outs a_order s_ordered a_is a_was s_reading s_isWell a_depths a_ways s_z, caI G a_w 43 g_w, caI G a_hit 8 g_hit_32, caI G a_lead 8 g_lead_32, caI G a_defeat 8 g_defeat_32, caI G a_defeater 8 g_defeater_32] := hD
      refine lv_aload_n hx hb dX11_sets_35 rfl (lv_at hl 0 rfl) ?_
      refine lv_iload_n hx hb dX11_sets_36 rfl (lv_at hl 1 rfl) ?_
      refine hc_kv (wr := [caI G a_refusals 7 g_refusals, caI G a_hit 8 g_hit_32, caI G a_lead 8 g_lead_32]) (va_runV (As := [.int x1]) (rest := []) ⟨hx, hb, hml, hown, hts⟩ (c_X11_finds l G h0 a_w a_kept a_laid a_refusals a_row a_letters a_hit a_lead a_defeat a_defeater a_order a_is a_was a_depths a_ways H.size s_hasImage s_rows s_lettered s_ins s_outs s_ordered s_reading s_isWell s_z g_w g_defeat_32 g_defeater_32 g_is g_was x1 _ h) (cwV 1 hts gX11_sets_X11_finds rfl rfl rfl (by decide +kernel) ⟨Nat.le_of_ble_eq_true rfl, Nat.le_of_ble_eq_true rfl⟩) (hc_pV hK hP hD [3, 4, 7, 8, 1, 2] rfl rfl (ci := 9) 3 rfl rfl) rfl rfl hl.1 rfl (lv_room (Nat.le_of_ble_eq_true rfl)) dX11_sets_37 ⟨Nat.le_refl _, Nat.le_refl _⟩) hP hD hS hA [3, 4, 7, 8, 1, 2] [0, 5, 6] rfl rfl rfl (by decide) (fun u H locs h hP hD hS => ?_)
      obtain ⟨g_is_37, g_was_37⟩ := u
      try dsimp only at h
      have hP : va_P G.1 vwCl [caI G a_refusals 7 g_refusals, caI G a_hit 8 g_hit_32, caI G a_lead 8 g_lead_32, ceX11 h0 a_w a_kept a_laid s_hasImage a_refusals a_row s_rows a_letters s_lettered a_hit a_lead a_defeat a_defeater s_ins s_outs a_order s_ordered a_is a_was s_reading s_isWell a_depths a_ways s_z, caI G a_w 43 g_w, caI G a_defeat 8 g_defeat_32, caI G a_defeater 8 g_defeater_32, caZ G a_is 256 g_is_37, caZ G a_was 256 g_was_37] H := hP
      have hD : va_D A [caI G a_refusals 7 g_refusals, caI G a_hit 8 g_hit_32, caI G a_lead 8 g_lead_32, ceX11 h0 a_w a_kept a_laid s_hasImage a_refusals a_row s_rows a_letters s_lettered a_hit a_lead a_defeat a_defeater s_ins s_outs a_order s_ordered a_is a_was s_reading s_isWell a_depths a_ways s_z, caI G a_w 43 g_w, caI G a_defeat 8 g_defeat_32, caI G a_defeater 8 g_defeater_32, caZ G a_is 256 g_is_37, caZ G a_was 256 g_was_37] := hD
      refine lv_iload_n hx hb dX11_sets_40 rfl (lv_at hl 2 rfl) ?_
      refine lv_if_ge (tgt := 51) hx hb dX11_sets_41 (by decide) (fun c => ?_) (fun c => ?_)
      · replace h := h.1 c
        refine lv_aload_n hx hb dX11_sets_51 rfl (lv_at hl 0 rfl) ?_
        refine lv_iload_n hx hb dX11_sets_52 rfl (lv_at hl 2 rfl) ?_
        refine hc_ki (wr := [caI G a_refusals 7 g_refusals, caI G a_hit 8 g_hit_32, caI G a_lead 8 g_lead_32, caI G a_w 43 g_w, caI G a_defeat 8 g_defeat_32, caI G a_defeater 8 g_defeater_32, caZ G a_was 256 g_was_37]) (va_runV (As := [.int x2]) (rest := []) ⟨hx, hb, hml, hown, hts⟩ (c_X11_foundAt l G h0 a_w a_kept a_laid a_refusals a_row a_letters a_hit a_lead a_defeat a_defeater a_order a_is a_was a_depths a_ways H.size s_hasImage s_rows s_lettered s_ins s_outs s_ordered s_reading s_isWell s_z g_is_37 x2 _ h) (cwV 1 hts gX11_sets_X11_foundAt rfl rfl rfl (by decide +kernel) ⟨Nat.le_of_ble_eq_true rfl, Nat.le_of_ble_eq_true rfl⟩) (hc_pV hK hP hD [3, 7] rfl rfl (ci := 9) 3 rfl rfl) rfl rfl hl.1 rfl (lv_room (Nat.le_of_ble_eq_true rfl)) dX11_sets_53 ⟨Nat.le_refl _, Nat.le_refl _⟩) hP hD hS hA [3, 7] [0, 1, 2, 4, 5, 6, 8] rfl rfl rfl (by decide) (fun r53 u H locs h hP hD hS => ?_)
        try dsimp only at h
        have hP : va_P G.1 vwCl [caI G a_refusals 7 g_refusals, caI G a_hit 8 g_hit_32, caI G a_lead 8 g_lead_32, caI G a_w 43 g_w, caI G a_defeat 8 g_defeat_32, caI G a_defeater 8 g_defeater_32, caZ G a_was 256 g_was_37, ceX11 h0 a_w a_kept a_laid s_hasImage a_refusals a_row s_rows a_letters s_lettered a_hit a_lead a_defeat a_defeater s_ins s_outs a_order s_ordered a_is a_was s_reading s_isWell a_depths a_ways s_z, caZ G a_is 256 g_is_37] H := hP
        have hD : va_D A [caI G a_refusals 7 g_refusals, caI G a_hit 8 g_hit_32, caI G a_lead 8 g_lead_32, caI G a_w 43 g_w, caI G a_defeat 8 g_defeat_32, caI G a_defeater 8 g_defeater_32, caZ G a_was 256 g_was_37, ceX11 h0 a_w a_kept a_laid s_hasImage a_refusals a_row s_rows a_letters s_lettered a_hit a_lead a_defeat a_defeater s_ins s_outs a_order s_ordered a_is a_was s_reading s_isWell a_depths a_ways s_z, caZ G a_is 256 g_is_37] := hD
        exact W.iret (v := r53) hx hb hr (fun t ht hW => ⟨⟨_, ⟨g_refusals, g_hit_32, g_lead_32, g_defeat_32, g_defeater_32, g_is_37, g_was_37⟩, rfl, h, ⟨by rw [ht]; exact (hP.sub [7, 3, 0, 1, 2, 4, 5, 8, 6] rfl), (hD.sub [7, 3, 0, 1, 2, 4, 5, 8, 6] (by decide) rfl)⟩⟩, hS.F ht⟩) hS.2.2 dX11_sets_56
      · replace h := h.2 c
        refine lv_aload_n hx hb dX11_sets_44 rfl (lv_at hl 0 rfl) ?_
        refine hc_ki (wr := [caI G a_refusals 7 g_refusals, caI G a_hit 8 g_hit_32, caI G a_lead 8 g_lead_32, caI G a_w 43 g_w, caI G a_defeat 8 g_defeat_32, caI G a_defeater 8 g_defeater_32, caZ G a_was 256 g_was_37]) (va_runV (As := []) (rest := []) ⟨hx, hb, hml, hown, hts⟩ (c_X11_found l G h0 a_w a_kept a_laid a_refusals a_row a_letters a_hit a_lead a_defeat a_defeater a_order a_is a_was a_depths a_ways H.size s_hasImage s_rows s_lettered s_ins s_outs s_ordered s_reading s_isWell s_z g_is_37 _ h) (cwV 0 hts gX11_sets_X11_found rfl rfl rfl (by decide +kernel) ⟨Nat.le_of_ble_eq_true rfl, Nat.le_of_ble_eq_true rfl⟩) (hc_pV hK hP hD [3, 7] rfl rfl (ci := 9) 3 rfl rfl) rfl rfl hl.1 rfl (lv_room (Nat.le_of_ble_eq_true rfl)) dX11_sets_45 ⟨Nat.le_refl _, Nat.le_refl _⟩) hP hD hS hA [3, 7] [0, 1, 2, 4, 5, 6, 8] rfl rfl rfl (by decide) (fun r45 u H locs h hP hD hS => ?_)
        try dsimp only at h
        have hP : va_P G.1 vwCl [caI G a_refusals 7 g_refusals, caI G a_hit 8 g_hit_32, caI G a_lead 8 g_lead_32, caI G a_w 43 g_w, caI G a_defeat 8 g_defeat_32, caI G a_defeater 8 g_defeater_32, caZ G a_was 256 g_was_37, ceX11 h0 a_w a_kept a_laid s_hasImage a_refusals a_row s_rows a_letters s_lettered a_hit a_lead a_defeat a_defeater s_ins s_outs a_order s_ordered a_is a_was s_reading s_isWell a_depths a_ways s_z, caZ G a_is 256 g_is_37] H := hP
        have hD : va_D A [caI G a_refusals 7 g_refusals, caI G a_hit 8 g_hit_32, caI G a_lead 8 g_lead_32, caI G a_w 43 g_w, caI G a_defeat 8 g_defeat_32, caI G a_defeater 8 g_defeater_32, caZ G a_was 256 g_was_37, ceX11 h0 a_w a_kept a_laid s_hasImage a_refusals a_row s_rows a_letters s_lettered a_hit a_lead a_defeat a_defeater s_ins s_outs a_order s_ordered a_is a_was s_reading s_isWell a_depths a_ways s_z, caZ G a_is 256 g_is_37] := hD
        refine lv_goto (tgt := 56) hx hb dX11_sets_48 (by decide) ?_
        exact W.iret (v := r45) hx hb hr (fun t ht hW => ⟨⟨_, ⟨g_refusals, g_hit_32, g_lead_32, g_defeat_32, g_defeater_32, g_is_37, g_was_37⟩, rfl, h, ⟨by rw [ht]; exact (hP.sub [7, 3, 0, 1, 2, 4, 5, 8, 6] rfl), (hD.sub [7, 3, 0, 1, 2, 4, 5, 8, 6] (by decide) rfl)⟩⟩, hS.F ht⟩) hS.2.2 dX11_sets_56
    · replace h := h.2 c
      refine lv_aload_n hx hb dX11_sets_24 rfl (lv_at hl 0 rfl) ?_
      refine lv_bipush (v := (-4 : Int32)) hx hb dX11_sets_25 kb_m4 ?_
      refine hc_ki (wr := [caI G a_w 43 g_w, caI G a_hit 8 g_hit, caI G a_lead 8 g_lead, caI G a_defeat 8 g_defeat, caI G a_defeater 8 g_defeater, caZ G a_is 256 g_is, caZ G a_was 256 g_was]) (va_runV (As := [.int ((-4 : Int32))]) (rest := []) ⟨hx, hb, hml, hown, hts⟩ (c_X11_refused l G h0 a_w a_kept a_laid a_refusals a_row a_letters a_hit a_lead a_defeat a_defeater a_order a_is a_was a_depths a_ways H.size s_hasImage s_rows s_lettered s_ins s_outs s_ordered s_reading s_isWell s_z g_refusals ((-4 : Int32)) _ h) (cwV 1 hts gX11_sets_X11_refused rfl rfl rfl (by decide +kernel) ⟨Nat.le_of_ble_eq_true rfl, Nat.le_of_ble_eq_true rfl⟩) (hc_pV hK hP hD [0, 2] rfl rfl (ci := 9) 0 rfl rfl) rfl rfl hl.1 rfl (lv_room (Nat.le_of_ble_eq_true rfl)) dX11_sets_27 ⟨Nat.le_refl _, Nat.le_refl _⟩) hP hD hS hA [0, 2] [1, 3, 4, 5, 6, 7, 8] rfl rfl rfl (by decide) (fun r27 u H locs h hP hD hS => ?_)
      obtain ⟨g_refusals_27, rfl⟩ : ∃ z, z = u := ⟨_, rfl⟩
      try dsimp only at h
      have hP : va_P G.1 vwCl [caI G a_w 43 g_w, caI G a_hit 8 g_hit, caI G a_lead 8 g_lead, caI G a_defeat 8 g_defeat, caI G a_defeater 8 g_defeater, caZ G a_is 256 g_is, caZ G a_was 256 g_was, ceX11 h0 a_w a_kept a_laid s_hasImage a_refusals a_row s_rows a_letters s_lettered a_hit a_lead a_defeat a_defeater s_ins s_outs a_order s_ordered a_is a_was s_reading s_isWell a_depths a_ways s_z, caI G a_refusals 7 g_refusals_27] H := hP
      have hD : va_D A [caI G a_w 43 g_w, caI G a_hit 8 g_hit, caI G a_lead 8 g_lead, caI G a_defeat 8 g_defeat, caI G a_defeater 8 g_defeater, caZ G a_is 256 g_is, caZ G a_was 256 g_was, ceX11 h0 a_w a_kept a_laid s_hasImage a_refusals a_row s_rows a_letters s_lettered a_hit a_lead a_defeat a_defeater s_ins s_outs a_order s_ordered a_is a_was s_reading s_isWell a_depths a_ways s_z, caI G a_refusals 7 g_refusals_27] := hD
      exact W.iret (v := r27) hx hb hr (fun t ht hW => ⟨⟨_, ⟨g_refusals_27, g_hit, g_lead, g_defeat, g_defeater, g_is, g_was⟩, rfl, h, ⟨by rw [ht]; exact (hP.sub [7, 0, 8, 1, 2, 3, 4, 5, 6] rfl), (hD.sub [7, 0, 8, 1, 2, 3, 4, 5, 6] (by decide) rfl)⟩⟩, hS.F ht⟩) hS.2.2 dX11_sets_30
  · replace h := h.2 c
    refine lv_aload_n hx hb dX11_sets_12 rfl (lv_at hl 0 rfl) ?_
    refine lv_bipush (v := (-2 : Int32)) hx hb dX11_sets_13 kb_m2 ?_
    refine hc_ki (wr := [caI G a_w 43 g_w, caI G a_hit 8 g_hit, caI G a_lead 8 g_lead, caI G a_defeat 8 g_defeat, caI G a_defeater 8 g_defeater, caZ G a_is 256 g_is, caZ G a_was 256 g_was]) (va_runV (As := [.int ((-2 : Int32))]) (rest := []) ⟨hx, hb, hml, hown, hts⟩ (c_X11_refused l G h0 a_w a_kept a_laid a_refusals a_row a_letters a_hit a_lead a_defeat a_defeater a_order a_is a_was a_depths a_ways H.size s_hasImage s_rows s_lettered s_ins s_outs s_ordered s_reading s_isWell s_z g_refusals ((-2 : Int32)) _ h) (cwV 1 hts gX11_sets_X11_refused rfl rfl rfl (by decide +kernel) ⟨Nat.le_of_ble_eq_true rfl, Nat.le_of_ble_eq_true rfl⟩) (hc_pV hK hP hD [0, 2] rfl rfl (ci := 9) 0 rfl rfl) rfl rfl hl.1 rfl (lv_room (Nat.le_of_ble_eq_true rfl)) dX11_sets_15 ⟨Nat.le_refl _, Nat.le_refl _⟩) hP hD hS hA [0, 2] [1, 3, 4, 5, 6, 7, 8] rfl rfl rfl (by decide) (fun r15 u H locs h hP hD hS => ?_)
    obtain ⟨g_refusals_15, rfl⟩ : ∃ z, z = u := ⟨_, rfl⟩
    try dsimp only at h
    have hP : va_P G.1 vwCl [caI G a_w 43 g_w, caI G a_hit 8 g_hit, caI G a_lead 8 g_lead, caI G a_defeat 8 g_defeat, caI G a_defeater 8 g_defeater, caZ G a_is 256 g_is, caZ G a_was 256 g_was, ceX11 h0 a_w a_kept a_laid s_hasImage a_refusals a_row s_rows a_letters s_lettered a_hit a_lead a_defeat a_defeater s_ins s_outs a_order s_ordered a_is a_was s_reading s_isWell a_depths a_ways s_z, caI G a_refusals 7 g_refusals_15] H := hP
    have hD : va_D A [caI G a_w 43 g_w, caI G a_hit 8 g_hit, caI G a_lead 8 g_lead, caI G a_defeat 8 g_defeat, caI G a_defeater 8 g_defeater, caZ G a_is 256 g_is, caZ G a_was 256 g_was, ceX11 h0 a_w a_kept a_laid s_hasImage a_refusals a_row s_rows a_letters s_lettered a_hit a_lead a_defeat a_defeater s_ins s_outs a_order s_ordered a_is a_was s_reading s_isWell a_depths a_ways s_z, caI G a_refusals 7 g_refusals_15] := hD
    exact W.iret (v := r15) hx hb hr (fun t ht hW => ⟨⟨_, ⟨g_refusals_15, g_hit, g_lead, g_defeat, g_defeater, g_is, g_was⟩, rfl, h, ⟨by rw [ht]; exact (hP.sub [7, 0, 8, 1, 2, 3, 4, 5, 6] rfl), (hD.sub [7, 0, 8, 1, 2, 3, 4, 5, 6] (by decide) rfl)⟩⟩, hS.F ht⟩) hS.2.2 dX11_sets_18
