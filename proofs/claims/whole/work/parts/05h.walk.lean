set_option maxHeartbeats 4000000 in
set_option maxRecDepth 100000 in
theorem c_X11_minds (l : Launch) (G : hcG) (h0 : Nat) (a_w : Nat) (a_kept : Nat) (a_laid : Nat) (a_refusals : Nat) (a_row : Nat) (a_letters : Nat) (a_hit : Nat) (a_lead : Nat) (a_defeat : Nat) (a_defeater : Nat) (a_order : Nat) (a_is : Nat) (a_was : Nat) (a_depths : Nat) (a_ways : Nat) (sz : Nat) (s_hasImage : Int32) (s_rows : Int32) (s_lettered : Int32) (s_ins : Int32) (s_outs : Int32) (s_ordered : Int32) (s_reading : Int32) (s_isWell : Int32) (s_z : Int32) (g_w : Nat → Int32) (g_laid : Nat → Int32) (post : (Nat → Int32) → Prop) (h : wp_X11_minds post g_w g_laid) : Met l yX11_minds wsX11_minds ({ frames := 1, cells := 0, slots := 0, locals := 22 }) (hcPc G [.ref h0] [ceX11 h0 a_w a_kept a_laid s_hasImage a_refusals a_row s_rows a_letters s_lettered a_hit a_lead a_defeat a_defeater s_ins s_outs a_order s_ordered a_is a_was s_reading s_isWell a_depths a_ways s_z, caI G a_w 43 g_w, caI G a_laid 43 g_laid] sz) (va_Qv (fun u : (Nat → Int32) => post u) (hcB G (va_A [ceX11 h0 a_w a_kept a_laid s_hasImage a_refusals a_row s_rows a_letters s_lettered a_hit a_lead a_defeat a_defeater s_ins s_outs a_order s_ordered a_is a_was s_reading s_isWell a_depths a_ways s_z, caI G a_w 43 g_w, caI G a_laid 43 g_laid] sz) (fun u : (Nat → Int32) => [ceX11 h0 a_w a_kept a_laid s_hasImage a_refusals a_row s_rows a_letters s_lettered a_hit a_lead a_defeat a_defeater s_ins s_outs a_order s_ordered a_is a_was s_reading s_isWell a_depths a_ways s_z, caI G a_w 43 g_w, caI G a_laid 43 u])) (va_A [ceX11 h0 a_w a_kept a_laid s_hasImage a_refusals a_row s_rows a_letters s_lettered a_hit a_lead a_defeat a_defeater s_ins s_outs a_order s_ordered a_is a_was s_reading s_isWell a_depths a_ways s_z, caI G a_w 43 g_w, caI G a_laid 43 g_laid] sz)) 0 0 (va_A [ceX11 h0 a_w a_kept a_laid s_hasImage a_refusals a_row s_rows a_letters s_lettered a_hit a_lead a_defeat a_defeater s_ins s_outs a_order s_ordered a_is a_was s_reading s_isWell a_depths a_ways s_z, caI G a_w 43 g_w, caI G a_laid 43 g_laid] sz) := by
  refine Met.ofW (cc := cX11_minds) (maxL := 1) (ret := none) (by decide) rfl ?_
  intro p e s m args below meth c s₁ B hml hv
  obtain ⟨rfl, hsz, hP, hK, hD0⟩ := hv
  have hx := B.exec
  have hb := B.bytes
  have hr := B.returns
  have hts := atoms_spec (ws := wsX11_minds) B.pre
  have hown : s.vm.findClass RX11 = some m.cls := findClass_of_methodNamed B.named
  have hlocks := B.notSynchronized
  subst hsz
  have hD := hD0.self (sz := s.heap.size)
  generalize hAe : va_A [ceX11 h0 a_w a_kept a_laid s_hasImage a_refusals a_row s_rows a_letters s_lettered a_hit a_lead a_defeat a_defeater s_ins s_outs a_order s_ordered a_is a_was s_reading s_isWell a_depths a_ways s_z, caI G a_w 43 g_w, caI G a_laid 43 g_laid] s.heap.size = A at hD ⊢
  have hA : ∀ q : Nat, s.heap.size ≤ q → A q := fun q h => by rw [← hAe]; exact Or.inr h
  have hS : va_S A s.heap s.heap [] := va_S.rf
  have hP : va_P G.1 vwCl [ceX11 h0 a_w a_kept a_laid s_hasImage a_refusals a_row s_rows a_letters s_lettered a_hit a_lead a_defeat a_defeater s_ins s_outs a_order s_ordered a_is a_was s_reading s_isWell a_depths a_ways s_z, caI G a_w 43 g_w, caI G a_laid 43 g_laid] s.heap := hP
  have hl := lv_entry ([.ref h0]) (n := 1) (Nat.le_of_ble_eq_true rfl)
  rw [lg_entry_eq]
  generalize (lg_sl ([.ref h0]) ++ List.replicate (1 - (lg_sl ([.ref h0])).length) Slot.unset).toArray = ls at hl ⊢
  have hl : lv_has ls 1 [(0, .ref h0)] := hl
  have kf0 := hts (.fieldLink RX11 9 "HallOfClaimsModel" "w" "[I") (List.mem_of_getElem? (i := 1) (by decide +kernel))
  have kf1 := hts (.fieldLink RX11 16 "HallOfClaimsModel" "laid" "[I") (List.mem_of_getElem? (i := 2) (by decide +kernel))
  have ki_X11 : ∀ w ∈ u_ws RX11 TX11 24, w ∈ wsX11_minds := by decide +kernel
  unfold wp_X11_minds at h
  refine lv_aload_n hx hb dX11_minds_0 rfl (lv_at hl 0 rfl) ?_
  refine va_get (D := G.1) (ci := 9) (v := .ref a_w) (C := RX11) (T := TX11) (N := 24) hx hb hts ki_X11 hown hK.1 hP 0 rfl rfl 0 (by decide) kf0 (fun _ h9 => h9) rfl dX11_minds_1 ?_
  refine lv_aload_n hx hb dX11_minds_4 rfl (lv_at hl 0 rfl) ?_
  refine va_get (D := G.1) (ci := 9) (v := .ref a_laid) (C := RX11) (T := TX11) (N := 24) hx hb hts ki_X11 hown hK.1 hP 0 rfl rfl 2 (by decide) kf1 (fun _ h9 => h9) rfl dX11_minds_5 ?_
  refine hc_kv (wr := [ceX11 h0 a_w a_kept a_laid s_hasImage a_refusals a_row s_rows a_letters s_lettered a_hit a_lead a_defeat a_defeater s_ins s_outs a_order s_ordered a_is a_was s_reading s_isWell a_depths a_ways s_z]) (va_runS (As := [.ref a_w, .ref a_laid]) (rest := []) ⟨hx, hb, hml, hown, hts⟩ (c_X11_copies l G a_w a_laid s.heap.size g_w g_laid _ h) (va_cwS 2 hts gX11_minds_X11_copies rfl rfl rfl (by decide +kernel) ⟨Nat.le_of_ble_eq_true rfl, Nat.le_of_ble_eq_true rfl⟩) (hc_pS hK hP hD [1, 2] rfl rfl) rfl rfl hl.1 rfl (lv_room (Nat.le_of_ble_eq_true rfl)) dX11_minds_8 ⟨Nat.le_refl _, Nat.le_refl _⟩) hP hD hS hA [1, 2] [0] rfl rfl rfl (by decide) (fun u H locs h hP hD hS => ?_)
  obtain ⟨g_laid_8, rfl⟩ : ∃ z, z = u := ⟨_, rfl⟩
  try dsimp only at h
  have hP : va_P G.1 vwCl [ceX11 h0 a_w a_kept a_laid s_hasImage a_refusals a_row s_rows a_letters s_lettered a_hit a_lead a_defeat a_defeater s_ins s_outs a_order s_ordered a_is a_was s_reading s_isWell a_depths a_ways s_z, caI G a_w 43 g_w, caI G a_laid 43 g_laid_8] H := hP
  have hD : va_D A [ceX11 h0 a_w a_kept a_laid s_hasImage a_refusals a_row s_rows a_letters s_lettered a_hit a_lead a_defeat a_defeater s_ins s_outs a_order s_ordered a_is a_was s_reading s_isWell a_depths a_ways s_z, caI G a_w 43 g_w, caI G a_laid 43 g_laid_8] := hD
  exact W.vret hx hb hr (fun t ht hW => ⟨⟨g_laid_8, rfl, h, ⟨by rw [ht]; exact hP, hD⟩⟩, hS.F ht⟩) hS.2.2 dX11_minds_11
set_option maxHeartbeats 4000000 in
set_option maxRecDepth 100000 in
theorem c_X11_forgets (l : Launch) (G : hcG) (h0 : Nat) (a_w : Nat) (a_kept : Nat) (a_laid : Nat) (a_refusals : Nat) (a_row : Nat) (a_letters : Nat) (a_hit : Nat) (a_lead : Nat) (a_defeat : Nat) (a_defeater : Nat) (a_order : Nat) (a_is : Nat) (a_was : Nat) (a_depths : Nat) (a_ways : Nat) (sz : Nat) (s_hasImage : Int32) (s_rows : Int32) (s_lettered : Int32) (s_ins : Int32) (s_outs : Int32) (s_ordered : Int32) (s_reading : Int32) (s_isWell : Int32) (s_z : Int32) (g_w : Nat → Int32) (g_laid : Nat → Int32) (post : (Nat → Int32) → Prop) (h : wp_X11_forgets post g_w g_laid) : Met l yX11_forgets wsX11_forgets ({ frames := 1, cells := 0, slots := 0, locals := 22 }) (hcPc G [.ref h0] [ceX11 h0 a_w a_kept a_laid s_hasImage a_refusals a_row s_rows a_letters s_lettered a_hit a_lead a_defeat a_defeater s_ins s_outs a_order s_ordered a_is a_was s_reading s_isWell a_depths a_ways s_z, caI G a_w 43 g_w, caI G a_laid 43 g_laid] sz) (va_Qv (fun u : (Nat → Int32) => post u) (hcB G (va_A [ceX11 h0 a_w a_kept a_laid s_hasImage a_refusals a_row s_rows a_letters s_lettered a_hit a_lead a_defeat a_defeater s_ins s_outs a_order s_ordered a_is a_was s_reading s_isWell a_depths a_ways s_z, caI G a_w 43 g_w, caI G a_laid 43 g_laid] sz) (fun u : (Nat → Int32) => [ceX11 h0 a_w a_kept a_laid s_hasImage a_refusals a_row s_rows a_letters s_lettered a_hit a_lead a_defeat a_defeater s_ins s_outs a_order s_ordered a_is a_was s_reading s_isWell a_depths a_ways s_z, caI G a_w 43 u, caI G a_laid 43 g_laid])) (va_A [ceX11 h0 a_w a_kept a_laid s_hasImage a_refusals a_row s_rows a_letters s_lettered a_hit a_lead a_defeat a_defeater s_ins s_outs a_order s_ordered a_is a_was s_reading s_isWell a_depths a_ways s_z, caI G a_w 43 g_w, caI G a_laid 43 g_laid] sz)) 0 0 (va_A [ceX11 h0 a_w a_kept a_laid s_hasImage a_refusals a_row s_rows a_letters s_lettered a_hit a_lead a_defeat a_defeater s_ins s_outs a_order s_ordered a_is a_was s_reading s_isWell a_depths a_ways s_z, caI G a_w 43 g_w, caI G a_laid 43 g_laid] sz) := by
  refine Met.ofW (cc := cX11_forgets) (maxL := 1) (ret := none) (by decide) rfl ?_
  intro p e s m args below meth c s₁ B hml hv
  obtain ⟨rfl, hsz, hP, hK, hD0⟩ := hv
  have hx := B.exec
  have hb := B.bytes
  have hr := B.returns
  have hts := atoms_spec (ws := wsX11_forgets) B.pre
  have hown : s.vm.findClass RX11 = some m.cls := findClass_of_methodNamed B.named
  have hlocks := B.notSynchronized
  subst hsz
  have hD := hD0.self (sz := s.heap.size)
  generalize hAe : va_A [ceX11 h0 a_w a_kept a_laid s_hasImage a_refusals a_row s_rows a_letters s_lettered a_hit a_lead a_defeat a_defeater s_ins s_outs a_order s_ordered a_is a_was s_reading s_isWell a_depths a_ways s_z, caI G a_w 43 g_w, caI G a_laid 43 g_laid] s.heap.size = A at hD ⊢
  have hA : ∀ q : Nat, s.heap.size ≤ q → A q := fun q h => by rw [← hAe]; exact Or.inr h
  have hS : va_S A s.heap s.heap [] := va_S.rf
  have hP : va_P G.1 vwCl [ceX11 h0 a_w a_kept a_laid s_hasImage a_refusals a_row s_rows a_letters s_lettered a_hit a_lead a_defeat a_defeater s_ins s_outs a_order s_ordered a_is a_was s_reading s_isWell a_depths a_ways s_z, caI G a_w 43 g_w, caI G a_laid 43 g_laid] s.heap := hP
  have hl := lv_entry ([.ref h0]) (n := 1) (Nat.le_of_ble_eq_true rfl)
  rw [lg_entry_eq]
  generalize (lg_sl ([.ref h0]) ++ List.replicate (1 - (lg_sl ([.ref h0])).length) Slot.unset).toArray = ls at hl ⊢
  have hl : lv_has ls 1 [(0, .ref h0)] := hl
  have kf0 := hts (.fieldLink RX11 16 "HallOfClaimsModel" "laid" "[I") (List.mem_of_getElem? (i := 1) (by decide +kernel))
  have kf1 := hts (.fieldLink RX11 9 "HallOfClaimsModel" "w" "[I") (List.mem_of_getElem? (i := 2) (by decide +kernel))
  have ki_X11 : ∀ w ∈ u_ws RX11 TX11 24, w ∈ wsX11_forgets := by decide +kernel
  unfold wp_X11_forgets at h
  refine lv_aload_n hx hb dX11_forgets_0 rfl (lv_at hl 0 rfl) ?_
  refine va_get (D := G.1) (ci := 9) (v := .ref a_laid) (C := RX11) (T := TX11) (N := 24) hx hb hts ki_X11 hown hK.1 hP 0 rfl rfl 2 (by decide) kf0 (fun _ h9 => h9) rfl dX11_forgets_1 ?_
  refine lv_aload_n hx hb dX11_forgets_4 rfl (lv_at hl 0 rfl) ?_
  refine va_get (D := G.1) (ci := 9) (v := .ref a_w) (C := RX11) (T := TX11) (N := 24) hx hb hts ki_X11 hown hK.1 hP 0 rfl rfl 0 (by decide) kf1 (fun _ h9 => h9) rfl dX11_forgets_5 ?_
  refine hc_kv (wr := [ceX11 h0 a_w a_kept a_laid s_hasImage a_refusals a_row s_rows a_letters s_lettered a_hit a_lead a_defeat a_defeater s_ins s_outs a_order s_ordered a_is a_was s_reading s_isWell a_depths a_ways s_z]) (va_runS (As := [.ref a_laid, .ref a_w]) (rest := []) ⟨hx, hb, hml, hown, hts⟩ (c_X11_copies l G a_laid a_w s.heap.size g_laid g_w _ h) (va_cwS 2 hts gX11_forgets_X11_copies rfl rfl rfl (by decide +kernel) ⟨Nat.le_of_ble_eq_true rfl, Nat.le_of_ble_eq_true rfl⟩) (hc_pS hK hP hD [2, 1] rfl rfl) rfl rfl hl.1 rfl (lv_room (Nat.le_of_ble_eq_true rfl)) dX11_forgets_8 ⟨Nat.le_refl _, Nat.le_refl _⟩) hP hD hS hA [2, 1] [0] rfl rfl rfl (by decide) (fun u H locs h hP hD hS => ?_)
  obtain ⟨g_w_8, rfl⟩ : ∃ z, z = u := ⟨_, rfl⟩
  try dsimp only at h
  have hP : va_P G.1 vwCl [ceX11 h0 a_w a_kept a_laid s_hasImage a_refusals a_row s_rows a_letters s_lettered a_hit a_lead a_defeat a_defeater s_ins s_outs a_order s_ordered a_is a_was s_reading s_isWell a_depths a_ways s_z, caI G a_laid 43 g_laid, caI G a_w 43 g_w_8] H := hP
  have hD : va_D A [ceX11 h0 a_w a_kept a_laid s_hasImage a_refusals a_row s_rows a_letters s_lettered a_hit a_lead a_defeat a_defeater s_ins s_outs a_order s_ordered a_is a_was s_reading s_isWell a_depths a_ways s_z, caI G a_laid 43 g_laid, caI G a_w 43 g_w_8] := hD
  exact W.vret hx hb hr (fun t ht hW => ⟨⟨g_w_8, rfl, h, ⟨by rw [ht]; exact (hP.sub [0, 2, 1] rfl), (hD.sub [0, 2, 1] (by decide) rfl)⟩⟩, hS.F ht⟩) hS.2.2 dX11_forgets_11
set_option maxHeartbeats 4000000 in
set_option maxRecDepth 100000 in
theorem c_X11_lets (l : Launch) (G : hcG) (h0 : Nat) (a_w : Nat) (a_kept : Nat) (a_laid : Nat) (a_refusals : Nat) (a_row : Nat) (a_letters : Nat) (a_hit : Nat) (a_lead : Nat) (a_defeat : Nat) (a_defeater : Nat) (a_order : Nat) (a_is : Nat) (a_was : Nat) (a_depths : Nat) (a_ways : Nat) (sz : Nat) (s_hasImage : Int32) (s_rows : Int32) (s_lettered : Int32) (s_ins : Int32) (s_outs : Int32) (s_ordered : Int32) (s_reading : Int32) (s_isWell : Int32) (s_z : Int32) (g_w : Nat → Int32) (x1 : Int32) (x2 : Int32) (post : Int32 → Prop) (h : wp_X11_lets post g_w x1 x2) : Met l yX11_lets wsX11_lets ({ frames := 0, cells := 0, slots := 0, locals := 0 }) (hcPc G [.ref h0, .int x1, .int x2] [ceX11 h0 a_w a_kept a_laid s_hasImage a_refusals a_row s_rows a_letters s_lettered a_hit a_lead a_defeat a_defeater s_ins s_outs a_order s_ordered a_is a_was s_reading s_isWell a_depths a_ways s_z, caI G a_w 43 g_w] sz) (va_Qi (fun (r : Int32) (u : Unit) => post r) (hcB G (va_A [ceX11 h0 a_w a_kept a_laid s_hasImage a_refusals a_row s_rows a_letters s_lettered a_hit a_lead a_defeat a_defeater s_ins s_outs a_order s_ordered a_is a_was s_reading s_isWell a_depths a_ways s_z, caI G a_w 43 g_w] sz) (fun u : Unit => [ceX11 h0 a_w a_kept a_laid s_hasImage a_refusals a_row s_rows a_letters s_lettered a_hit a_lead a_defeat a_defeater s_ins s_outs a_order s_ordered a_is a_was s_reading s_isWell a_depths a_ways s_z, caI G a_w 43 g_w])) (va_A [ceX11 h0 a_w a_kept a_laid s_hasImage a_refusals a_row s_rows a_letters s_lettered a_hit a_lead a_defeat a_defeater s_ins s_outs a_order s_ordered a_is a_was s_reading s_isWell a_depths a_ways s_z, caI G a_w 43 g_w] sz)) 0 0 (va_A [ceX11 h0 a_w a_kept a_laid s_hasImage a_refusals a_row s_rows a_letters s_lettered a_hit a_lead a_defeat a_defeater s_ins s_outs a_order s_ordered a_is a_was s_reading s_isWell a_depths a_ways s_z, caI G a_w 43 g_w] sz) := by
  refine Met.ofW (cc := cX11_lets) (maxL := 5) (ret := (some .boolean)) (by decide) rfl ?_
  intro p e s m args below meth c s₁ B hml hv
  obtain ⟨rfl, hsz, hP, hK, hD0⟩ := hv
  have hx := B.exec
  have hb := B.bytes
  have hr := B.returns
  have hts := atoms_spec (ws := wsX11_lets) B.pre
  have hown : s.vm.findClass RX11 = some m.cls := findClass_of_methodNamed B.named
  have hlocks := B.notSynchronized
  subst hsz
  have hD := hD0.self (sz := s.heap.size)
  generalize hAe : va_A [ceX11 h0 a_w a_kept a_laid s_hasImage a_refusals a_row s_rows a_letters s_lettered a_hit a_lead a_defeat a_defeater s_ins s_outs a_order s_ordered a_is a_was s_reading s_isWell a_depths a_ways s_z, caI G a_w 43 g_w] s.heap.size = A at hD ⊢
  have hA : ∀ q : Nat, s.heap.size ≤ q → A q := fun q h => by rw [← hAe]; exact Or.inr h
  have hS : va_S A s.heap s.heap [] := va_S.rf
  have hP : va_P G.1 vwCl [ceX11 h0 a_w a_kept a_laid s_hasImage a_refusals a_row s_rows a_letters s_lettered a_hit a_lead a_defeat a_defeater s_ins s_outs a_order s_ordered a_is a_was s_reading s_isWell a_depths a_ways s_z, caI G a_w 43 g_w] s.heap := hP
  have hl := lv_entry ([.ref h0, .int x1, .int x2]) (n := 5) (Nat.le_of_ble_eq_true rfl)
  rw [lg_entry_eq]
  generalize (lg_sl ([.ref h0, .int x1, .int x2]) ++ List.replicate (5 - (lg_sl ([.ref h0, .int x1, .int x2])).length) Slot.unset).toArray = ls at hl ⊢
  have hl : lv_has ls 5 [(0, .ref h0), (1, .int x1), (2, .int x2)] := hl
  have kf0 := hts (.fieldLink RX11 9 "HallOfClaimsModel" "w" "[I") (List.mem_of_getElem? (i := 1) (by decide +kernel))
  have ki_X11 : ∀ w ∈ u_ws RX11 TX11 24, w ∈ wsX11_lets := by decide +kernel
  have w92 : ∀ (v3 : Int32) (v4 : Int32) , wp_X11_lets_92 post g_w x1 x2 v3 v4 → ∀ (H : Heap) (locs : List Loc) (ls : Array Slot), va_P G.1 vwCl [ceX11 h0 a_w a_kept a_laid s_hasImage a_refusals a_row s_rows a_letters s_lettered a_hit a_lead a_defeat a_defeater s_ins s_outs a_order s_ordered a_is a_was s_reading s_isWell a_depths a_ways s_z, caI G a_w 43 g_w] H → va_D A [ceX11 h0 a_w a_kept a_laid s_hasImage a_refusals a_row s_rows a_letters s_lettered a_hit a_lead a_defeat a_defeater s_ins s_outs a_order s_ordered a_is a_was s_reading s_isWell a_depths a_ways s_z, caI G a_w 43 g_w] → va_S A s.heap H locs → lv_has ls 5 [(3, .int v3), (4, .int v4)] → W p l e (headSpec wsX11_lets ({ frames := 0, cells := 0, slots := 0, locals := 0 })).room s m ([.ref h0, .int x1, .int x2] : List Value).toArray below meth c H locs 0 0 (MQ below (va_Qi (fun (r : Int32) (u : Unit) => post r) (hcB G A (fun u : Unit => [ceX11 h0 a_w a_kept a_laid s_hasImage a_refusals a_row s_rows a_letters s_lettered a_hit a_lead a_defeat a_defeater s_ins s_outs a_order s_ordered a_is a_was s_reading s_isWell a_depths a_ways s_z, caI G a_w 43 g_w])) A) ([.ref h0, .int x1, .int x2] : List Value).toArray s 0 0 A) (F0 m 92 ls []) := by
    intro v3 v4 h H locs ls hP hD hS hl
    unfold wp_X11_lets_92 at h
    refine lv_iload hx hb dX11_lets_92 (lv_at hl 1 rfl) ?_
    refine lv_iconst (v := nI 3) hx hb dX11_lets_94 kc_3 ?_
    refine lv_icmp_ne (tgt := 103) hx hb dX11_lets_95 (by decide) (fun c => ?_) (fun c => ?_)
    · replace h := h.1 c
      refine lv_iconst (v := nI 1) hx hb dX11_lets_103 kc_1 ?_
      refine lv_goto (tgt := 108) hx hb dX11_lets_104 (by decide) ?_
      exact W.zret (v := nI 1) hx hb hr rfl (fun t ht hW => ⟨⟨_, (), rfl, h, ⟨by rw [ht]; exact hP, hD⟩⟩, hS.F ht⟩) hS.2.2 dX11_lets_108
    · replace h := h.2 c
      refine lv_iload_n hx hb dX11_lets_98 rfl (lv_at hl 0 rfl) ?_
      refine lv_iconst (v := nI 3) hx hb dX11_lets_99 kc_3 ?_
      refine lv_icmp_ne (tgt := 107) hx hb dX11_lets_100 (by decide) (fun c => ?_) (fun c => ?_)
      · replace h := h.1 c
        refine lv_iconst (v := nI 0) hx hb dX11_lets_107 kc_0 ?_
        exact W.zret (v := nI 0) hx hb hr rfl (fun t ht hW => ⟨⟨_, (), rfl, h, ⟨by rw [ht]; exact hP, hD⟩⟩, hS.F ht⟩) hS.2.2 dX11_lets_108
      · replace h := h.2 c
        refine lv_iconst (v := nI 1) hx hb dX11_lets_103 kc_1 ?_
        refine lv_goto (tgt := 108) hx hb dX11_lets_104 (by decide) ?_
        exact W.zret (v := nI 1) hx hb hr rfl (fun t ht hW => ⟨⟨_, (), rfl, h, ⟨by rw [ht]; exact hP, hD⟩⟩, hS.F ht⟩) hS.2.2 dX11_lets_108
  have w69 : ∀ (v3 : Int32) (v4 : Int32) , wp_X11_lets_69 post g_w x1 x2 v3 v4 → ∀ (H : Heap) (locs : List Loc) (ls : Array Slot), va_P G.1 vwCl [ceX11 h0 a_w a_kept a_laid s_hasImage a_refusals a_row s_rows a_letters s_lettered a_hit a_lead a_defeat a_defeater s_ins s_outs a_order s_ordered a_is a_was s_reading s_isWell a_depths a_ways s_z, caI G a_w 43 g_w] H → va_D A [ceX11 h0 a_w a_kept a_laid s_hasImage a_refusals a_row s_rows a_letters s_lettered a_hit a_lead a_defeat a_defeater s_ins s_outs a_order s_ordered a_is a_was s_reading s_isWell a_depths a_ways s_z, caI G a_w 43 g_w] → va_S A s.heap H locs → lv_has ls 5 [(0, .ref h0), (1, .int x1), (2, .int x2), (3, .int v3), (4, .int v4)] → W p l e (headSpec wsX11_lets ({ frames := 0, cells := 0, slots := 0, locals := 0 })).room s m ([.ref h0, .int x1, .int x2] : List Value).toArray below meth c H locs 0 0 (MQ below (va_Qi (fun (r : Int32) (u : Unit) => post r) (hcB G A (fun u : Unit => [ceX11 h0 a_w a_kept a_laid s_hasImage a_refusals a_row s_rows a_letters s_lettered a_hit a_lead a_defeat a_defeater s_ins s_outs a_order s_ordered a_is a_was s_reading s_isWell a_depths a_ways s_z, caI G a_w 43 g_w])) A) ([.ref h0, .int x1, .int x2] : List Value).toArray s 0 0 A) (F0 m 69 ls []) := by
    intro v3 v4 h H locs ls hP hD hS hl
    unfold wp_X11_lets_69 at h
    refine lv_aload_n hx hb dX11_lets_69 rfl (lv_at hl 0 rfl) ?_
    refine va_get (D := G.1) (ci := 9) (v := .ref a_w) (C := RX11) (T := TX11) (N := 24) hx hb hts ki_X11 hown hK.1 hP 0 rfl rfl 0 (by decide) kf0 (fun _ h9 => h9) rfl dX11_lets_70 ?_
    refine lv_bipush (v := nI 8) hx hb dX11_lets_73 kb_8 ?_
    refine lv_iload_n hx hb dX11_lets_75 rfl (lv_at hl 1 rfl) ?_
    refine lv_iadd hx hb dX11_lets_76 ?_
    have hin := h.1
    replace h := h.2
    refine va_iald hx hb hK.1 hP 1 0 rfl rfl hin dX11_lets_77 ?_
    refine lv_aload_n hx hb dX11_lets_78 rfl (lv_at hl 0 rfl) ?_
    refine va_get (D := G.1) (ci := 9) (v := .ref a_w) (C := RX11) (T := TX11) (N := 24) hx hb hts ki_X11 hown hK.1 hP 0 rfl rfl 0 (by decide) kf0 (fun _ h9 => h9) rfl dX11_lets_79 ?_
    refine lv_bipush (v := nI 8) hx hb dX11_lets_82 kb_8 ?_
    refine lv_iload_n hx hb dX11_lets_84 rfl (lv_at hl 2 rfl) ?_
    refine lv_iadd hx hb dX11_lets_85 ?_
    have hin := h.1
    replace h := h.2
    refine va_iald hx hb hK.1 hP 1 0 rfl rfl hin dX11_lets_86 ?_
    refine lv_icmp_ge (tgt := 92) hx hb dX11_lets_87 (by decide) (fun c => ?_) (fun c => ?_)
    · replace h := h.1 c
      exact w92  v3 v4 h _ _ _ hP hD hS (lv_sub hl [3, 4] rfl)
    · replace h := h.2 c
      refine lv_iconst (v := nI 0) hx hb dX11_lets_90 kc_0 ?_
      exact W.zret (v := nI 0) hx hb hr rfl (fun t ht hW => ⟨⟨_, (), rfl, h, ⟨by rw [ht]; exact hP, hD⟩⟩, hS.F ht⟩) hS.2.2 dX11_lets_91
  have w57 : ∀ (v3 : Int32) (v4 : Int32) , wp_X11_lets_57 post g_w x1 x2 v3 v4 → ∀ (H : Heap) (locs : List Loc) (ls : Array Slot), va_P G.1 vwCl [ceX11 h0 a_w a_kept a_laid s_hasImage a_refusals a_row s_rows a_letters s_lettered a_hit a_lead a_defeat a_defeater s_ins s_outs a_order s_ordered a_is a_was s_reading s_isWell a_depths a_ways s_z, caI G a_w 43 g_w] H → va_D A [ceX11 h0 a_w a_kept a_laid s_hasImage a_refusals a_row s_rows a_letters s_lettered a_hit a_lead a_defeat a_defeater s_ins s_outs a_order s_ordered a_is a_was s_reading s_isWell a_depths a_ways s_z, caI G a_w 43 g_w] → va_S A s.heap H locs → lv_has ls 5 [(0, .ref h0), (1, .int x1), (2, .int x2), (3, .int v3), (4, .int v4)] → W p l e (headSpec wsX11_lets ({ frames := 0, cells := 0, slots := 0, locals := 0 })).room s m ([.ref h0, .int x1, .int x2] : List Value).toArray below meth c H locs 0 0 (MQ below (va_Qi (fun (r : Int32) (u : Unit) => post r) (hcB G A (fun u : Unit => [ceX11 h0 a_w a_kept a_laid s_hasImage a_refusals a_row s_rows a_letters s_lettered a_hit a_lead a_defeat a_defeater s_ins s_outs a_order s_ordered a_is a_was s_reading s_isWell a_depths a_ways s_z, caI G a_w 43 g_w])) A) ([.ref h0, .int x1, .int x2] : List Value).toArray s 0 0 A) (F0 m 57 ls []) := by
    intro v3 v4 h H locs ls hP hD hS hl
    unfold wp_X11_lets_57 at h
    refine lv_iload hx hb dX11_lets_57 (lv_at hl 4 rfl) ?_
    refine lv_iconst (v := nI 2) hx hb dX11_lets_59 kc_2 ?_
    refine lv_icmp_eq (tgt := 69) hx hb dX11_lets_60 (by decide) (fun c => ?_) (fun c => ?_)
    · replace h := h.1 c
      exact w69  v3 v4 h _ _ _ hP hD hS (lv_sub hl [0, 1, 2, 3, 4] rfl)
    · replace h := h.2 c
      refine lv_iload hx hb dX11_lets_63 (lv_at hl 4 rfl) ?_
      refine lv_iconst (v := nI 3) hx hb dX11_lets_65 kc_3 ?_
      refine lv_icmp_ne (tgt := 92) hx hb dX11_lets_66 (by decide) (fun c => ?_) (fun c => ?_)
      · replace h := h.1 c
        exact w92  v3 v4 h _ _ _ hP hD hS (lv_sub hl [3, 4] rfl)
      · replace h := h.2 c
        exact w69  v3 v4 h _ _ _ hP hD hS (lv_sub hl [0, 1, 2, 3, 4] rfl)
  have w34 : ∀ (v3 : Int32) (v4 : Int32) , wp_X11_lets_34 post g_w x1 x2 v3 v4 → ∀ (H : Heap) (locs : List Loc) (ls : Array Slot), va_P G.1 vwCl [ceX11 h0 a_w a_kept a_laid s_hasImage a_refusals a_row s_rows a_letters s_lettered a_hit a_lead a_defeat a_defeater s_ins s_outs a_order s_ordered a_is a_was s_reading s_isWell a_depths a_ways s_z, caI G a_w 43 g_w] H → va_D A [ceX11 h0 a_w a_kept a_laid s_hasImage a_refusals a_row s_rows a_letters s_lettered a_hit a_lead a_defeat a_defeater s_ins s_outs a_order s_ordered a_is a_was s_reading s_isWell a_depths a_ways s_z, caI G a_w 43 g_w] → va_S A s.heap H locs → lv_has ls 5 [(0, .ref h0), (1, .int x1), (2, .int x2), (3, .int v3), (4, .int v4)] → W p l e (headSpec wsX11_lets ({ frames := 0, cells := 0, slots := 0, locals := 0 })).room s m ([.ref h0, .int x1, .int x2] : List Value).toArray below meth c H locs 0 0 (MQ below (va_Qi (fun (r : Int32) (u : Unit) => post r) (hcB G A (fun u : Unit => [ceX11 h0 a_w a_kept a_laid s_hasImage a_refusals a_row s_rows a_letters s_lettered a_hit a_lead a_defeat a_defeater s_ins s_outs a_order s_ordered a_is a_was s_reading s_isWell a_depths a_ways s_z, caI G a_w 43 g_w])) A) ([.ref h0, .int x1, .int x2] : List Value).toArray s 0 0 A) (F0 m 34 ls []) := by
    intro v3 v4 h H locs ls hP hD hS hl
    unfold wp_X11_lets_34 at h
    refine lv_aload_n hx hb dX11_lets_34 rfl (lv_at hl 0 rfl) ?_
    refine va_get (D := G.1) (ci := 9) (v := .ref a_w) (C := RX11) (T := TX11) (N := 24) hx hb hts ki_X11 hown hK.1 hP 0 rfl rfl 0 (by decide) kf0 (fun _ h9 => h9) rfl dX11_lets_35 ?_
    refine lv_bipush (v := nI 8) hx hb dX11_lets_38 kb_8 ?_
    refine lv_iload_n hx hb dX11_lets_40 rfl (lv_at hl 2 rfl) ?_
    refine lv_iadd hx hb dX11_lets_41 ?_
    have hin := h.1
    replace h := h.2
    refine va_iald hx hb hK.1 hP 1 0 rfl rfl hin dX11_lets_42 ?_
    refine lv_aload_n hx hb dX11_lets_43 rfl (lv_at hl 0 rfl) ?_
    refine va_get (D := G.1) (ci := 9) (v := .ref a_w) (C := RX11) (T := TX11) (N := 24) hx hb hts ki_X11 hown hK.1 hP 0 rfl rfl 0 (by decide) kf0 (fun _ h9 => h9) rfl dX11_lets_44 ?_
    refine lv_bipush (v := nI 8) hx hb dX11_lets_47 kb_8 ?_
    refine lv_iload_n hx hb dX11_lets_49 rfl (lv_at hl 1 rfl) ?_
    refine lv_iadd hx hb dX11_lets_50 ?_
    have hin := h.1
    replace h := h.2
    refine va_iald hx hb hK.1 hP 1 0 rfl rfl hin dX11_lets_51 ?_
    refine lv_icmp_le (tgt := 57) hx hb dX11_lets_52 (by decide) (fun c => ?_) (fun c => ?_)
    · replace h := h.1 c
      exact w57  v3 v4 h _ _ _ hP hD hS (lv_sub hl [0, 1, 2, 3, 4] rfl)
    · replace h := h.2 c
      refine lv_iconst (v := nI 0) hx hb dX11_lets_55 kc_0 ?_
      exact W.zret (v := nI 0) hx hb hr rfl (fun t ht hW => ⟨⟨_, (), rfl, h, ⟨by rw [ht]; exact hP, hD⟩⟩, hS.F ht⟩) hS.2.2 dX11_lets_56
  unfold wp_X11_lets at h
  refine lv_aload_n hx hb dX11_lets_0 rfl (lv_at hl 0 rfl) ?_
  refine va_get (D := G.1) (ci := 9) (v := .ref a_w) (C := RX11) (T := TX11) (N := 24) hx hb hts ki_X11 hown hK.1 hP 0 rfl rfl 0 (by decide) kf0 (fun _ h9 => h9) rfl dX11_lets_1 ?_
  refine lv_iconst (v := nI 0) hx hb dX11_lets_4 kc_0 ?_
  refine lv_iload_n hx hb dX11_lets_5 rfl (lv_at hl 1 rfl) ?_
  refine lv_iadd hx hb dX11_lets_6 ?_
  have hin := h.1
  replace h := h.2
  refine va_iald hx hb hK.1 hP 1 0 rfl rfl hin dX11_lets_7 ?_
  refine lv_istore_n (lv' := [(3, .int (g_w ((nI 0) + x1).toNatClampNeg)), (0, .ref h0), (1, .int x1), (2, .int x2)]) hx hb dX11_lets_8 rfl hl (by decide) rfl (fun ls hl => ?_)
  refine lv_aload_n hx hb dX11_lets_9 rfl (lv_at hl 1 rfl) ?_
  refine va_get (D := G.1) (ci := 9) (v := .ref a_w) (C := RX11) (T := TX11) (N := 24) hx hb hts ki_X11 hown hK.1 hP 0 rfl rfl 0 (by decide) kf0 (fun _ h9 => h9) rfl dX11_lets_10 ?_
  refine lv_iconst (v := nI 0) hx hb dX11_lets_13 kc_0 ?_
  refine lv_iload_n hx hb dX11_lets_14 rfl (lv_at hl 3 rfl) ?_
  refine lv_iadd hx hb dX11_lets_15 ?_
  have hin := h.1
  replace h := h.2
  refine va_iald hx hb hK.1 hP 1 0 rfl rfl hin dX11_lets_16 ?_
  refine lv_istore (lv' := [(4, .int (g_w ((nI 0) + x2).toNatClampNeg)), (3, .int (g_w ((nI 0) + x1).toNatClampNeg)), (0, .ref h0), (1, .int x1), (2, .int x2)]) hx hb dX11_lets_17 hl (by decide) rfl (fun ls hl => ?_)
  refine lv_iload_n hx hb dX11_lets_19 rfl (lv_at hl 1 rfl) ?_
  refine lv_iconst (v := nI 5) hx hb dX11_lets_20 kc_5 ?_
  refine lv_icmp_eq (tgt := 55) hx hb dX11_lets_21 (by decide) (fun c => ?_) (fun c => ?_)
  · replace h := h.1 c
    refine lv_iconst (v := nI 0) hx hb dX11_lets_55 kc_0 ?_
    exact W.zret (v := nI 0) hx hb hr rfl (fun t ht hW => ⟨⟨_, (), rfl, h, ⟨by rw [ht]; exact hP, hD⟩⟩, hS.F ht⟩) hS.2.2 dX11_lets_56
  · replace h := h.2 c
    refine lv_iload_n hx hb dX11_lets_24 rfl (lv_at hl 1 rfl) ?_
    refine lv_iconst (v := nI 1) hx hb dX11_lets_25 kc_1 ?_
    refine lv_icmp_eq (tgt := 34) hx hb dX11_lets_26 (by decide) (fun c => ?_) (fun c => ?_)
    · replace h := h.1 c
      exact w34  (g_w ((nI 0) + x1).toNatClampNeg) (g_w ((nI 0) + x2).toNatClampNeg) h _ _ _ hP hD hS (lv_sub hl [2, 3, 4, 1, 0] rfl)
    · replace h := h.2 c
      refine lv_iload_n hx hb dX11_lets_29 rfl (lv_at hl 1 rfl) ?_
      refine lv_iconst (v := nI 4) hx hb dX11_lets_30 kc_4 ?_
      refine lv_icmp_ne (tgt := 57) hx hb dX11_lets_31 (by decide) (fun c => ?_) (fun c => ?_)
      · replace h := h.1 c
        exact w57  (g_w ((nI 0) + x1).toNatClampNeg) (g_w ((nI 0) + x2).toNatClampNeg) h _ _ _ hP hD hS (lv_sub hl [2, 3, 4, 1, 0] rfl)
      · replace h := h.2 c
        exact w34  (g_w ((nI 0) + x1).toNatClampNeg) (g_w ((nI 0) + x2).toNatClampNeg) h _ _ _ hP hD hS (lv_sub hl [2, 3, 4, 1, 0] rfl)
set_option maxHeartbeats 4000000 in
set_option maxRecDepth 100000 in
theorem c_X11_hits (l : Launch) (G : hcG) (h0 : Nat) (a_w : Nat) (a_kept : Nat) (a_laid : Nat) (a_refusals : Nat) (a_row : Nat) (a_letters : Nat) (a_hit : Nat) (a_lead : Nat) (a_defeat : Nat) (a_defeater : Nat) (a_order : Nat) (a_is : Nat) (a_was : Nat) (a_depths : Nat) (a_ways : Nat) (sz : Nat) (s_hasImage : Int32) (s_rows : Int32) (s_lettered : Int32) (s_ins : Int32) (s_outs : Int32) (s_ordered : Int32) (s_reading : Int32) (s_isWell : Int32) (s_z : Int32) (g_w : Nat → Int32) (x1 : Int32) (x2 : Int32) (post : Int32 → Prop) (h : wp_X11_hits post g_w x1 x2) : Met l yX11_hits wsX11_hits ({ frames := 2, cells := 0, slots := 0, locals := 42 }) (hcPc G [.ref h0, .int x1, .int x2] [ceX11 h0 a_w a_kept a_laid s_hasImage a_refusals a_row s_rows a_letters s_lettered a_hit a_lead a_defeat a_defeater s_ins s_outs a_order s_ordered a_is a_was s_reading s_isWell a_depths a_ways s_z, caI G a_w 43 g_w] sz) (va_Qi (fun (r : Int32) (u : Unit) => post r) (hcB G (va_A [ceX11 h0 a_w a_kept a_laid s_hasImage a_refusals a_row s_rows a_letters s_lettered a_hit a_lead a_defeat a_defeater s_ins s_outs a_order s_ordered a_is a_was s_reading s_isWell a_depths a_ways s_z, caI G a_w 43 g_w] sz) (fun u : Unit => [ceX11 h0 a_w a_kept a_laid s_hasImage a_refusals a_row s_rows a_letters s_lettered a_hit a_lead a_defeat a_defeater s_ins s_outs a_order s_ordered a_is a_was s_reading s_isWell a_depths a_ways s_z, caI G a_w 43 g_w])) (va_A [ceX11 h0 a_w a_kept a_laid s_hasImage a_refusals a_row s_rows a_letters s_lettered a_hit a_lead a_defeat a_defeater s_ins s_outs a_order s_ordered a_is a_was s_reading s_isWell a_depths a_ways s_z, caI G a_w 43 g_w] sz)) 0 0 (va_A [ceX11 h0 a_w a_kept a_laid s_hasImage a_refusals a_row s_rows a_letters s_lettered a_hit a_lead a_defeat a_defeater s_ins s_outs a_order s_ordered a_is a_was s_reading s_isWell a_depths a_ways s_z, caI G a_w 43 g_w] sz) := by
  refine Met.ofW (cc := cX11_hits) (maxL := 3) (ret := (some .boolean)) (by decide) rfl ?_
  intro p e s m args below meth c s₁ B hml hv
  obtain ⟨rfl, hsz, hP, hK, hD0⟩ := hv
  have hx := B.exec
  have hb := B.bytes
  have hr := B.returns
  have hts := atoms_spec (ws := wsX11_hits) B.pre
  have hown : s.vm.findClass RX11 = some m.cls := findClass_of_methodNamed B.named
  have hlocks := B.notSynchronized
  subst hsz
  have hD := hD0.self (sz := s.heap.size)
  generalize hAe : va_A [ceX11 h0 a_w a_kept a_laid s_hasImage a_refusals a_row s_rows a_letters s_lettered a_hit a_lead a_defeat a_defeater s_ins s_outs a_order s_ordered a_is a_was s_reading s_isWell a_depths a_ways s_z, caI G a_w 43 g_w] s.heap.size = A at hD ⊢
  have hA : ∀ q : Nat, s.heap.size ≤ q → A q := fun q h => by rw [← hAe]; exact Or.inr h
  have hS : va_S A s.heap s.heap [] := va_S.rf
  have hP : va_P G.1 vwCl [ceX11 h0 a_w a_kept a_laid s_hasImage a_refusals a_row s_rows a_letters s_lettered a_hit a_lead a_defeat a_defeater s_ins s_outs a_order s_ordered a_is a_was s_reading s_isWell a_depths a_ways s_z, caI G a_w 43 g_w] s.heap := hP
  have hl := lv_entry ([.ref h0, .int x1, .int x2]) (n := 3) (Nat.le_of_ble_eq_true rfl)
  rw [lg_entry_eq]
  generalize (lg_sl ([.ref h0, .int x1, .int x2]) ++ List.replicate (3 - (lg_sl ([.ref h0, .int x1, .int x2])).length) Slot.unset).toArray = ls at hl ⊢
  have hl : lv_has ls 3 [(0, .ref h0), (1, .int x1), (2, .int x2)] := hl
  have kf0 := hts (.fieldLink RX11 9 "HallOfClaimsModel" "w" "[I") (List.mem_of_getElem? (i := 1) (by decide +kernel))
  have ki_X11 : ∀ w ∈ u_ws RX11 TX11 24, w ∈ wsX11_hits := by decide +kernel
  unfold wp_X11_hits at h
  refine lv_aload_n hx hb dX11_hits_0 rfl (lv_at hl 0 rfl) ?_
  refine lv_iload_n hx hb dX11_hits_1 rfl (lv_at hl 1 rfl) ?_
  refine hc_ki (wr := []) (va_runV (As := [.int x1]) (rest := []) ⟨hx, hb, hml, hown, hts⟩ (c_X11_isHeard l G h0 a_w a_kept a_laid a_refusals a_row a_letters a_hit a_lead a_defeat a_defeater a_order a_is a_was a_depths a_ways s.heap.size s_hasImage s_rows s_lettered s_ins s_outs s_ordered s_reading s_isWell s_z g_w x1 _ h) (cwV 1 hts gX11_hits_X11_isHeard rfl rfl rfl (by decide +kernel) ⟨Nat.le_of_ble_eq_true rfl, Nat.le_of_ble_eq_true rfl⟩) (hc_pV hK hP hD [0, 1] rfl rfl (ci := 9) 0 rfl rfl) rfl rfl hl.1 rfl (lv_room (Nat.le_of_ble_eq_true rfl)) dX11_hits_2 ⟨Nat.le_refl _, Nat.le_refl _⟩) hP hD hS hA [0, 1] [] rfl rfl rfl (by decide) (fun r2 u H locs h hP hD hS => ?_)
  try dsimp only at h
  have hP : va_P G.1 vwCl [ceX11 h0 a_w a_kept a_laid s_hasImage a_refusals a_row s_rows a_letters s_lettered a_hit a_lead a_defeat a_defeater s_ins s_outs a_order s_ordered a_is a_was s_reading s_isWell a_depths a_ways s_z, caI G a_w 43 g_w] H := hP
  have hD : va_D A [ceX11 h0 a_w a_kept a_laid s_hasImage a_refusals a_row s_rows a_letters s_lettered a_hit a_lead a_defeat a_defeater s_ins s_outs a_order s_ordered a_is a_was s_reading s_isWell a_depths a_ways s_z, caI G a_w 43 g_w] := hD
  refine lv_if_eq (tgt := 16) hx hb dX11_hits_5 (by decide) (fun c => ?_) (fun c => ?_)
  · replace h := h.1 c
    refine lv_iconst (v := nI 0) hx hb dX11_hits_16 kc_0 ?_
    exact W.zret (v := nI 0) hx hb hr rfl (fun t ht hW => ⟨⟨_, (), rfl, h, ⟨by rw [ht]; exact hP, hD⟩⟩, hS.F ht⟩) hS.2.2 dX11_hits_17
  · replace h := h.2 c
    refine lv_aload_n hx hb dX11_hits_8 rfl (lv_at hl 0 rfl) ?_
    refine lv_iload_n hx hb dX11_hits_9 rfl (lv_at hl 2 rfl) ?_
    refine hc_ki (wr := []) (va_runV (As := [.int x2]) (rest := []) ⟨hx, hb, hml, hown, hts⟩ (c_X11_isHeard l G h0 a_w a_kept a_laid a_refusals a_row a_letters a_hit a_lead a_defeat a_defeater a_order a_is a_was a_depths a_ways H.size s_hasImage s_rows s_lettered s_ins s_outs s_ordered s_reading s_isWell s_z g_w x2 _ h) (cwV 1 hts gX11_hits_X11_isHeard rfl rfl rfl (by decide +kernel) ⟨Nat.le_of_ble_eq_true rfl, Nat.le_of_ble_eq_true rfl⟩) (hc_pV hK hP hD [0, 1] rfl rfl (ci := 9) 0 rfl rfl) rfl rfl hl.1 rfl (lv_room (Nat.le_of_ble_eq_true rfl)) dX11_hits_10 ⟨Nat.le_refl _, Nat.le_refl _⟩) hP hD hS hA [0, 1] [] rfl rfl rfl (by decide) (fun r10 u H locs h hP hD hS => ?_)
    try dsimp only at h
    have hP : va_P G.1 vwCl [ceX11 h0 a_w a_kept a_laid s_hasImage a_refusals a_row s_rows a_letters s_lettered a_hit a_lead a_defeat a_defeater s_ins s_outs a_order s_ordered a_is a_was s_reading s_isWell a_depths a_ways s_z, caI G a_w 43 g_w] H := hP
    have hD : va_D A [ceX11 h0 a_w a_kept a_laid s_hasImage a_refusals a_row s_rows a_letters s_lettered a_hit a_lead a_defeat a_defeater s_ins s_outs a_order s_ordered a_is a_was s_reading s_isWell a_depths a_ways s_z, caI G a_w 43 g_w] := hD
    refine lv_if_ne (tgt := 18) hx hb dX11_hits_13 (by decide) (fun c => ?_) (fun c => ?_)
    · replace h := h.1 c
      refine lv_iload_n hx hb dX11_hits_18 rfl (lv_at hl 1 rfl) ?_
      refine lv_iload_n hx hb dX11_hits_19 rfl (lv_at hl 2 rfl) ?_
      refine lv_icmp_ne (tgt := 43) hx hb dX11_hits_20 (by decide) (fun c => ?_) (fun c => ?_)
      · replace h := h.1 c
        refine lv_aload_n hx hb dX11_hits_43 rfl (lv_at hl 0 rfl) ?_
        refine va_get (D := G.1) (ci := 9) (v := .ref a_w) (C := RX11) (T := TX11) (N := 24) hx hb hts ki_X11 hown hK.1 hP 0 rfl rfl 0 (by decide) kf0 (fun _ h9 => h9) rfl dX11_hits_44 ?_
        refine lv_bipush (v := nI 24) hx hb dX11_hits_47 kb_24 ?_
        refine lv_iload_n hx hb dX11_hits_49 rfl (lv_at hl 1 rfl) ?_
        refine lv_iadd hx hb dX11_hits_50 ?_
        have hin := h.1
        replace h := h.2
        refine va_iald hx hb hK.1 hP 1 0 rfl rfl hin dX11_hits_51 ?_
        refine lv_iload_n hx hb dX11_hits_52 rfl (lv_at hl 2 rfl) ?_
        refine hc_ki (wr := [ceX11 h0 a_w a_kept a_laid s_hasImage a_refusals a_row s_rows a_letters s_lettered a_hit a_lead a_defeat a_defeater s_ins s_outs a_order s_ordered a_is a_was s_reading s_isWell a_depths a_ways s_z, caI G a_w 43 g_w]) (va_runS (As := [.int (g_w ((nI 24) + x1).toNatClampNeg), .int x2]) (rest := []) ⟨hx, hb, hml, hown, hts⟩ (c_X11_has l G H.size (g_w ((nI 24) + x1).toNatClampNeg) x2 _ h) (va_cwS 2 hts gX11_hits_X11_has rfl rfl rfl (by decide +kernel) ⟨Nat.le_of_ble_eq_true rfl, Nat.le_of_ble_eq_true rfl⟩) (hc_pS hK hP hD [] rfl rfl) rfl rfl hl.1 rfl (lv_room (Nat.le_of_ble_eq_true rfl)) dX11_hits_53 ⟨Nat.le_refl _, Nat.le_refl _⟩) hP hD hS hA [] [0, 1] rfl rfl rfl (by decide) (fun r53 u H locs h hP hD hS => ?_)
        try dsimp only at h
        have hP : va_P G.1 vwCl [ceX11 h0 a_w a_kept a_laid s_hasImage a_refusals a_row s_rows a_letters s_lettered a_hit a_lead a_defeat a_defeater s_ins s_outs a_order s_ordered a_is a_was s_reading s_isWell a_depths a_ways s_z, caI G a_w 43 g_w] H := hP
        have hD : va_D A [ceX11 h0 a_w a_kept a_laid s_hasImage a_refusals a_row s_rows a_letters s_lettered a_hit a_lead a_defeat a_defeater s_ins s_outs a_order s_ordered a_is a_was s_reading s_isWell a_depths a_ways s_z, caI G a_w 43 g_w] := hD
        refine lv_if_eq (tgt := 72) hx hb dX11_hits_56 (by decide) (fun c => ?_) (fun c => ?_)
        · replace h := h.1 c
          refine lv_iconst (v := nI 0) hx hb dX11_hits_72 kc_0 ?_
          exact W.zret (v := nI 0) hx hb hr rfl (fun t ht hW => ⟨⟨_, (), rfl, h, ⟨by rw [ht]; exact hP, hD⟩⟩, hS.F ht⟩) hS.2.2 dX11_hits_73
        · replace h := h.2 c
          refine lv_aload_n hx hb dX11_hits_59 rfl (lv_at hl 0 rfl) ?_
          refine lv_iload_n hx hb dX11_hits_60 rfl (lv_at hl 1 rfl) ?_
          refine lv_iload_n hx hb dX11_hits_61 rfl (lv_at hl 2 rfl) ?_
          refine hc_ki (wr := []) (va_runV (As := [.int x1, .int x2]) (rest := []) ⟨hx, hb, hml, hown, hts⟩ (c_X11_lets l G h0 a_w a_kept a_laid a_refusals a_row a_letters a_hit a_lead a_defeat a_defeater a_order a_is a_was a_depths a_ways H.size s_hasImage s_rows s_lettered s_ins s_outs s_ordered s_reading s_isWell s_z g_w x1 x2 _ h) (cwV 2 hts gX11_hits_X11_lets rfl rfl rfl (by decide +kernel) ⟨Nat.le_of_ble_eq_true rfl, Nat.le_of_ble_eq_true rfl⟩) (hc_pV hK hP hD [0, 1] rfl rfl (ci := 9) 0 rfl rfl) rfl rfl hl.1 rfl (lv_room (Nat.le_of_ble_eq_true rfl)) dX11_hits_62 ⟨Nat.le_refl _, Nat.le_refl _⟩) hP hD hS hA [0, 1] [] rfl rfl rfl (by decide) (fun r62 u H locs h hP hD hS => ?_)
          try dsimp only at h
          have hP : va_P G.1 vwCl [ceX11 h0 a_w a_kept a_laid s_hasImage a_refusals a_row s_rows a_letters s_lettered a_hit a_lead a_defeat a_defeater s_ins s_outs a_order s_ordered a_is a_was s_reading s_isWell a_depths a_ways s_z, caI G a_w 43 g_w] H := hP
          have hD : va_D A [ceX11 h0 a_w a_kept a_laid s_hasImage a_refusals a_row s_rows a_letters s_lettered a_hit a_lead a_defeat a_defeater s_ins s_outs a_order s_ordered a_is a_was s_reading s_isWell a_depths a_ways s_z, caI G a_w 43 g_w] := hD
          refine lv_if_eq (tgt := 72) hx hb dX11_hits_65 (by decide) (fun c => ?_) (fun c => ?_)
          · replace h := h.1 c
            refine lv_iconst (v := nI 0) hx hb dX11_hits_72 kc_0 ?_
            exact W.zret (v := nI 0) hx hb hr rfl (fun t ht hW => ⟨⟨_, (), rfl, h, ⟨by rw [ht]; exact hP, hD⟩⟩, hS.F ht⟩) hS.2.2 dX11_hits_73
          · replace h := h.2 c
            refine lv_iconst (v := nI 1) hx hb dX11_hits_68 kc_1 ?_
            refine lv_goto (tgt := 73) hx hb dX11_hits_69 (by decide) ?_
            exact W.zret (v := nI 1) hx hb hr rfl (fun t ht hW => ⟨⟨_, (), rfl, h, ⟨by rw [ht]; exact hP, hD⟩⟩, hS.F ht⟩) hS.2.2 dX11_hits_73
      · replace h := h.2 c
        refine lv_aload_n hx hb dX11_hits_23 rfl (lv_at hl 0 rfl) ?_
        refine va_get (D := G.1) (ci := 9) (v := .ref a_w) (C := RX11) (T := TX11) (N := 24) hx hb hts ki_X11 hown hK.1 hP 0 rfl rfl 0 (by decide) kf0 (fun _ h9 => h9) rfl dX11_hits_24 ?_
        refine lv_iconst (v := nI 0) hx hb dX11_hits_27 kc_0 ?_
        refine lv_iload_n hx hb dX11_hits_28 rfl (lv_at hl 1 rfl) ?_
        refine lv_iadd hx hb dX11_hits_29 ?_
        have hin := h.1
        replace h := h.2
        refine va_iald hx hb hK.1 hP 1 0 rfl rfl hin dX11_hits_30 ?_
        refine lv_iconst (v := nI 4) hx hb dX11_hits_31 kc_4 ?_
        refine lv_icmp_ne (tgt := 39) hx hb dX11_hits_32 (by decide) (fun c => ?_) (fun c => ?_)
        · replace h := h.1 c
          refine lv_iconst (v := nI 0) hx hb dX11_hits_39 kc_0 ?_
          refine lv_goto (tgt := 73) hx hb dX11_hits_40 (by decide) ?_
          exact W.zret (v := nI 0) hx hb hr rfl (fun t ht hW => ⟨⟨_, (), rfl, h, ⟨by rw [ht]; exact hP, hD⟩⟩, hS.F ht⟩) hS.2.2 dX11_hits_73
        · replace h := h.2 c
          refine lv_iconst (v := nI 1) hx hb dX11_hits_35 kc_1 ?_
          refine lv_goto (tgt := 73) hx hb dX11_hits_36 (by decide) ?_
          exact W.zret (v := nI 1) hx hb hr rfl (fun t ht hW => ⟨⟨_, (), rfl, h, ⟨by rw [ht]; exact hP, hD⟩⟩, hS.F ht⟩) hS.2.2 dX11_hits_73
    · replace h := h.2 c
      refine lv_iconst (v := nI 0) hx hb dX11_hits_16 kc_0 ?_
      exact W.zret (v := nI 0) hx hb hr rfl (fun t ht hW => ⟨⟨_, (), rfl, h, ⟨by rw [ht]; exact hP, hD⟩⟩, hS.F ht⟩) hS.2.2 dX11_hits_17
set_option maxHeartbeats 4000000 in
set_option maxRecDepth 100000 in
theorem c_X11_reckons (l : Launch) (G : hcG) (h0 : Nat) (a_w : Nat) (a_kept : Nat) (a_laid : Nat) (a_refusals : Nat) (a_row : Nat) (a_letters : Nat) (a_hit : Nat) (a_lead : Nat) (a_defeat : Nat) (a_defeater : Nat) (a_order : Nat) (a_is : Nat) (a_was : Nat) (a_depths : Nat) (a_ways : Nat) (sz : Nat) (s_hasImage : Int32) (s_rows : Int32) (s_lettered : Int32) (s_ins : Int32) (s_outs : Int32) (s_ordered : Int32) (s_reading : Int32) (s_isWell : Int32) (s_z : Int32) (g_w : Nat → Int32) (g_hit : Nat → Int32) (g_lead : Nat → Int32) (g_defeat : Nat → Int32) (g_defeater : Nat → Int32) (post : (Nat → Int32) → (Nat → Int32) → (Nat → Int32) → (Nat → Int32) → Prop) (h : wp_X11_reckons post g_w g_hit g_lead g_defeat g_defeater) : Met l yX11_reckons wsX11_reckons ({ frames := 3, cells := 0, slots := 0, locals := 64 }) (hcPc G [.ref h0] [ceX11 h0 a_w a_kept a_laid s_hasImage a_refusals a_row s_rows a_letters s_lettered a_hit a_lead a_defeat a_defeater s_ins s_outs a_order s_ordered a_is a_was s_reading s_isWell a_depths a_ways s_z, caI G a_w 43 g_w, caI G a_hit 8 g_hit, caI G a_lead 8 g_lead, caI G a_defeat 8 g_defeat, caI G a_defeater 8 g_defeater] sz) (va_Qv (fun u : (Nat → Int32) × (Nat → Int32) × (Nat → Int32) × (Nat → Int32) => post u.1 u.2.1 u.2.2.1 u.2.2.2) (hcB G (va_A [ceX11 h0 a_w a_kept a_laid s_hasImage a_refusals a_row s_rows a_letters s_lettered a_hit a_lead a_defeat a_defeater s_ins s_outs a_order s_ordered a_is a_was s_reading s_isWell a_depths a_ways s_z, caI G a_w 43 g_w, caI G a_hit 8 g_hit, caI G a_lead 8 g_lead, caI G a_defeat 8 g_defeat, caI G a_defeater 8 g_defeater] sz) (fun u : (Nat → Int32) × (Nat → Int32) × (Nat → Int32) × (Nat → Int32) => [ceX11 h0 a_w a_kept a_laid s_hasImage a_refusals a_row s_rows a_letters s_lettered a_hit a_lead a_defeat a_defeater s_ins s_outs a_order s_ordered a_is a_was s_reading s_isWell a_depths a_ways s_z, caI G a_w 43 g_w, caI G a_hit 8 u.1, caI G a_lead 8 u.2.1, caI G a_defeat 8 u.2.2.1, caI G a_defeater 8 u.2.2.2])) (va_A [ceX11 h0 a_w a_kept a_laid s_hasImage a_refusals a_row s_rows a_letters s_lettered a_hit a_lead a_defeat a_defeater s_ins s_outs a_order s_ordered a_is a_was s_reading s_isWell a_depths a_ways s_z, caI G a_w 43 g_w, caI G a_hit 8 g_hit, caI G a_lead 8 g_lead, caI G a_defeat 8 g_defeat, caI G a_defeater 8 g_defeater] sz)) 0 0 (va_A [ceX11 h0 a_w a_kept a_laid s_hasImage a_refusals a_row s_rows a_letters s_lettered a_hit a_lead a_defeat a_defeater s_ins s_outs a_order s_ordered a_is a_was s_reading s_isWell a_depths a_ways s_z, caI G a_w 43 g_w, caI G a_hit 8 g_hit, caI G a_lead 8 g_lead, caI G a_defeat 8 g_defeat, caI G a_defeater 8 g_defeater] sz) := by
  refine Met.ofW (cc := cX11_reckons) (maxL := 3) (ret := none) (by decide) rfl ?_
  intro p e s m args below meth c s₁ B hml hv
  obtain ⟨rfl, hsz, hP, hK, hD0⟩ := hv
  have hx := B.exec
  have hb := B.bytes
  have hr := B.returns
  have hts := atoms_spec (ws := wsX11_reckons) B.pre
  have hown : s.vm.findClass RX11 = some m.cls := findClass_of_methodNamed B.named
  have hlocks := B.notSynchronized
  subst hsz
  have hD := hD0.self (sz := s.heap.size)
  generalize hAe : va_A [ceX11 h0 a_w a_kept a_laid s_hasImage a_refusals a_row s_rows a_letters s_lettered a_hit a_lead a_defeat a_defeater s_ins s_outs a_order s_ordered a_is a_was s_reading s_isWell a_depths a_ways s_z, caI G a_w 43 g_w, caI G a_hit 8 g_hit, caI G a_lead 8 g_lead, caI G a_defeat 8 g_defeat, caI G a_defeater 8 g_defeater] s.heap.size = A at hD ⊢
  have hA : ∀ q : Nat, s.heap.size ≤ q → A q := fun q h => by rw [← hAe]; exact Or.inr h
  have hS : va_S A s.heap s.heap [] := va_S.rf
  have hP : va_P G.1 vwCl [ceX11 h0 a_w a_kept a_laid s_hasImage a_refusals a_row s_rows a_letters s_lettered a_hit a_lead a_defeat a_defeater s_ins s_outs a_order s_ordered a_is a_was s_reading s_isWell a_depths a_ways s_z, caI G a_w 43 g_w, caI G a_hit 8 g_hit, caI G a_lead 8 g_lead, caI G a_defeat 8 g_defeat, caI G a_defeater 8 g_defeater] s.heap := hP
  have hl := lv_entry ([.ref h0]) (n := 3) (Nat.le_of_ble_eq_true rfl)
  rw [lg_entry_eq]
  generalize (lg_sl ([.ref h0]) ++ List.replicate (3 - (lg_sl ([.ref h0])).length) Slot.unset).toArray = ls at hl ⊢
  have hl : lv_has ls 3 [(0, .ref h0)] := hl
  have kf0 := hts (.fieldLink RX11 37 "HallOfClaimsModel" "defeater" "[I") (List.mem_of_getElem? (i := 5) (by decide +kernel))
  have kf1 := hts (.fieldLink RX11 34 "HallOfClaimsModel" "defeat" "[I") (List.mem_of_getElem? (i := 4) (by decide +kernel))
  have kf2 := hts (.fieldLink RX11 28 "HallOfClaimsModel" "hit" "[I") (List.mem_of_getElem? (i := 1) (by decide +kernel))
  have kf3 := hts (.fieldLink RX11 9 "HallOfClaimsModel" "w" "[I") (List.mem_of_getElem? (i := 3) (by decide +kernel))
  have kf4 := hts (.fieldLink RX11 31 "HallOfClaimsModel" "lead" "[I") (List.mem_of_getElem? (i := 2) (by decide +kernel))
  have ki_X11 : ∀ w ∈ u_ws RX11 TX11 24, w ∈ wsX11_reckons := by decide +kernel
  have w300 : ∀ (K292 : Int32 → (Nat → Int32) → (Nat → Int32) → (Nat → Int32) → (Nat → Int32) → Prop), (∀ (v1 : Int32) (g_hit : Nat → Int32) (g_lead : Nat → Int32) (g_defeat : Nat → Int32) (g_defeater : Nat → Int32) , K292 v1 g_hit g_lead g_defeat g_defeater → ∀ (H : Heap) (locs : List Loc) (ls : Array Slot), va_P G.1 vwCl [ceX11 h0 a_w a_kept a_laid s_hasImage a_refusals a_row s_rows a_letters s_lettered a_hit a_lead a_defeat a_defeater s_ins s_outs a_order s_ordered a_is a_was s_reading s_isWell a_depths a_ways s_z, caI G a_w 43 g_w, caI G a_hit 8 g_hit, caI G a_lead 8 g_lead, caI G a_defeat 8 g_defeat, caI G a_defeater 8 g_defeater] H → va_D A [ceX11 h0 a_w a_kept a_laid s_hasImage a_refusals a_row s_rows a_letters s_lettered a_hit a_lead a_defeat a_defeater s_ins s_outs a_order s_ordered a_is a_was s_reading s_isWell a_depths a_ways s_z, caI G a_w 43 g_w, caI G a_hit 8 g_hit, caI G a_lead 8 g_lead, caI G a_defeat 8 g_defeat, caI G a_defeater 8 g_defeater] → va_S A s.heap H locs → lv_has ls 3 [(0, .ref h0), (1, .int v1)] → W p l e (headSpec wsX11_reckons ({ frames := 3, cells := 0, slots := 0, locals := 64 })).room s m ([.ref h0] : List Value).toArray below meth c H locs 0 0 (MQ below (va_Qv (fun u : (Nat → Int32) × (Nat → Int32) × (Nat → Int32) × (Nat → Int32) => post u.1 u.2.1 u.2.2.1 u.2.2.2) (hcB G A (fun u : (Nat → Int32) × (Nat → Int32) × (Nat → Int32) × (Nat → Int32) => [ceX11 h0 a_w a_kept a_laid s_hasImage a_refusals a_row s_rows a_letters s_lettered a_hit a_lead a_defeat a_defeater s_ins s_outs a_order s_ordered a_is a_was s_reading s_isWell a_depths a_ways s_z, caI G a_w 43 g_w, caI G a_hit 8 u.1, caI G a_lead 8 u.2.1, caI G a_defeat 8 u.2.2.1, caI G a_defeater 8 u.2.2.2])) A) ([.ref h0] : List Value).toArray s 0 0 A) (F0 m 292 ls [])) → ∀ (n : Nat) (v1 : Int32) (v2 : Int32) (g_hit : Nat → Int32) (g_lead : Nat → Int32) (g_defeat : Nat → Int32) (g_defeater : Nat → Int32) , wp_X11_reckons_300 post g_w K292 n v1 v2 g_hit g_lead g_defeat g_defeater → ∀ (H : Heap) (locs : List Loc) (ls : Array Slot), va_P G.1 vwCl [ceX11 h0 a_w a_kept a_laid s_hasImage a_refusals a_row s_rows a_letters s_lettered a_hit a_lead a_defeat a_defeater s_ins s_outs a_order s_ordered a_is a_was s_reading s_isWell a_depths a_ways s_z, caI G a_w 43 g_w, caI G a_hit 8 g_hit, caI G a_lead 8 g_lead, caI G a_defeat 8 g_defeat, caI G a_defeater 8 g_defeater] H → va_D A [ceX11 h0 a_w a_kept a_laid s_hasImage a_refusals a_row s_rows a_letters s_lettered a_hit a_lead a_defeat a_defeater s_ins s_outs a_order s_ordered a_is a_was s_reading s_isWell a_depths a_ways s_z, caI G a_w 43 g_w, caI G a_hit 8 g_hit, caI G a_lead 8 g_lead, caI G a_defeat 8 g_defeat, caI G a_defeater 8 g_defeater] → va_S A s.heap H locs → lv_has ls 3 [(0, .ref h0), (1, .int v1), (2, .int v2)] → W p l e (headSpec wsX11_reckons ({ frames := 3, cells := 0, slots := 0, locals := 64 })).room s m ([.ref h0] : List Value).toArray below meth c H locs 0 0 (MQ below (va_Qv (fun u : (Nat → Int32) × (Nat → Int32) × (Nat → Int32) × (Nat → Int32) => post u.1 u.2.1 u.2.2.1 u.2.2.2) (hcB G A (fun u : (Nat → Int32) × (Nat → Int32) × (Nat → Int32) × (Nat → Int32) => [ceX11 h0 a_w a_kept a_laid s_hasImage a_refusals a_row s_rows a_letters s_lettered a_hit a_lead a_defeat a_defeater s_ins s_outs a_order s_ordered a_is a_was s_reading s_isWell a_depths a_ways s_z, caI G a_w 43 g_w, caI G a_hit 8 u.1, caI G a_lead 8 u.2.1, caI G a_defeat 8 u.2.2.1, caI G a_defeater 8 u.2.2.2])) A) ([.ref h0] : List Value).toArray s 0 0 A) (F0 m 300 ls []) := by
    intro K292 hK292 n
    induction n with
    | zero => intro v1 v2 g_hit g_lead g_defeat g_defeater h; exact h.elim
    | succ n ih =>
      intro v1 v2 g_hit g_lead g_defeat g_defeater h H locs ls hP hD hS hl
      unfold wp_X11_reckons_300 at h
      refine lv_iload_n hx hb dX11_reckons_300 rfl (lv_at hl 2 rfl) ?_
      refine lv_bipush (v := nI 8) hx hb dX11_reckons_301 kb_8 ?_
      refine lv_icmp_ge (tgt := 341) hx hb dX11_reckons_303 (by decide) (fun c => ?_) (fun c => ?_)
      · replace h := h.1 c
        refine lv_iinc (v := v1 + nI 1) (lv' := [(1, .int (v1 + nI 1)), (0, .ref h0), (2, .int v2)]) hx hb dX11_reckons_341 hl (k := 1) rfl (congrArg (fun q => v1 + q) kc_1) (by decide) rfl (fun ls hl => ?_)
        refine lv_goto (tgt := 292) hx hb dX11_reckons_344 (by decide) ?_
        exact hK292 (v1 + nI 1) g_hit g_lead g_defeat g_defeater h _ _ _ hP hD hS (lv_sub hl [1, 0] rfl)
      · replace h := h.2 c
        refine lv_aload_n hx hb dX11_reckons_306 rfl (lv_at hl 0 rfl) ?_
        refine va_get (D := G.1) (ci := 9) (v := .ref a_defeater) (C := RX11) (T := TX11) (N := 24) hx hb hts ki_X11 hown hK.1 hP 0 rfl rfl 12 (by decide) kf0 (fun _ h9 => h9) rfl dX11_reckons_307 ?_
        refine lv_iload_n hx hb dX11_reckons_310 rfl (lv_at hl 2 rfl) ?_
        refine lv_dup2_11 hx hb dX11_reckons_311 rfl rfl ?_
        have hin := h.1
        replace h := h.2
        refine va_iald hx hb hK.1 hP 5 0 rfl rfl hin dX11_reckons_312 ?_
        refine lv_aload_n hx hb dX11_reckons_313 rfl (lv_at hl 0 rfl) ?_
        refine va_get (D := G.1) (ci := 9) (v := .ref a_defeat) (C := RX11) (T := TX11) (N := 24) hx hb hts ki_X11 hown hK.1 hP 0 rfl rfl 11 (by decide) kf1 (fun _ h9 => h9) rfl dX11_reckons_314 ?_
        refine lv_iload_n hx hb dX11_reckons_317 rfl (lv_at hl 1 rfl) ?_
        have hin := h.1
        replace h := h.2
        refine va_iald hx hb hK.1 hP 4 0 rfl rfl hin dX11_reckons_318 ?_
        refine lv_iload_n hx hb dX11_reckons_319 rfl (lv_at hl 2 rfl) ?_
        refine hc_ki (wr := [ceX11 h0 a_w a_kept a_laid s_hasImage a_refusals a_row s_rows a_letters s_lettered a_hit a_lead a_defeat a_defeater s_ins s_outs a_order s_ordered a_is a_was s_reading s_isWell a_depths a_ways s_z, caI G a_w 43 g_w, caI G a_hit 8 g_hit, caI G a_lead 8 g_lead, caI G a_defeat 8 g_defeat, caI G a_defeater 8 g_defeater]) (va_runS (As := [.int (g_defeat v1.toNatClampNeg), .int v2]) (rest := [.int (g_defeater v2.toNatClampNeg), .int v2, .ref a_defeater]) ⟨hx, hb, hml, hown, hts⟩ (c_X11_has l G H.size (g_defeat v1.toNatClampNeg) v2 _ h) (va_cwS 2 hts gX11_reckons_X11_has rfl rfl rfl (by decide +kernel) ⟨Nat.le_of_ble_eq_true rfl, Nat.le_of_ble_eq_true rfl⟩) (hc_pS hK hP hD [] rfl rfl) rfl rfl hl.1 rfl (lv_room (Nat.le_of_ble_eq_true rfl)) dX11_reckons_320 ⟨Nat.le_refl _, Nat.le_refl _⟩) hP hD hS hA [] [0, 1, 2, 3, 4, 5] rfl rfl rfl (by decide) (fun r320 u H locs h hP hD hS => ?_)
        try dsimp only at h
        have hP : va_P G.1 vwCl [ceX11 h0 a_w a_kept a_laid s_hasImage a_refusals a_row s_rows a_letters s_lettered a_hit a_lead a_defeat a_defeater s_ins s_outs a_order s_ordered a_is a_was s_reading s_isWell a_depths a_ways s_z, caI G a_w 43 g_w, caI G a_hit 8 g_hit, caI G a_lead 8 g_lead, caI G a_defeat 8 g_defeat, caI G a_defeater 8 g_defeater] H := hP
        have hD : va_D A [ceX11 h0 a_w a_kept a_laid s_hasImage a_refusals a_row s_rows a_letters s_lettered a_hit a_lead a_defeat a_defeater s_ins s_outs a_order s_ordered a_is a_was s_reading s_isWell a_depths a_ways s_z, caI G a_w 43 g_w, caI G a_hit 8 g_hit, caI G a_lead 8 g_lead, caI G a_defeat 8 g_defeat, caI G a_defeater 8 g_defeater] := hD
        refine lv_if_eq (tgt := 332) hx hb dX11_reckons_323 (by decide) (fun c => ?_) (fun c => ?_)
        · replace h := h.1 c
          refine lv_iconst (v := nI 0) hx hb dX11_reckons_332 kc_0 ?_
          refine lv_ior hx hb dX11_reckons_333 ?_
          have hin := h.1
          replace h := h.2
          refine va_iast hx hb hK.1 hP hD hS 5 0 rfl rfl hin dX11_reckons_334 (fun H locs hP hD hS => ?_)
          have hP : va_P G.1 vwCl [ceX11 h0 a_w a_kept a_laid s_hasImage a_refusals a_row s_rows a_letters s_lettered a_hit a_lead a_defeat a_defeater s_ins s_outs a_order s_ordered a_is a_was s_reading s_isWell a_depths a_ways s_z, caI G a_w 43 g_w, caI G a_hit 8 g_hit, caI G a_lead 8 g_lead, caI G a_defeat 8 g_defeat, caI G a_defeater 8 (upd g_defeater v2.toNatClampNeg ((g_defeater v2.toNatClampNeg) ||| (nI 0)))] H := hP
          have hD : va_D A [ceX11 h0 a_w a_kept a_laid s_hasImage a_refusals a_row s_rows a_letters s_lettered a_hit a_lead a_defeat a_defeater s_ins s_outs a_order s_ordered a_is a_was s_reading s_isWell a_depths a_ways s_z, caI G a_w 43 g_w, caI G a_hit 8 g_hit, caI G a_lead 8 g_lead, caI G a_defeat 8 g_defeat, caI G a_defeater 8 (upd g_defeater v2.toNatClampNeg ((g_defeater v2.toNatClampNeg) ||| (nI 0)))] := hD
          refine lv_iinc (v := v2 + nI 1) (lv' := [(2, .int (v2 + nI 1)), (0, .ref h0), (1, .int v1)]) hx hb dX11_reckons_335 hl (k := 2) rfl (congrArg (fun q => v2 + q) kc_1) (by decide) rfl (fun ls hl => ?_)
          refine lv_goto (tgt := 300) hx hb dX11_reckons_338 (by decide) ?_
          exact ih v1 (v2 + nI 1) g_hit g_lead g_defeat (upd g_defeater v2.toNatClampNeg ((g_defeater v2.toNatClampNeg) ||| (nI 0))) h _ _ _ hP hD hS (lv_sub hl [1, 2, 0] rfl)
        · replace h := h.2 c
          refine lv_iconst (v := nI 1) hx hb dX11_reckons_326 kc_1 ?_
          refine lv_iload_n hx hb dX11_reckons_327 rfl (lv_at hl 1 rfl) ?_
          refine lv_ishl hx hb dX11_reckons_328 ?_
          refine lv_goto (tgt := 333) hx hb dX11_reckons_329 (by decide) ?_
          refine lv_ior hx hb dX11_reckons_333 ?_
          have hin := h.1
          replace h := h.2
          refine va_iast hx hb hK.1 hP hD hS 5 0 rfl rfl hin dX11_reckons_334 (fun H locs hP hD hS => ?_)
          have hP : va_P G.1 vwCl [ceX11 h0 a_w a_kept a_laid s_hasImage a_refusals a_row s_rows a_letters s_lettered a_hit a_lead a_defeat a_defeater s_ins s_outs a_order s_ordered a_is a_was s_reading s_isWell a_depths a_ways s_z, caI G a_w 43 g_w, caI G a_hit 8 g_hit, caI G a_lead 8 g_lead, caI G a_defeat 8 g_defeat, caI G a_defeater 8 (upd g_defeater v2.toNatClampNeg ((g_defeater v2.toNatClampNeg) ||| ((nI 1) <<< (v1 &&& 31))))] H := hP
          have hD : va_D A [ceX11 h0 a_w a_kept a_laid s_hasImage a_refusals a_row s_rows a_letters s_lettered a_hit a_lead a_defeat a_defeater s_ins s_outs a_order s_ordered a_is a_was s_reading s_isWell a_depths a_ways s_z, caI G a_w 43 g_w, caI G a_hit 8 g_hit, caI G a_lead 8 g_lead, caI G a_defeat 8 g_defeat, caI G a_defeater 8 (upd g_defeater v2.toNatClampNeg ((g_defeater v2.toNatClampNeg) ||| ((nI 1) <<< (v1 &&& 31))))] := hD
          refine lv_iinc (v := v2 + nI 1) (lv' := [(2, .int (v2 + nI 1)), (0, .ref h0), (1, .int v1)]) hx hb dX11_reckons_335 hl (k := 2) rfl (congrArg (fun q => v2 + q) kc_1) (by decide) rfl (fun ls hl => ?_)
          refine lv_goto (tgt := 300) hx hb dX11_reckons_338 (by decide) ?_
          exact ih v1 (v2 + nI 1) g_hit g_lead g_defeat (upd g_defeater v2.toNatClampNeg ((g_defeater v2.toNatClampNeg) ||| ((nI 1) <<< (v1 &&& 31)))) h _ _ _ hP hD hS (lv_sub hl [1, 2, 0] rfl)
  have w292 : ∀ (n : Nat) (v1 : Int32) (g_hit : Nat → Int32) (g_lead : Nat → Int32) (g_defeat : Nat → Int32) (g_defeater : Nat → Int32) , wp_X11_reckons_292 post g_w n v1 g_hit g_lead g_defeat g_defeater → ∀ (H : Heap) (locs : List Loc) (ls : Array Slot), va_P G.1 vwCl [ceX11 h0 a_w a_kept a_laid s_hasImage a_refusals a_row s_rows a_letters s_lettered a_hit a_lead a_defeat a_defeater s_ins s_outs a_order s_ordered a_is a_was s_reading s_isWell a_depths a_ways s_z, caI G a_w 43 g_w, caI G a_hit 8 g_hit, caI G a_lead 8 g_lead, caI G a_defeat 8 g_defeat, caI G a_defeater 8 g_defeater] H → va_D A [ceX11 h0 a_w a_kept a_laid s_hasImage a_refusals a_row s_rows a_letters s_lettered a_hit a_lead a_defeat a_defeater s_ins s_outs a_order s_ordered a_is a_was s_reading s_isWell a_depths a_ways s_z, caI G a_w 43 g_w, caI G a_hit 8 g_hit, caI G a_lead 8 g_lead, caI G a_defeat 8 g_defeat, caI G a_defeater 8 g_defeater] → va_S A s.heap H locs → lv_has ls 3 [(0, .ref h0), (1, .int v1)] → W p l e (headSpec wsX11_reckons ({ frames := 3, cells := 0, slots := 0, locals := 64 })).room s m ([.ref h0] : List Value).toArray below meth c H locs 0 0 (MQ below (va_Qv (fun u : (Nat → Int32) × (Nat → Int32) × (Nat → Int32) × (Nat → Int32) => post u.1 u.2.1 u.2.2.1 u.2.2.2) (hcB G A (fun u : (Nat → Int32) × (Nat → Int32) × (Nat → Int32) × (Nat → Int32) => [ceX11 h0 a_w a_kept a_laid s_hasImage a_refusals a_row s_rows a_letters s_lettered a_hit a_lead a_defeat a_defeater s_ins s_outs a_order s_ordered a_is a_was s_reading s_isWell a_depths a_ways s_z, caI G a_w 43 g_w, caI G a_hit 8 u.1, caI G a_lead 8 u.2.1, caI G a_defeat 8 u.2.2.1, caI G a_defeater 8 u.2.2.2])) A) ([.ref h0] : List Value).toArray s 0 0 A) (F0 m 292 ls []) := by
    intro n
    induction n with
    | zero => intro v1 g_hit g_lead g_defeat g_defeater h; exact h.elim
    | succ n ih =>
      intro v1 g_hit g_lead g_defeat g_defeater h H locs ls hP hD hS hl
      unfold wp_X11_reckons_292 at h
      refine lv_iload_n hx hb dX11_reckons_292 rfl (lv_at hl 1 rfl) ?_
      refine lv_bipush (v := nI 8) hx hb dX11_reckons_293 kb_8 ?_
      refine lv_icmp_ge (tgt := 347) hx hb dX11_reckons_295 (by decide) (fun c => ?_) (fun c => ?_)
      · replace h := h.1 c
        exact W.vret hx hb hr (fun t ht hW => ⟨⟨⟨g_hit, g_lead, g_defeat, g_defeater⟩, rfl, h, ⟨by rw [ht]; exact hP, hD⟩⟩, hS.F ht⟩) hS.2.2 dX11_reckons_347
      · replace h := h.2 c
        refine lv_iconst (v := nI 0) hx hb dX11_reckons_298 kc_0 ?_
        refine lv_istore_n (lv' := [(2, .int (nI 0)), (0, .ref h0), (1, .int v1)]) hx hb dX11_reckons_299 rfl hl (by decide) rfl (fun ls hl => ?_)
        obtain ⟨n300, h⟩ := h
        exact w300 ((wp_X11_reckons_292 post g_w n)) ih n300 v1 (nI 0) g_hit g_lead g_defeat g_defeater h _ _ _ hP hD hS (lv_sub hl [1, 2, 0] rfl)
  have w233 : ∀ (K157 : Int32 → (Nat → Int32) → (Nat → Int32) → (Nat → Int32) → (Nat → Int32) → Prop), (∀ (v1 : Int32) (g_hit : Nat → Int32) (g_lead : Nat → Int32) (g_defeat : Nat → Int32) (g_defeater : Nat → Int32) , K157 v1 g_hit g_lead g_defeat g_defeater → ∀ (H : Heap) (locs : List Loc) (ls : Array Slot), va_P G.1 vwCl [ceX11 h0 a_w a_kept a_laid s_hasImage a_refusals a_row s_rows a_letters s_lettered a_hit a_lead a_defeat a_defeater s_ins s_outs a_order s_ordered a_is a_was s_reading s_isWell a_depths a_ways s_z, caI G a_w 43 g_w, caI G a_hit 8 g_hit, caI G a_lead 8 g_lead, caI G a_defeat 8 g_defeat, caI G a_defeater 8 g_defeater] H → va_D A [ceX11 h0 a_w a_kept a_laid s_hasImage a_refusals a_row s_rows a_letters s_lettered a_hit a_lead a_defeat a_defeater s_ins s_outs a_order s_ordered a_is a_was s_reading s_isWell a_depths a_ways s_z, caI G a_w 43 g_w, caI G a_hit 8 g_hit, caI G a_lead 8 g_lead, caI G a_defeat 8 g_defeat, caI G a_defeater 8 g_defeater] → va_S A s.heap H locs → lv_has ls 3 [(0, .ref h0), (1, .int v1)] → W p l e (headSpec wsX11_reckons ({ frames := 3, cells := 0, slots := 0, locals := 64 })).room s m ([.ref h0] : List Value).toArray below meth c H locs 0 0 (MQ below (va_Qv (fun u : (Nat → Int32) × (Nat → Int32) × (Nat → Int32) × (Nat → Int32) => post u.1 u.2.1 u.2.2.1 u.2.2.2) (hcB G A (fun u : (Nat → Int32) × (Nat → Int32) × (Nat → Int32) × (Nat → Int32) => [ceX11 h0 a_w a_kept a_laid s_hasImage a_refusals a_row s_rows a_letters s_lettered a_hit a_lead a_defeat a_defeater s_ins s_outs a_order s_ordered a_is a_was s_reading s_isWell a_depths a_ways s_z, caI G a_w 43 g_w, caI G a_hit 8 u.1, caI G a_lead 8 u.2.1, caI G a_defeat 8 u.2.2.1, caI G a_defeater 8 u.2.2.2])) A) ([.ref h0] : List Value).toArray s 0 0 A) (F0 m 157 ls [])) → ∀ (K184 : Int32 → Int32 → (Nat → Int32) → (Nat → Int32) → (Nat → Int32) → (Nat → Int32) → Prop), (∀ (v1 : Int32) (v2 : Int32) (g_hit : Nat → Int32) (g_lead : Nat → Int32) (g_defeat : Nat → Int32) (g_defeater : Nat → Int32) , K184 v1 v2 g_hit g_lead g_defeat g_defeater → ∀ (H : Heap) (locs : List Loc) (ls : Array Slot), va_P G.1 vwCl [ceX11 h0 a_w a_kept a_laid s_hasImage a_refusals a_row s_rows a_letters s_lettered a_hit a_lead a_defeat a_defeater s_ins s_outs a_order s_ordered a_is a_was s_reading s_isWell a_depths a_ways s_z, caI G a_w 43 g_w, caI G a_hit 8 g_hit, caI G a_lead 8 g_lead, caI G a_defeat 8 g_defeat, caI G a_defeater 8 g_defeater] H → va_D A [ceX11 h0 a_w a_kept a_laid s_hasImage a_refusals a_row s_rows a_letters s_lettered a_hit a_lead a_defeat a_defeater s_ins s_outs a_order s_ordered a_is a_was s_reading s_isWell a_depths a_ways s_z, caI G a_w 43 g_w, caI G a_hit 8 g_hit, caI G a_lead 8 g_lead, caI G a_defeat 8 g_defeat, caI G a_defeater 8 g_defeater] → va_S A s.heap H locs → lv_has ls 3 [(0, .ref h0), (1, .int v1), (2, .int v2)] → W p l e (headSpec wsX11_reckons ({ frames := 3, cells := 0, slots := 0, locals := 64 })).room s m ([.ref h0] : List Value).toArray below meth c H locs 0 0 (MQ below (va_Qv (fun u : (Nat → Int32) × (Nat → Int32) × (Nat → Int32) × (Nat → Int32) => post u.1 u.2.1 u.2.2.1 u.2.2.2) (hcB G A (fun u : (Nat → Int32) × (Nat → Int32) × (Nat → Int32) × (Nat → Int32) => [ceX11 h0 a_w a_kept a_laid s_hasImage a_refusals a_row s_rows a_letters s_lettered a_hit a_lead a_defeat a_defeater s_ins s_outs a_order s_ordered a_is a_was s_reading s_isWell a_depths a_ways s_z, caI G a_w 43 g_w, caI G a_hit 8 u.1, caI G a_lead 8 u.2.1, caI G a_defeat 8 u.2.2.1, caI G a_defeater 8 u.2.2.2])) A) ([.ref h0] : List Value).toArray s 0 0 A) (F0 m 184 ls [])) → ∀ (v1 : Int32) (v2 : Int32) (g_hit : Nat → Int32) (g_lead : Nat → Int32) (g_defeat : Nat → Int32) (g_defeater : Nat → Int32) (t0 : Int32) (t1 : Int32) (t2 : Int32) , wp_X11_reckons_233 post g_w K157 K184 v1 v2 g_hit g_lead g_defeat g_defeater t0 t1 t2 → ∀ (H : Heap) (locs : List Loc) (ls : Array Slot), va_P G.1 vwCl [ceX11 h0 a_w a_kept a_laid s_hasImage a_refusals a_row s_rows a_letters s_lettered a_hit a_lead a_defeat a_defeater s_ins s_outs a_order s_ordered a_is a_was s_reading s_isWell a_depths a_ways s_z, caI G a_w 43 g_w, caI G a_hit 8 g_hit, caI G a_lead 8 g_lead, caI G a_defeat 8 g_defeat, caI G a_defeater 8 g_defeater] H → va_D A [ceX11 h0 a_w a_kept a_laid s_hasImage a_refusals a_row s_rows a_letters s_lettered a_hit a_lead a_defeat a_defeater s_ins s_outs a_order s_ordered a_is a_was s_reading s_isWell a_depths a_ways s_z, caI G a_w 43 g_w, caI G a_hit 8 g_hit, caI G a_lead 8 g_lead, caI G a_defeat 8 g_defeat, caI G a_defeater 8 g_defeater] → va_S A s.heap H locs → lv_has ls 3 [(0, .ref h0), (1, .int v1), (2, .int v2)] → W p l e (headSpec wsX11_reckons ({ frames := 3, cells := 0, slots := 0, locals := 64 })).room s m ([.ref h0] : List Value).toArray below meth c H locs 0 0 (MQ below (va_Qv (fun u : (Nat → Int32) × (Nat → Int32) × (Nat → Int32) × (Nat → Int32) => post u.1 u.2.1 u.2.2.1 u.2.2.2) (hcB G A (fun u : (Nat → Int32) × (Nat → Int32) × (Nat → Int32) × (Nat → Int32) => [ceX11 h0 a_w a_kept a_laid s_hasImage a_refusals a_row s_rows a_letters s_lettered a_hit a_lead a_defeat a_defeater s_ins s_outs a_order s_ordered a_is a_was s_reading s_isWell a_depths a_ways s_z, caI G a_w 43 g_w, caI G a_hit 8 u.1, caI G a_lead 8 u.2.1, caI G a_defeat 8 u.2.2.1, caI G a_defeater 8 u.2.2.2])) A) ([.ref h0] : List Value).toArray s 0 0 A) (F0 m 233 ls [.int t0, .int t1, .int t2, .ref a_defeat]) := by
    intro K157 hK157 K184 hK184 v1 v2 g_hit g_lead g_defeat g_defeater t0 t1 t2 h H locs ls hP hD hS hl
    unfold wp_X11_reckons_233 at h
    refine lv_ior hx hb dX11_reckons_233 ?_
    have hin := h.1
    replace h := h.2
    refine va_iast hx hb hK.1 hP hD hS 4 0 rfl rfl hin dX11_reckons_234 (fun H locs hP hD hS => ?_)
    have hP : va_P G.1 vwCl [ceX11 h0 a_w a_kept a_laid s_hasImage a_refusals a_row s_rows a_letters s_lettered a_hit a_lead a_defeat a_defeater s_ins s_outs a_order s_ordered a_is a_was s_reading s_isWell a_depths a_ways s_z, caI G a_w 43 g_w, caI G a_hit 8 g_hit, caI G a_lead 8 g_lead, caI G a_defeat 8 (upd g_defeat t2.toNatClampNeg (t1 ||| t0)), caI G a_defeater 8 g_defeater] H := hP
    have hD : va_D A [ceX11 h0 a_w a_kept a_laid s_hasImage a_refusals a_row s_rows a_letters s_lettered a_hit a_lead a_defeat a_defeater s_ins s_outs a_order s_ordered a_is a_was s_reading s_isWell a_depths a_ways s_z, caI G a_w 43 g_w, caI G a_hit 8 g_hit, caI G a_lead 8 g_lead, caI G a_defeat 8 (upd g_defeat t2.toNatClampNeg (t1 ||| t0)), caI G a_defeater 8 g_defeater] := hD
    refine lv_aload_n hx hb dX11_reckons_235 rfl (lv_at hl 0 rfl) ?_
    refine va_get (D := G.1) (ci := 9) (v := .ref a_defeat) (C := RX11) (T := TX11) (N := 24) hx hb hts ki_X11 hown hK.1 hP 0 rfl rfl 11 (by decide) kf1 (fun _ h9 => h9) rfl dX11_reckons_236 ?_
    refine lv_iload_n hx hb dX11_reckons_239 rfl (lv_at hl 1 rfl) ?_
    refine lv_dup2_11 hx hb dX11_reckons_240 rfl rfl ?_
    have hin := h.1
    replace h := h.2
    refine va_iald hx hb hK.1 hP 4 0 rfl rfl hin dX11_reckons_241 ?_
    refine lv_aload_n hx hb dX11_reckons_242 rfl (lv_at hl 0 rfl) ?_
    refine va_get (D := G.1) (ci := 9) (v := .ref a_w) (C := RX11) (T := TX11) (N := 24) hx hb hts ki_X11 hown hK.1 hP 0 rfl rfl 0 (by decide) kf3 (fun _ h9 => h9) rfl dX11_reckons_243 ?_
    refine lv_bipush (v := nI 41) hx hb dX11_reckons_246 kb_41 ?_
    have hin := h.1
    replace h := h.2
    refine va_iald hx hb hK.1 hP 1 0 rfl rfl hin dX11_reckons_248 ?_
    refine lv_iconst (v := nI 1) hx hb dX11_reckons_249 kc_1 ?_
    refine lv_icmp_le (tgt := 275) hx hb dX11_reckons_250 (by decide) (fun c => ?_) (fun c => ?_)
    · replace h := h.1 c
      refine lv_iconst (v := nI 0) hx hb dX11_reckons_275 kc_0 ?_
      refine lv_ior hx hb dX11_reckons_276 ?_
      have hin := h.1
      replace h := h.2
      refine va_iast hx hb hK.1 hP hD hS 4 0 rfl rfl hin dX11_reckons_277 (fun H locs hP hD hS => ?_)
      have hP : va_P G.1 vwCl [ceX11 h0 a_w a_kept a_laid s_hasImage a_refusals a_row s_rows a_letters s_lettered a_hit a_lead a_defeat a_defeater s_ins s_outs a_order s_ordered a_is a_was s_reading s_isWell a_depths a_ways s_z, caI G a_w 43 g_w, caI G a_hit 8 g_hit, caI G a_lead 8 g_lead, caI G a_defeat 8 (upd (upd g_defeat t2.toNatClampNeg (t1 ||| t0)) v1.toNatClampNeg (((upd g_defeat t2.toNatClampNeg (t1 ||| t0)) v1.toNatClampNeg) ||| (nI 0))), caI G a_defeater 8 g_defeater] H := hP
      have hD : va_D A [ceX11 h0 a_w a_kept a_laid s_hasImage a_refusals a_row s_rows a_letters s_lettered a_hit a_lead a_defeat a_defeater s_ins s_outs a_order s_ordered a_is a_was s_reading s_isWell a_depths a_ways s_z, caI G a_w 43 g_w, caI G a_hit 8 g_hit, caI G a_lead 8 g_lead, caI G a_defeat 8 (upd (upd g_defeat t2.toNatClampNeg (t1 ||| t0)) v1.toNatClampNeg (((upd g_defeat t2.toNatClampNeg (t1 ||| t0)) v1.toNatClampNeg) ||| (nI 0))), caI G a_defeater 8 g_defeater] := hD
      refine lv_iinc (v := v2 + nI 1) (lv' := [(2, .int (v2 + nI 1)), (0, .ref h0), (1, .int v1)]) hx hb dX11_reckons_278 hl (k := 2) rfl (congrArg (fun q => v2 + q) kc_1) (by decide) rfl (fun ls hl => ?_)
      refine lv_goto (tgt := 184) hx hb dX11_reckons_281 (by decide) ?_
      exact hK184 v1 (v2 + nI 1) g_hit g_lead (upd (upd g_defeat t2.toNatClampNeg (t1 ||| t0)) v1.toNatClampNeg (((upd g_defeat t2.toNatClampNeg (t1 ||| t0)) v1.toNatClampNeg) ||| (nI 0))) g_defeater h _ _ _ hP hD hS (lv_sub hl [1, 2, 0] rfl)
    · replace h := h.2 c
      refine lv_aload_n hx hb dX11_reckons_253 rfl (lv_at hl 0 rfl) ?_
      refine va_get (D := G.1) (ci := 9) (v := .ref a_hit) (C := RX11) (T := TX11) (N := 24) hx hb hts ki_X11 hown hK.1 hP 0 rfl rfl 9 (by decide) kf2 (fun _ h9 => h9) rfl dX11_reckons_254 ?_
      refine lv_iload_n hx hb dX11_reckons_257 rfl (lv_at hl 1 rfl) ?_
      have hin := h.1
      replace h := h.2
      refine va_iald hx hb hK.1 hP 2 0 rfl rfl hin dX11_reckons_258 ?_
      refine lv_iload_n hx hb dX11_reckons_259 rfl (lv_at hl 2 rfl) ?_
      refine hc_ki (wr := [ceX11 h0 a_w a_kept a_laid s_hasImage a_refusals a_row s_rows a_letters s_lettered a_hit a_lead a_defeat a_defeater s_ins s_outs a_order s_ordered a_is a_was s_reading s_isWell a_depths a_ways s_z, caI G a_w 43 g_w, caI G a_hit 8 g_hit, caI G a_lead 8 g_lead, caI G a_defeat 8 (upd g_defeat t2.toNatClampNeg (t1 ||| t0)), caI G a_defeater 8 g_defeater]) (va_runS (As := [.int (g_hit v1.toNatClampNeg), .int v2]) (rest := [.int ((upd g_defeat t2.toNatClampNeg (t1 ||| t0)) v1.toNatClampNeg), .int v1, .ref a_defeat]) ⟨hx, hb, hml, hown, hts⟩ (c_X11_has l G H.size (g_hit v1.toNatClampNeg) v2 _ h) (va_cwS 2 hts gX11_reckons_X11_has rfl rfl rfl (by decide +kernel) ⟨Nat.le_of_ble_eq_true rfl, Nat.le_of_ble_eq_true rfl⟩) (hc_pS hK hP hD [] rfl rfl) rfl rfl hl.1 rfl (lv_room (Nat.le_of_ble_eq_true rfl)) dX11_reckons_260 ⟨Nat.le_refl _, Nat.le_refl _⟩) hP hD hS hA [] [0, 1, 2, 3, 4, 5] rfl rfl rfl (by decide) (fun r260 u H locs h hP hD hS => ?_)
      try dsimp only at h
      have hP : va_P G.1 vwCl [ceX11 h0 a_w a_kept a_laid s_hasImage a_refusals a_row s_rows a_letters s_lettered a_hit a_lead a_defeat a_defeater s_ins s_outs a_order s_ordered a_is a_was s_reading s_isWell a_depths a_ways s_z, caI G a_w 43 g_w, caI G a_hit 8 g_hit, caI G a_lead 8 g_lead, caI G a_defeat 8 (upd g_defeat t2.toNatClampNeg (t1 ||| t0)), caI G a_defeater 8 g_defeater] H := hP
      have hD : va_D A [ceX11 h0 a_w a_kept a_laid s_hasImage a_refusals a_row s_rows a_letters s_lettered a_hit a_lead a_defeat a_defeater s_ins s_outs a_order s_ordered a_is a_was s_reading s_isWell a_depths a_ways s_z, caI G a_w 43 g_w, caI G a_hit 8 g_hit, caI G a_lead 8 g_lead, caI G a_defeat 8 (upd g_defeat t2.toNatClampNeg (t1 ||| t0)), caI G a_defeater 8 g_defeater] := hD
      refine lv_if_eq (tgt := 275) hx hb dX11_reckons_263 (by decide) (fun c => ?_) (fun c => ?_)
      · replace h := h.1 c
        refine lv_iconst (v := nI 0) hx hb dX11_reckons_275 kc_0 ?_
        refine lv_ior hx hb dX11_reckons_276 ?_
        have hin := h.1
        replace h := h.2
        refine va_iast hx hb hK.1 hP hD hS 4 0 rfl rfl hin dX11_reckons_277 (fun H locs hP hD hS => ?_)
        have hP : va_P G.1 vwCl [ceX11 h0 a_w a_kept a_laid s_hasImage a_refusals a_row s_rows a_letters s_lettered a_hit a_lead a_defeat a_defeater s_ins s_outs a_order s_ordered a_is a_was s_reading s_isWell a_depths a_ways s_z, caI G a_w 43 g_w, caI G a_hit 8 g_hit, caI G a_lead 8 g_lead, caI G a_defeat 8 (upd (upd g_defeat t2.toNatClampNeg (t1 ||| t0)) v1.toNatClampNeg (((upd g_defeat t2.toNatClampNeg (t1 ||| t0)) v1.toNatClampNeg) ||| (nI 0))), caI G a_defeater 8 g_defeater] H := hP
        have hD : va_D A [ceX11 h0 a_w a_kept a_laid s_hasImage a_refusals a_row s_rows a_letters s_lettered a_hit a_lead a_defeat a_defeater s_ins s_outs a_order s_ordered a_is a_was s_reading s_isWell a_depths a_ways s_z, caI G a_w 43 g_w, caI G a_hit 8 g_hit, caI G a_lead 8 g_lead, caI G a_defeat 8 (upd (upd g_defeat t2.toNatClampNeg (t1 ||| t0)) v1.toNatClampNeg (((upd g_defeat t2.toNatClampNeg (t1 ||| t0)) v1.toNatClampNeg) ||| (nI 0))), caI G a_defeater 8 g_defeater] := hD
        refine lv_iinc (v := v2 + nI 1) (lv' := [(2, .int (v2 + nI 1)), (0, .ref h0), (1, .int v1)]) hx hb dX11_reckons_278 hl (k := 2) rfl (congrArg (fun q => v2 + q) kc_1) (by decide) rfl (fun ls hl => ?_)
        refine lv_goto (tgt := 184) hx hb dX11_reckons_281 (by decide) ?_
        exact hK184 v1 (v2 + nI 1) g_hit g_lead (upd (upd g_defeat t2.toNatClampNeg (t1 ||| t0)) v1.toNatClampNeg (((upd g_defeat t2.toNatClampNeg (t1 ||| t0)) v1.toNatClampNeg) ||| (nI 0))) g_defeater h _ _ _ hP hD hS (lv_sub hl [1, 2, 0] rfl)
      · replace h := h.2 c
        refine lv_aload_n hx hb dX11_reckons_266 rfl (lv_at hl 0 rfl) ?_
        refine va_get (D := G.1) (ci := 9) (v := .ref a_lead) (C := RX11) (T := TX11) (N := 24) hx hb hts ki_X11 hown hK.1 hP 0 rfl rfl 10 (by decide) kf4 (fun _ h9 => h9) rfl dX11_reckons_267 ?_
        refine lv_iload_n hx hb dX11_reckons_270 rfl (lv_at hl 2 rfl) ?_
        have hin := h.1
        replace h := h.2
        refine va_iald hx hb hK.1 hP 3 0 rfl rfl hin dX11_reckons_271 ?_
        refine lv_goto (tgt := 276) hx hb dX11_reckons_272 (by decide) ?_
        refine lv_ior hx hb dX11_reckons_276 ?_
        have hin := h.1
        replace h := h.2
        refine va_iast hx hb hK.1 hP hD hS 4 0 rfl rfl hin dX11_reckons_277 (fun H locs hP hD hS => ?_)
        have hP : va_P G.1 vwCl [ceX11 h0 a_w a_kept a_laid s_hasImage a_refusals a_row s_rows a_letters s_lettered a_hit a_lead a_defeat a_defeater s_ins s_outs a_order s_ordered a_is a_was s_reading s_isWell a_depths a_ways s_z, caI G a_w 43 g_w, caI G a_hit 8 g_hit, caI G a_lead 8 g_lead, caI G a_defeat 8 (upd (upd g_defeat t2.toNatClampNeg (t1 ||| t0)) v1.toNatClampNeg (((upd g_defeat t2.toNatClampNeg (t1 ||| t0)) v1.toNatClampNeg) ||| (g_lead v2.toNatClampNeg))), caI G a_defeater 8 g_defeater] H := hP
        have hD : va_D A [ceX11 h0 a_w a_kept a_laid s_hasImage a_refusals a_row s_rows a_letters s_lettered a_hit a_lead a_defeat a_defeater s_ins s_outs a_order s_ordered a_is a_was s_reading s_isWell a_depths a_ways s_z, caI G a_w 43 g_w, caI G a_hit 8 g_hit, caI G a_lead 8 g_lead, caI G a_defeat 8 (upd (upd g_defeat t2.toNatClampNeg (t1 ||| t0)) v1.toNatClampNeg (((upd g_defeat t2.toNatClampNeg (t1 ||| t0)) v1.toNatClampNeg) ||| (g_lead v2.toNatClampNeg))), caI G a_defeater 8 g_defeater] := hD
        refine lv_iinc (v := v2 + nI 1) (lv' := [(2, .int (v2 + nI 1)), (0, .ref h0), (1, .int v1)]) hx hb dX11_reckons_278 hl (k := 2) rfl (congrArg (fun q => v2 + q) kc_1) (by decide) rfl (fun ls hl => ?_)
        refine lv_goto (tgt := 184) hx hb dX11_reckons_281 (by decide) ?_
        exact hK184 v1 (v2 + nI 1) g_hit g_lead (upd (upd g_defeat t2.toNatClampNeg (t1 ||| t0)) v1.toNatClampNeg (((upd g_defeat t2.toNatClampNeg (t1 ||| t0)) v1.toNatClampNeg) ||| (g_lead v2.toNatClampNeg))) g_defeater h _ _ _ hP hD hS (lv_sub hl [1, 2, 0] rfl)
  have w184 : ∀ (K157 : Int32 → (Nat → Int32) → (Nat → Int32) → (Nat → Int32) → (Nat → Int32) → Prop), (∀ (v1 : Int32) (g_hit : Nat → Int32) (g_lead : Nat → Int32) (g_defeat : Nat → Int32) (g_defeater : Nat → Int32) , K157 v1 g_hit g_lead g_defeat g_defeater → ∀ (H : Heap) (locs : List Loc) (ls : Array Slot), va_P G.1 vwCl [ceX11 h0 a_w a_kept a_laid s_hasImage a_refusals a_row s_rows a_letters s_lettered a_hit a_lead a_defeat a_defeater s_ins s_outs a_order s_ordered a_is a_was s_reading s_isWell a_depths a_ways s_z, caI G a_w 43 g_w, caI G a_hit 8 g_hit, caI G a_lead 8 g_lead, caI G a_defeat 8 g_defeat, caI G a_defeater 8 g_defeater] H → va_D A [ceX11 h0 a_w a_kept a_laid s_hasImage a_refusals a_row s_rows a_letters s_lettered a_hit a_lead a_defeat a_defeater s_ins s_outs a_order s_ordered a_is a_was s_reading s_isWell a_depths a_ways s_z, caI G a_w 43 g_w, caI G a_hit 8 g_hit, caI G a_lead 8 g_lead, caI G a_defeat 8 g_defeat, caI G a_defeater 8 g_defeater] → va_S A s.heap H locs → lv_has ls 3 [(0, .ref h0), (1, .int v1)] → W p l e (headSpec wsX11_reckons ({ frames := 3, cells := 0, slots := 0, locals := 64 })).room s m ([.ref h0] : List Value).toArray below meth c H locs 0 0 (MQ below (va_Qv (fun u : (Nat → Int32) × (Nat → Int32) × (Nat → Int32) × (Nat → Int32) => post u.1 u.2.1 u.2.2.1 u.2.2.2) (hcB G A (fun u : (Nat → Int32) × (Nat → Int32) × (Nat → Int32) × (Nat → Int32) => [ceX11 h0 a_w a_kept a_laid s_hasImage a_refusals a_row s_rows a_letters s_lettered a_hit a_lead a_defeat a_defeater s_ins s_outs a_order s_ordered a_is a_was s_reading s_isWell a_depths a_ways s_z, caI G a_w 43 g_w, caI G a_hit 8 u.1, caI G a_lead 8 u.2.1, caI G a_defeat 8 u.2.2.1, caI G a_defeater 8 u.2.2.2])) A) ([.ref h0] : List Value).toArray s 0 0 A) (F0 m 157 ls [])) → ∀ (n : Nat) (v1 : Int32) (v2 : Int32) (g_hit : Nat → Int32) (g_lead : Nat → Int32) (g_defeat : Nat → Int32) (g_defeater : Nat → Int32) , wp_X11_reckons_184 post g_w K157 n v1 v2 g_hit g_lead g_defeat g_defeater → ∀ (H : Heap) (locs : List Loc) (ls : Array Slot), va_P G.1 vwCl [ceX11 h0 a_w a_kept a_laid s_hasImage a_refusals a_row s_rows a_letters s_lettered a_hit a_lead a_defeat a_defeater s_ins s_outs a_order s_ordered a_is a_was s_reading s_isWell a_depths a_ways s_z, caI G a_w 43 g_w, caI G a_hit 8 g_hit, caI G a_lead 8 g_lead, caI G a_defeat 8 g_defeat, caI G a_defeater 8 g_defeater] H → va_D A [ceX11 h0 a_w a_kept a_laid s_hasImage a_refusals a_row s_rows a_letters s_lettered a_hit a_lead a_defeat a_defeater s_ins s_outs a_order s_ordered a_is a_was s_reading s_isWell a_depths a_ways s_z, caI G a_w 43 g_w, caI G a_hit 8 g_hit, caI G a_lead 8 g_lead, caI G a_defeat 8 g_defeat, caI G a_defeater 8 g_defeater] → va_S A s.heap H locs → lv_has ls 3 [(0, .ref h0), (1, .int v1), (2, .int v2)] → W p l e (headSpec wsX11_reckons ({ frames := 3, cells := 0, slots := 0, locals := 64 })).room s m ([.ref h0] : List Value).toArray below meth c H locs 0 0 (MQ below (va_Qv (fun u : (Nat → Int32) × (Nat → Int32) × (Nat → Int32) × (Nat → Int32) => post u.1 u.2.1 u.2.2.1 u.2.2.2) (hcB G A (fun u : (Nat → Int32) × (Nat → Int32) × (Nat → Int32) × (Nat → Int32) => [ceX11 h0 a_w a_kept a_laid s_hasImage a_refusals a_row s_rows a_letters s_lettered a_hit a_lead a_defeat a_defeater s_ins s_outs a_order s_ordered a_is a_was s_reading s_isWell a_depths a_ways s_z, caI G a_w 43 g_w, caI G a_hit 8 u.1, caI G a_lead 8 u.2.1, caI G a_defeat 8 u.2.2.1, caI G a_defeater 8 u.2.2.2])) A) ([.ref h0] : List Value).toArray s 0 0 A) (F0 m 184 ls []) := by
    intro K157 hK157 n
    induction n with
    | zero => intro v1 v2 g_hit g_lead g_defeat g_defeater h; exact h.elim
    | succ n ih =>
      intro v1 v2 g_hit g_lead g_defeat g_defeater h H locs ls hP hD hS hl
      unfold wp_X11_reckons_184 at h
      refine lv_iload_n hx hb dX11_reckons_184 rfl (lv_at hl 2 rfl) ?_
      refine lv_bipush (v := nI 8) hx hb dX11_reckons_185 kb_8 ?_
      refine lv_icmp_ge (tgt := 284) hx hb dX11_reckons_187 (by decide) (fun c => ?_) (fun c => ?_)
      · replace h := h.1 c
        refine lv_iinc (v := v1 + nI 1) (lv' := [(1, .int (v1 + nI 1)), (0, .ref h0), (2, .int v2)]) hx hb dX11_reckons_284 hl (k := 1) rfl (congrArg (fun q => v1 + q) kc_1) (by decide) rfl (fun ls hl => ?_)
        refine lv_goto (tgt := 157) hx hb dX11_reckons_287 (by decide) ?_
        exact hK157 (v1 + nI 1) g_hit g_lead g_defeat g_defeater h _ _ _ hP hD hS (lv_sub hl [1, 0] rfl)
      · replace h := h.2 c
        refine lv_aload_n hx hb dX11_reckons_190 rfl (lv_at hl 0 rfl) ?_
        refine va_get (D := G.1) (ci := 9) (v := .ref a_defeat) (C := RX11) (T := TX11) (N := 24) hx hb hts ki_X11 hown hK.1 hP 0 rfl rfl 11 (by decide) kf1 (fun _ h9 => h9) rfl dX11_reckons_191 ?_
        refine lv_iload_n hx hb dX11_reckons_194 rfl (lv_at hl 1 rfl) ?_
        refine lv_dup2_11 hx hb dX11_reckons_195 rfl rfl ?_
        have hin := h.1
        replace h := h.2
        refine va_iald hx hb hK.1 hP 4 0 rfl rfl hin dX11_reckons_196 ?_
        refine lv_aload_n hx hb dX11_reckons_197 rfl (lv_at hl 0 rfl) ?_
        refine va_get (D := G.1) (ci := 9) (v := .ref a_w) (C := RX11) (T := TX11) (N := 24) hx hb hts ki_X11 hown hK.1 hP 0 rfl rfl 0 (by decide) kf3 (fun _ h9 => h9) rfl dX11_reckons_198 ?_
        refine lv_bipush (v := nI 41) hx hb dX11_reckons_201 kb_41 ?_
        have hin := h.1
        replace h := h.2
        refine va_iald hx hb hK.1 hP 1 0 rfl rfl hin dX11_reckons_203 ?_
        refine lv_iconst (v := nI 2) hx hb dX11_reckons_204 kc_2 ?_
        refine lv_irem hx hb dX11_reckons_205 hc_ne_nI2 ?_
        refine lv_iconst (v := nI 1) hx hb dX11_reckons_206 kc_1 ?_
        refine lv_icmp_ne (tgt := 232) hx hb dX11_reckons_207 (by decide) (fun c => ?_) (fun c => ?_)
        · replace h := h.1 c
          refine lv_iconst (v := nI 0) hx hb dX11_reckons_232 kc_0 ?_
          exact w233 K157 hK157 ((wp_X11_reckons_184 post g_w K157 n)) ih v1 v2 g_hit g_lead g_defeat g_defeater (nI 0) (g_defeat v1.toNatClampNeg) v1 h _ _ _ hP hD hS (lv_sub hl [0, 1, 2] rfl)
        · replace h := h.2 c
          refine lv_aload_n hx hb dX11_reckons_210 rfl (lv_at hl 0 rfl) ?_
          refine va_get (D := G.1) (ci := 9) (v := .ref a_lead) (C := RX11) (T := TX11) (N := 24) hx hb hts ki_X11 hown hK.1 hP 0 rfl rfl 10 (by decide) kf4 (fun _ h9 => h9) rfl dX11_reckons_211 ?_
          refine lv_iload_n hx hb dX11_reckons_214 rfl (lv_at hl 1 rfl) ?_
          have hin := h.1
          replace h := h.2
          refine va_iald hx hb hK.1 hP 3 0 rfl rfl hin dX11_reckons_215 ?_
          refine lv_iload_n hx hb dX11_reckons_216 rfl (lv_at hl 2 rfl) ?_
          refine hc_ki (wr := [ceX11 h0 a_w a_kept a_laid s_hasImage a_refusals a_row s_rows a_letters s_lettered a_hit a_lead a_defeat a_defeater s_ins s_outs a_order s_ordered a_is a_was s_reading s_isWell a_depths a_ways s_z, caI G a_w 43 g_w, caI G a_hit 8 g_hit, caI G a_lead 8 g_lead, caI G a_defeat 8 g_defeat, caI G a_defeater 8 g_defeater]) (va_runS (As := [.int (g_lead v1.toNatClampNeg), .int v2]) (rest := [.int (g_defeat v1.toNatClampNeg), .int v1, .ref a_defeat]) ⟨hx, hb, hml, hown, hts⟩ (c_X11_has l G H.size (g_lead v1.toNatClampNeg) v2 _ h) (va_cwS 2 hts gX11_reckons_X11_has rfl rfl rfl (by decide +kernel) ⟨Nat.le_of_ble_eq_true rfl, Nat.le_of_ble_eq_true rfl⟩) (hc_pS hK hP hD [] rfl rfl) rfl rfl hl.1 rfl (lv_room (Nat.le_of_ble_eq_true rfl)) dX11_reckons_217 ⟨Nat.le_refl _, Nat.le_refl _⟩) hP hD hS hA [] [0, 1, 2, 3, 4, 5] rfl rfl rfl (by decide) (fun r217 u H locs h hP hD hS => ?_)
          try dsimp only at h
          have hP : va_P G.1 vwCl [ceX11 h0 a_w a_kept a_laid s_hasImage a_refusals a_row s_rows a_letters s_lettered a_hit a_lead a_defeat a_defeater s_ins s_outs a_order s_ordered a_is a_was s_reading s_isWell a_depths a_ways s_z, caI G a_w 43 g_w, caI G a_hit 8 g_hit, caI G a_lead 8 g_lead, caI G a_defeat 8 g_defeat, caI G a_defeater 8 g_defeater] H := hP
          have hD : va_D A [ceX11 h0 a_w a_kept a_laid s_hasImage a_refusals a_row s_rows a_letters s_lettered a_hit a_lead a_defeat a_defeater s_ins s_outs a_order s_ordered a_is a_was s_reading s_isWell a_depths a_ways s_z, caI G a_w 43 g_w, caI G a_hit 8 g_hit, caI G a_lead 8 g_lead, caI G a_defeat 8 g_defeat, caI G a_defeater 8 g_defeater] := hD
          refine lv_if_eq (tgt := 232) hx hb dX11_reckons_220 (by decide) (fun c => ?_) (fun c => ?_)
          · replace h := h.1 c
            refine lv_iconst (v := nI 0) hx hb dX11_reckons_232 kc_0 ?_
            exact w233 K157 hK157 ((wp_X11_reckons_184 post g_w K157 n)) ih v1 v2 g_hit g_lead g_defeat g_defeater (nI 0) (g_defeat v1.toNatClampNeg) v1 h _ _ _ hP hD hS (lv_sub hl [0, 1, 2] rfl)
          · replace h := h.2 c
            refine lv_aload_n hx hb dX11_reckons_223 rfl (lv_at hl 0 rfl) ?_
            refine va_get (D := G.1) (ci := 9) (v := .ref a_hit) (C := RX11) (T := TX11) (N := 24) hx hb hts ki_X11 hown hK.1 hP 0 rfl rfl 9 (by decide) kf2 (fun _ h9 => h9) rfl dX11_reckons_224 ?_
            refine lv_iload_n hx hb dX11_reckons_227 rfl (lv_at hl 2 rfl) ?_
            have hin := h.1
            replace h := h.2
            refine va_iald hx hb hK.1 hP 2 0 rfl rfl hin dX11_reckons_228 ?_
            refine lv_goto (tgt := 233) hx hb dX11_reckons_229 (by decide) ?_
            exact w233 K157 hK157 ((wp_X11_reckons_184 post g_w K157 n)) ih v1 v2 g_hit g_lead g_defeat g_defeater (g_hit v2.toNatClampNeg) (g_defeat v1.toNatClampNeg) v1 h _ _ _ hP hD hS (lv_sub hl [0, 1, 2] rfl)
  have w157 : ∀ (n : Nat) (v1 : Int32) (g_hit : Nat → Int32) (g_lead : Nat → Int32) (g_defeat : Nat → Int32) (g_defeater : Nat → Int32) , wp_X11_reckons_157 post g_w n v1 g_hit g_lead g_defeat g_defeater → ∀ (H : Heap) (locs : List Loc) (ls : Array Slot), va_P G.1 vwCl [ceX11 h0 a_w a_kept a_laid s_hasImage a_refusals a_row s_rows a_letters s_lettered a_hit a_lead a_defeat a_defeater s_ins s_outs a_order s_ordered a_is a_was s_reading s_isWell a_depths a_ways s_z, caI G a_w 43 g_w, caI G a_hit 8 g_hit, caI G a_lead 8 g_lead, caI G a_defeat 8 g_defeat, caI G a_defeater 8 g_defeater] H → va_D A [ceX11 h0 a_w a_kept a_laid s_hasImage a_refusals a_row s_rows a_letters s_lettered a_hit a_lead a_defeat a_defeater s_ins s_outs a_order s_ordered a_is a_was s_reading s_isWell a_depths a_ways s_z, caI G a_w 43 g_w, caI G a_hit 8 g_hit, caI G a_lead 8 g_lead, caI G a_defeat 8 g_defeat, caI G a_defeater 8 g_defeater] → va_S A s.heap H locs → lv_has ls 3 [(0, .ref h0), (1, .int v1)] → W p l e (headSpec wsX11_reckons ({ frames := 3, cells := 0, slots := 0, locals := 64 })).room s m ([.ref h0] : List Value).toArray below meth c H locs 0 0 (MQ below (va_Qv (fun u : (Nat → Int32) × (Nat → Int32) × (Nat → Int32) × (Nat → Int32) => post u.1 u.2.1 u.2.2.1 u.2.2.2) (hcB G A (fun u : (Nat → Int32) × (Nat → Int32) × (Nat → Int32) × (Nat → Int32) => [ceX11 h0 a_w a_kept a_laid s_hasImage a_refusals a_row s_rows a_letters s_lettered a_hit a_lead a_defeat a_defeater s_ins s_outs a_order s_ordered a_is a_was s_reading s_isWell a_depths a_ways s_z, caI G a_w 43 g_w, caI G a_hit 8 u.1, caI G a_lead 8 u.2.1, caI G a_defeat 8 u.2.2.1, caI G a_defeater 8 u.2.2.2])) A) ([.ref h0] : List Value).toArray s 0 0 A) (F0 m 157 ls []) := by
    intro n
    induction n with
    | zero => intro v1 g_hit g_lead g_defeat g_defeater h; exact h.elim
    | succ n ih =>
      intro v1 g_hit g_lead g_defeat g_defeater h H locs ls hP hD hS hl
      unfold wp_X11_reckons_157 at h
      refine lv_iload_n hx hb dX11_reckons_157 rfl (lv_at hl 1 rfl) ?_
      refine lv_bipush (v := nI 8) hx hb dX11_reckons_158 kb_8 ?_
      refine lv_icmp_ge (tgt := 290) hx hb dX11_reckons_160 (by decide) (fun c => ?_) (fun c => ?_)
      · replace h := h.1 c
        refine lv_iconst (v := nI 0) hx hb dX11_reckons_290 kc_0 ?_
        refine lv_istore_n (lv' := [(1, .int (nI 0)), (0, .ref h0)]) hx hb dX11_reckons_291 rfl hl (by decide) rfl (fun ls hl => ?_)
        obtain ⟨n292, h⟩ := h
        exact w292  n292 (nI 0) g_hit g_lead g_defeat g_defeater h _ _ _ hP hD hS (lv_sub hl [1, 0] rfl)
      · replace h := h.2 c
        refine lv_aload_n hx hb dX11_reckons_163 rfl (lv_at hl 0 rfl) ?_
        refine va_get (D := G.1) (ci := 9) (v := .ref a_defeat) (C := RX11) (T := TX11) (N := 24) hx hb hts ki_X11 hown hK.1 hP 0 rfl rfl 11 (by decide) kf1 (fun _ h9 => h9) rfl dX11_reckons_164 ?_
        refine lv_iload_n hx hb dX11_reckons_167 rfl (lv_at hl 1 rfl) ?_
        refine lv_aload_n hx hb dX11_reckons_168 rfl (lv_at hl 0 rfl) ?_
        refine va_get (D := G.1) (ci := 9) (v := .ref a_hit) (C := RX11) (T := TX11) (N := 24) hx hb hts ki_X11 hown hK.1 hP 0 rfl rfl 9 (by decide) kf2 (fun _ h9 => h9) rfl dX11_reckons_169 ?_
        refine lv_iload_n hx hb dX11_reckons_172 rfl (lv_at hl 1 rfl) ?_
        have hin := h.1
        replace h := h.2
        refine va_iald hx hb hK.1 hP 2 0 rfl rfl hin dX11_reckons_173 ?_
        have hin := h.1
        replace h := h.2
        refine va_iast hx hb hK.1 hP hD hS 4 0 rfl rfl hin dX11_reckons_174 (fun H locs hP hD hS => ?_)
        have hP : va_P G.1 vwCl [ceX11 h0 a_w a_kept a_laid s_hasImage a_refusals a_row s_rows a_letters s_lettered a_hit a_lead a_defeat a_defeater s_ins s_outs a_order s_ordered a_is a_was s_reading s_isWell a_depths a_ways s_z, caI G a_w 43 g_w, caI G a_hit 8 g_hit, caI G a_lead 8 g_lead, caI G a_defeat 8 (upd g_defeat v1.toNatClampNeg (g_hit v1.toNatClampNeg)), caI G a_defeater 8 g_defeater] H := hP
        have hD : va_D A [ceX11 h0 a_w a_kept a_laid s_hasImage a_refusals a_row s_rows a_letters s_lettered a_hit a_lead a_defeat a_defeater s_ins s_outs a_order s_ordered a_is a_was s_reading s_isWell a_depths a_ways s_z, caI G a_w 43 g_w, caI G a_hit 8 g_hit, caI G a_lead 8 g_lead, caI G a_defeat 8 (upd g_defeat v1.toNatClampNeg (g_hit v1.toNatClampNeg)), caI G a_defeater 8 g_defeater] := hD
        refine lv_aload_n hx hb dX11_reckons_175 rfl (lv_at hl 0 rfl) ?_
        refine va_get (D := G.1) (ci := 9) (v := .ref a_defeater) (C := RX11) (T := TX11) (N := 24) hx hb hts ki_X11 hown hK.1 hP 0 rfl rfl 12 (by decide) kf0 (fun _ h9 => h9) rfl dX11_reckons_176 ?_
        refine lv_iload_n hx hb dX11_reckons_179 rfl (lv_at hl 1 rfl) ?_
        refine lv_iconst (v := nI 0) hx hb dX11_reckons_180 kc_0 ?_
        have hin := h.1
        replace h := h.2
        refine va_iast hx hb hK.1 hP hD hS 5 0 rfl rfl hin dX11_reckons_181 (fun H locs hP hD hS => ?_)
        have hP : va_P G.1 vwCl [ceX11 h0 a_w a_kept a_laid s_hasImage a_refusals a_row s_rows a_letters s_lettered a_hit a_lead a_defeat a_defeater s_ins s_outs a_order s_ordered a_is a_was s_reading s_isWell a_depths a_ways s_z, caI G a_w 43 g_w, caI G a_hit 8 g_hit, caI G a_lead 8 g_lead, caI G a_defeat 8 (upd g_defeat v1.toNatClampNeg (g_hit v1.toNatClampNeg)), caI G a_defeater 8 (upd g_defeater v1.toNatClampNeg (nI 0))] H := hP
        have hD : va_D A [ceX11 h0 a_w a_kept a_laid s_hasImage a_refusals a_row s_rows a_letters s_lettered a_hit a_lead a_defeat a_defeater s_ins s_outs a_order s_ordered a_is a_was s_reading s_isWell a_depths a_ways s_z, caI G a_w 43 g_w, caI G a_hit 8 g_hit, caI G a_lead 8 g_lead, caI G a_defeat 8 (upd g_defeat v1.toNatClampNeg (g_hit v1.toNatClampNeg)), caI G a_defeater 8 (upd g_defeater v1.toNatClampNeg (nI 0))] := hD
        refine lv_iconst (v := nI 0) hx hb dX11_reckons_182 kc_0 ?_
        refine lv_istore_n (lv' := [(2, .int (nI 0)), (0, .ref h0), (1, .int v1)]) hx hb dX11_reckons_183 rfl hl (by decide) rfl (fun ls hl => ?_)
        obtain ⟨n184, h⟩ := h
        exact w184 ((wp_X11_reckons_157 post g_w n)) ih n184 v1 (nI 0) g_hit g_lead (upd g_defeat v1.toNatClampNeg (g_hit v1.toNatClampNeg)) (upd g_defeater v1.toNatClampNeg (nI 0)) h _ _ _ hP hD hS (lv_sub hl [1, 2, 0] rfl)
  have w105 : ∀ (K97 : Int32 → (Nat → Int32) → (Nat → Int32) → (Nat → Int32) → (Nat → Int32) → Prop), (∀ (v1 : Int32) (g_hit : Nat → Int32) (g_lead : Nat → Int32) (g_defeat : Nat → Int32) (g_defeater : Nat → Int32) , K97 v1 g_hit g_lead g_defeat g_defeater → ∀ (H : Heap) (locs : List Loc) (ls : Array Slot), va_P G.1 vwCl [ceX11 h0 a_w a_kept a_laid s_hasImage a_refusals a_row s_rows a_letters s_lettered a_hit a_lead a_defeat a_defeater s_ins s_outs a_order s_ordered a_is a_was s_reading s_isWell a_depths a_ways s_z, caI G a_w 43 g_w, caI G a_hit 8 g_hit, caI G a_lead 8 g_lead, caI G a_defeat 8 g_defeat, caI G a_defeater 8 g_defeater] H → va_D A [ceX11 h0 a_w a_kept a_laid s_hasImage a_refusals a_row s_rows a_letters s_lettered a_hit a_lead a_defeat a_defeater s_ins s_outs a_order s_ordered a_is a_was s_reading s_isWell a_depths a_ways s_z, caI G a_w 43 g_w, caI G a_hit 8 g_hit, caI G a_lead 8 g_lead, caI G a_defeat 8 g_defeat, caI G a_defeater 8 g_defeater] → va_S A s.heap H locs → lv_has ls 3 [(0, .ref h0), (1, .int v1)] → W p l e (headSpec wsX11_reckons ({ frames := 3, cells := 0, slots := 0, locals := 64 })).room s m ([.ref h0] : List Value).toArray below meth c H locs 0 0 (MQ below (va_Qv (fun u : (Nat → Int32) × (Nat → Int32) × (Nat → Int32) × (Nat → Int32) => post u.1 u.2.1 u.2.2.1 u.2.2.2) (hcB G A (fun u : (Nat → Int32) × (Nat → Int32) × (Nat → Int32) × (Nat → Int32) => [ceX11 h0 a_w a_kept a_laid s_hasImage a_refusals a_row s_rows a_letters s_lettered a_hit a_lead a_defeat a_defeater s_ins s_outs a_order s_ordered a_is a_was s_reading s_isWell a_depths a_ways s_z, caI G a_w 43 g_w, caI G a_hit 8 u.1, caI G a_lead 8 u.2.1, caI G a_defeat 8 u.2.2.1, caI G a_defeater 8 u.2.2.2])) A) ([.ref h0] : List Value).toArray s 0 0 A) (F0 m 97 ls [])) → ∀ (n : Nat) (v1 : Int32) (v2 : Int32) (g_hit : Nat → Int32) (g_lead : Nat → Int32) (g_defeat : Nat → Int32) (g_defeater : Nat → Int32) , wp_X11_reckons_105 post g_w K97 n v1 v2 g_hit g_lead g_defeat g_defeater → ∀ (H : Heap) (locs : List Loc) (ls : Array Slot), va_P G.1 vwCl [ceX11 h0 a_w a_kept a_laid s_hasImage a_refusals a_row s_rows a_letters s_lettered a_hit a_lead a_defeat a_defeater s_ins s_outs a_order s_ordered a_is a_was s_reading s_isWell a_depths a_ways s_z, caI G a_w 43 g_w, caI G a_hit 8 g_hit, caI G a_lead 8 g_lead, caI G a_defeat 8 g_defeat, caI G a_defeater 8 g_defeater] H → va_D A [ceX11 h0 a_w a_kept a_laid s_hasImage a_refusals a_row s_rows a_letters s_lettered a_hit a_lead a_defeat a_defeater s_ins s_outs a_order s_ordered a_is a_was s_reading s_isWell a_depths a_ways s_z, caI G a_w 43 g_w, caI G a_hit 8 g_hit, caI G a_lead 8 g_lead, caI G a_defeat 8 g_defeat, caI G a_defeater 8 g_defeater] → va_S A s.heap H locs → lv_has ls 3 [(0, .ref h0), (1, .int v1), (2, .int v2)] → W p l e (headSpec wsX11_reckons ({ frames := 3, cells := 0, slots := 0, locals := 64 })).room s m ([.ref h0] : List Value).toArray below meth c H locs 0 0 (MQ below (va_Qv (fun u : (Nat → Int32) × (Nat → Int32) × (Nat → Int32) × (Nat → Int32) => post u.1 u.2.1 u.2.2.1 u.2.2.2) (hcB G A (fun u : (Nat → Int32) × (Nat → Int32) × (Nat → Int32) × (Nat → Int32) => [ceX11 h0 a_w a_kept a_laid s_hasImage a_refusals a_row s_rows a_letters s_lettered a_hit a_lead a_defeat a_defeater s_ins s_outs a_order s_ordered a_is a_was s_reading s_isWell a_depths a_ways s_z, caI G a_w 43 g_w, caI G a_hit 8 u.1, caI G a_lead 8 u.2.1, caI G a_defeat 8 u.2.2.1, caI G a_defeater 8 u.2.2.2])) A) ([.ref h0] : List Value).toArray s 0 0 A) (F0 m 105 ls []) := by
    intro K97 hK97 n
    induction n with
    | zero => intro v1 v2 g_hit g_lead g_defeat g_defeater h; exact h.elim
    | succ n ih =>
      intro v1 v2 g_hit g_lead g_defeat g_defeater h H locs ls hP hD hS hl
      unfold wp_X11_reckons_105 at h
      refine lv_iload_n hx hb dX11_reckons_105 rfl (lv_at hl 2 rfl) ?_
      refine lv_bipush (v := nI 8) hx hb dX11_reckons_106 kb_8 ?_
      refine lv_icmp_ge (tgt := 149) hx hb dX11_reckons_108 (by decide) (fun c => ?_) (fun c => ?_)
      · replace h := h.1 c
        refine lv_iinc (v := v1 + nI 1) (lv' := [(1, .int (v1 + nI 1)), (0, .ref h0), (2, .int v2)]) hx hb dX11_reckons_149 hl (k := 1) rfl (congrArg (fun q => v1 + q) kc_1) (by decide) rfl (fun ls hl => ?_)
        refine lv_goto (tgt := 97) hx hb dX11_reckons_152 (by decide) ?_
        exact hK97 (v1 + nI 1) g_hit g_lead g_defeat g_defeater h _ _ _ hP hD hS (lv_sub hl [1, 0] rfl)
      · replace h := h.2 c
        refine lv_aload_n hx hb dX11_reckons_111 rfl (lv_at hl 0 rfl) ?_
        refine va_get (D := G.1) (ci := 9) (v := .ref a_lead) (C := RX11) (T := TX11) (N := 24) hx hb hts ki_X11 hown hK.1 hP 0 rfl rfl 10 (by decide) kf4 (fun _ h9 => h9) rfl dX11_reckons_112 ?_
        refine lv_iload_n hx hb dX11_reckons_115 rfl (lv_at hl 2 rfl) ?_
        refine lv_dup2_11 hx hb dX11_reckons_116 rfl rfl ?_
        have hin := h.1
        replace h := h.2
        refine va_iald hx hb hK.1 hP 3 0 rfl rfl hin dX11_reckons_117 ?_
        refine lv_aload_n hx hb dX11_reckons_118 rfl (lv_at hl 0 rfl) ?_
        refine va_get (D := G.1) (ci := 9) (v := .ref a_lead) (C := RX11) (T := TX11) (N := 24) hx hb hts ki_X11 hown hK.1 hP 0 rfl rfl 10 (by decide) kf4 (fun _ h9 => h9) rfl dX11_reckons_119 ?_
        refine lv_iload_n hx hb dX11_reckons_122 rfl (lv_at hl 2 rfl) ?_
        have hin := h.1
        replace h := h.2
        refine va_iald hx hb hK.1 hP 3 0 rfl rfl hin dX11_reckons_123 ?_
        refine lv_iload_n hx hb dX11_reckons_124 rfl (lv_at hl 1 rfl) ?_
        refine hc_ki (wr := [ceX11 h0 a_w a_kept a_laid s_hasImage a_refusals a_row s_rows a_letters s_lettered a_hit a_lead a_defeat a_defeater s_ins s_outs a_order s_ordered a_is a_was s_reading s_isWell a_depths a_ways s_z, caI G a_w 43 g_w, caI G a_hit 8 g_hit, caI G a_lead 8 g_lead, caI G a_defeat 8 g_defeat, caI G a_defeater 8 g_defeater]) (va_runS (As := [.int (g_lead v2.toNatClampNeg), .int v1]) (rest := [.int (g_lead v2.toNatClampNeg), .int v2, .ref a_lead]) ⟨hx, hb, hml, hown, hts⟩ (c_X11_has l G H.size (g_lead v2.toNatClampNeg) v1 _ h) (va_cwS 2 hts gX11_reckons_X11_has rfl rfl rfl (by decide +kernel) ⟨Nat.le_of_ble_eq_true rfl, Nat.le_of_ble_eq_true rfl⟩) (hc_pS hK hP hD [] rfl rfl) rfl rfl hl.1 rfl (lv_room (Nat.le_of_ble_eq_true rfl)) dX11_reckons_125 ⟨Nat.le_refl _, Nat.le_refl _⟩) hP hD hS hA [] [0, 1, 2, 3, 4, 5] rfl rfl rfl (by decide) (fun r125 u H locs h hP hD hS => ?_)
        try dsimp only at h
        have hP : va_P G.1 vwCl [ceX11 h0 a_w a_kept a_laid s_hasImage a_refusals a_row s_rows a_letters s_lettered a_hit a_lead a_defeat a_defeater s_ins s_outs a_order s_ordered a_is a_was s_reading s_isWell a_depths a_ways s_z, caI G a_w 43 g_w, caI G a_hit 8 g_hit, caI G a_lead 8 g_lead, caI G a_defeat 8 g_defeat, caI G a_defeater 8 g_defeater] H := hP
        have hD : va_D A [ceX11 h0 a_w a_kept a_laid s_hasImage a_refusals a_row s_rows a_letters s_lettered a_hit a_lead a_defeat a_defeater s_ins s_outs a_order s_ordered a_is a_was s_reading s_isWell a_depths a_ways s_z, caI G a_w 43 g_w, caI G a_hit 8 g_hit, caI G a_lead 8 g_lead, caI G a_defeat 8 g_defeat, caI G a_defeater 8 g_defeater] := hD
        refine lv_if_eq (tgt := 140) hx hb dX11_reckons_128 (by decide) (fun c => ?_) (fun c => ?_)
        · replace h := h.1 c
          refine lv_iconst (v := nI 0) hx hb dX11_reckons_140 kc_0 ?_
          refine lv_ior hx hb dX11_reckons_141 ?_
          have hin := h.1
          replace h := h.2
          refine va_iast hx hb hK.1 hP hD hS 3 0 rfl rfl hin dX11_reckons_142 (fun H locs hP hD hS => ?_)
          have hP : va_P G.1 vwCl [ceX11 h0 a_w a_kept a_laid s_hasImage a_refusals a_row s_rows a_letters s_lettered a_hit a_lead a_defeat a_defeater s_ins s_outs a_order s_ordered a_is a_was s_reading s_isWell a_depths a_ways s_z, caI G a_w 43 g_w, caI G a_hit 8 g_hit, caI G a_lead 8 (upd g_lead v2.toNatClampNeg ((g_lead v2.toNatClampNeg) ||| (nI 0))), caI G a_defeat 8 g_defeat, caI G a_defeater 8 g_defeater] H := hP
          have hD : va_D A [ceX11 h0 a_w a_kept a_laid s_hasImage a_refusals a_row s_rows a_letters s_lettered a_hit a_lead a_defeat a_defeater s_ins s_outs a_order s_ordered a_is a_was s_reading s_isWell a_depths a_ways s_z, caI G a_w 43 g_w, caI G a_hit 8 g_hit, caI G a_lead 8 (upd g_lead v2.toNatClampNeg ((g_lead v2.toNatClampNeg) ||| (nI 0))), caI G a_defeat 8 g_defeat, caI G a_defeater 8 g_defeater] := hD
          refine lv_iinc (v := v2 + nI 1) (lv' := [(2, .int (v2 + nI 1)), (0, .ref h0), (1, .int v1)]) hx hb dX11_reckons_143 hl (k := 2) rfl (congrArg (fun q => v2 + q) kc_1) (by decide) rfl (fun ls hl => ?_)
          refine lv_goto (tgt := 105) hx hb dX11_reckons_146 (by decide) ?_
          exact ih v1 (v2 + nI 1) g_hit (upd g_lead v2.toNatClampNeg ((g_lead v2.toNatClampNeg) ||| (nI 0))) g_defeat g_defeater h _ _ _ hP hD hS (lv_sub hl [1, 2, 0] rfl)
        · replace h := h.2 c
          refine lv_aload_n hx hb dX11_reckons_131 rfl (lv_at hl 0 rfl) ?_
          refine va_get (D := G.1) (ci := 9) (v := .ref a_lead) (C := RX11) (T := TX11) (N := 24) hx hb hts ki_X11 hown hK.1 hP 0 rfl rfl 10 (by decide) kf4 (fun _ h9 => h9) rfl dX11_reckons_132 ?_
          refine lv_iload_n hx hb dX11_reckons_135 rfl (lv_at hl 1 rfl) ?_
          have hin := h.1
          replace h := h.2
          refine va_iald hx hb hK.1 hP 3 0 rfl rfl hin dX11_reckons_136 ?_
          refine lv_goto (tgt := 141) hx hb dX11_reckons_137 (by decide) ?_
          refine lv_ior hx hb dX11_reckons_141 ?_
          have hin := h.1
          replace h := h.2
          refine va_iast hx hb hK.1 hP hD hS 3 0 rfl rfl hin dX11_reckons_142 (fun H locs hP hD hS => ?_)
          have hP : va_P G.1 vwCl [ceX11 h0 a_w a_kept a_laid s_hasImage a_refusals a_row s_rows a_letters s_lettered a_hit a_lead a_defeat a_defeater s_ins s_outs a_order s_ordered a_is a_was s_reading s_isWell a_depths a_ways s_z, caI G a_w 43 g_w, caI G a_hit 8 g_hit, caI G a_lead 8 (upd g_lead v2.toNatClampNeg ((g_lead v2.toNatClampNeg) ||| (g_lead v1.toNatClampNeg))), caI G a_defeat 8 g_defeat, caI G a_defeater 8 g_defeater] H := hP
          have hD : va_D A [ceX11 h0 a_w a_kept a_laid s_hasImage a_refusals a_row s_rows a_letters s_lettered a_hit a_lead a_defeat a_defeater s_ins s_outs a_order s_ordered a_is a_was s_reading s_isWell a_depths a_ways s_z, caI G a_w 43 g_w, caI G a_hit 8 g_hit, caI G a_lead 8 (upd g_lead v2.toNatClampNeg ((g_lead v2.toNatClampNeg) ||| (g_lead v1.toNatClampNeg))), caI G a_defeat 8 g_defeat, caI G a_defeater 8 g_defeater] := hD
          refine lv_iinc (v := v2 + nI 1) (lv' := [(2, .int (v2 + nI 1)), (0, .ref h0), (1, .int v1)]) hx hb dX11_reckons_143 hl (k := 2) rfl (congrArg (fun q => v2 + q) kc_1) (by decide) rfl (fun ls hl => ?_)
          refine lv_goto (tgt := 105) hx hb dX11_reckons_146 (by decide) ?_
          exact ih v1 (v2 + nI 1) g_hit (upd g_lead v2.toNatClampNeg ((g_lead v2.toNatClampNeg) ||| (g_lead v1.toNatClampNeg))) g_defeat g_defeater h _ _ _ hP hD hS (lv_sub hl [1, 2, 0] rfl)
  have w97 : ∀ (n : Nat) (v1 : Int32) (g_hit : Nat → Int32) (g_lead : Nat → Int32) (g_defeat : Nat → Int32) (g_defeater : Nat → Int32) , wp_X11_reckons_97 post g_w n v1 g_hit g_lead g_defeat g_defeater → ∀ (H : Heap) (locs : List Loc) (ls : Array Slot), va_P G.1 vwCl [ceX11 h0 a_w a_kept a_laid s_hasImage a_refusals a_row s_rows a_letters s_lettered a_hit a_lead a_defeat a_defeater s_ins s_outs a_order s_ordered a_is a_was s_reading s_isWell a_depths a_ways s_z, caI G a_w 43 g_w, caI G a_hit 8 g_hit, caI G a_lead 8 g_lead, caI G a_defeat 8 g_defeat, caI G a_defeater 8 g_defeater] H → va_D A [ceX11 h0 a_w a_kept a_laid s_hasImage a_refusals a_row s_rows a_letters s_lettered a_hit a_lead a_defeat a_defeater s_ins s_outs a_order s_ordered a_is a_was s_reading s_isWell a_depths a_ways s_z, caI G a_w 43 g_w, caI G a_hit 8 g_hit, caI G a_lead 8 g_lead, caI G a_defeat 8 g_defeat, caI G a_defeater 8 g_defeater] → va_S A s.heap H locs → lv_has ls 3 [(0, .ref h0), (1, .int v1)] → W p l e (headSpec wsX11_reckons ({ frames := 3, cells := 0, slots := 0, locals := 64 })).room s m ([.ref h0] : List Value).toArray below meth c H locs 0 0 (MQ below (va_Qv (fun u : (Nat → Int32) × (Nat → Int32) × (Nat → Int32) × (Nat → Int32) => post u.1 u.2.1 u.2.2.1 u.2.2.2) (hcB G A (fun u : (Nat → Int32) × (Nat → Int32) × (Nat → Int32) × (Nat → Int32) => [ceX11 h0 a_w a_kept a_laid s_hasImage a_refusals a_row s_rows a_letters s_lettered a_hit a_lead a_defeat a_defeater s_ins s_outs a_order s_ordered a_is a_was s_reading s_isWell a_depths a_ways s_z, caI G a_w 43 g_w, caI G a_hit 8 u.1, caI G a_lead 8 u.2.1, caI G a_defeat 8 u.2.2.1, caI G a_defeater 8 u.2.2.2])) A) ([.ref h0] : List Value).toArray s 0 0 A) (F0 m 97 ls []) := by
    intro n
    induction n with
    | zero => intro v1 g_hit g_lead g_defeat g_defeater h; exact h.elim
    | succ n ih =>
      intro v1 g_hit g_lead g_defeat g_defeater h H locs ls hP hD hS hl
      unfold wp_X11_reckons_97 at h
      refine lv_iload_n hx hb dX11_reckons_97 rfl (lv_at hl 1 rfl) ?_
      refine lv_bipush (v := nI 8) hx hb dX11_reckons_98 kb_8 ?_
      refine lv_icmp_ge (tgt := 155) hx hb dX11_reckons_100 (by decide) (fun c => ?_) (fun c => ?_)
      · replace h := h.1 c
        refine lv_iconst (v := nI 0) hx hb dX11_reckons_155 kc_0 ?_
        refine lv_istore_n (lv' := [(1, .int (nI 0)), (0, .ref h0)]) hx hb dX11_reckons_156 rfl hl (by decide) rfl (fun ls hl => ?_)
        obtain ⟨n157, h⟩ := h
        exact w157  n157 (nI 0) g_hit g_lead g_defeat g_defeater h _ _ _ hP hD hS (lv_sub hl [1, 0] rfl)
      · replace h := h.2 c
        refine lv_iconst (v := nI 0) hx hb dX11_reckons_103 kc_0 ?_
        refine lv_istore_n (lv' := [(2, .int (nI 0)), (0, .ref h0), (1, .int v1)]) hx hb dX11_reckons_104 rfl hl (by decide) rfl (fun ls hl => ?_)
        obtain ⟨n105, h⟩ := h
        exact w105 ((wp_X11_reckons_97 post g_w n)) ih n105 v1 (nI 0) g_hit g_lead g_defeat g_defeater h _ _ _ hP hD hS (lv_sub hl [1, 2, 0] rfl)
  have w52 : ∀ (K2 : Int32 → (Nat → Int32) → (Nat → Int32) → (Nat → Int32) → (Nat → Int32) → Prop), (∀ (v1 : Int32) (g_hit : Nat → Int32) (g_lead : Nat → Int32) (g_defeat : Nat → Int32) (g_defeater : Nat → Int32) , K2 v1 g_hit g_lead g_defeat g_defeater → ∀ (H : Heap) (locs : List Loc) (ls : Array Slot), va_P G.1 vwCl [ceX11 h0 a_w a_kept a_laid s_hasImage a_refusals a_row s_rows a_letters s_lettered a_hit a_lead a_defeat a_defeater s_ins s_outs a_order s_ordered a_is a_was s_reading s_isWell a_depths a_ways s_z, caI G a_w 43 g_w, caI G a_hit 8 g_hit, caI G a_lead 8 g_lead, caI G a_defeat 8 g_defeat, caI G a_defeater 8 g_defeater] H → va_D A [ceX11 h0 a_w a_kept a_laid s_hasImage a_refusals a_row s_rows a_letters s_lettered a_hit a_lead a_defeat a_defeater s_ins s_outs a_order s_ordered a_is a_was s_reading s_isWell a_depths a_ways s_z, caI G a_w 43 g_w, caI G a_hit 8 g_hit, caI G a_lead 8 g_lead, caI G a_defeat 8 g_defeat, caI G a_defeater 8 g_defeater] → va_S A s.heap H locs → lv_has ls 3 [(0, .ref h0), (1, .int v1)] → W p l e (headSpec wsX11_reckons ({ frames := 3, cells := 0, slots := 0, locals := 64 })).room s m ([.ref h0] : List Value).toArray below meth c H locs 0 0 (MQ below (va_Qv (fun u : (Nat → Int32) × (Nat → Int32) × (Nat → Int32) × (Nat → Int32) => post u.1 u.2.1 u.2.2.1 u.2.2.2) (hcB G A (fun u : (Nat → Int32) × (Nat → Int32) × (Nat → Int32) × (Nat → Int32) => [ceX11 h0 a_w a_kept a_laid s_hasImage a_refusals a_row s_rows a_letters s_lettered a_hit a_lead a_defeat a_defeater s_ins s_outs a_order s_ordered a_is a_was s_reading s_isWell a_depths a_ways s_z, caI G a_w 43 g_w, caI G a_hit 8 u.1, caI G a_lead 8 u.2.1, caI G a_defeat 8 u.2.2.1, caI G a_defeater 8 u.2.2.2])) A) ([.ref h0] : List Value).toArray s 0 0 A) (F0 m 2 ls [])) → ∀ (n : Nat) (v1 : Int32) (v2 : Int32) (g_hit : Nat → Int32) (g_lead : Nat → Int32) (g_defeat : Nat → Int32) (g_defeater : Nat → Int32) , wp_X11_reckons_52 post g_w K2 n v1 v2 g_hit g_lead g_defeat g_defeater → ∀ (H : Heap) (locs : List Loc) (ls : Array Slot), va_P G.1 vwCl [ceX11 h0 a_w a_kept a_laid s_hasImage a_refusals a_row s_rows a_letters s_lettered a_hit a_lead a_defeat a_defeater s_ins s_outs a_order s_ordered a_is a_was s_reading s_isWell a_depths a_ways s_z, caI G a_w 43 g_w, caI G a_hit 8 g_hit, caI G a_lead 8 g_lead, caI G a_defeat 8 g_defeat, caI G a_defeater 8 g_defeater] H → va_D A [ceX11 h0 a_w a_kept a_laid s_hasImage a_refusals a_row s_rows a_letters s_lettered a_hit a_lead a_defeat a_defeater s_ins s_outs a_order s_ordered a_is a_was s_reading s_isWell a_depths a_ways s_z, caI G a_w 43 g_w, caI G a_hit 8 g_hit, caI G a_lead 8 g_lead, caI G a_defeat 8 g_defeat, caI G a_defeater 8 g_defeater] → va_S A s.heap H locs → lv_has ls 3 [(0, .ref h0), (1, .int v1), (2, .int v2)] → W p l e (headSpec wsX11_reckons ({ frames := 3, cells := 0, slots := 0, locals := 64 })).room s m ([.ref h0] : List Value).toArray below meth c H locs 0 0 (MQ below (va_Qv (fun u : (Nat → Int32) × (Nat → Int32) × (Nat → Int32) × (Nat → Int32) => post u.1 u.2.1 u.2.2.1 u.2.2.2) (hcB G A (fun u : (Nat → Int32) × (Nat → Int32) × (Nat → Int32) × (Nat → Int32) => [ceX11 h0 a_w a_kept a_laid s_hasImage a_refusals a_row s_rows a_letters s_lettered a_hit a_lead a_defeat a_defeater s_ins s_outs a_order s_ordered a_is a_was s_reading s_isWell a_depths a_ways s_z, caI G a_w 43 g_w, caI G a_hit 8 u.1, caI G a_lead 8 u.2.1, caI G a_defeat 8 u.2.2.1, caI G a_defeater 8 u.2.2.2])) A) ([.ref h0] : List Value).toArray s 0 0 A) (F0 m 52 ls []) := by
    intro K2 hK2 n
    induction n with
    | zero => intro v1 v2 g_hit g_lead g_defeat g_defeater h; exact h.elim
    | succ n ih =>
      intro v1 v2 g_hit g_lead g_defeat g_defeater h H locs ls hP hD hS hl
      unfold wp_X11_reckons_52 at h
      refine lv_iload_n hx hb dX11_reckons_52 rfl (lv_at hl 2 rfl) ?_
      refine lv_bipush (v := nI 8) hx hb dX11_reckons_53 kb_8 ?_
      refine lv_icmp_ge (tgt := 89) hx hb dX11_reckons_55 (by decide) (fun c => ?_) (fun c => ?_)
      · replace h := h.1 c
        refine lv_iinc (v := v1 + nI 1) (lv' := [(1, .int (v1 + nI 1)), (0, .ref h0), (2, .int v2)]) hx hb dX11_reckons_89 hl (k := 1) rfl (congrArg (fun q => v1 + q) kc_1) (by decide) rfl (fun ls hl => ?_)
        refine lv_goto (tgt := 2) hx hb dX11_reckons_92 (by decide) ?_
        exact hK2 (v1 + nI 1) g_hit g_lead g_defeat g_defeater h _ _ _ hP hD hS (lv_sub hl [1, 0] rfl)
      · replace h := h.2 c
        refine lv_aload_n hx hb dX11_reckons_58 rfl (lv_at hl 0 rfl) ?_
        refine va_get (D := G.1) (ci := 9) (v := .ref a_hit) (C := RX11) (T := TX11) (N := 24) hx hb hts ki_X11 hown hK.1 hP 0 rfl rfl 9 (by decide) kf2 (fun _ h9 => h9) rfl dX11_reckons_59 ?_
        refine lv_iload_n hx hb dX11_reckons_62 rfl (lv_at hl 1 rfl) ?_
        refine lv_dup2_11 hx hb dX11_reckons_63 rfl rfl ?_
        have hin := h.1
        replace h := h.2
        refine va_iald hx hb hK.1 hP 2 0 rfl rfl hin dX11_reckons_64 ?_
        refine lv_aload_n hx hb dX11_reckons_65 rfl (lv_at hl 0 rfl) ?_
        refine lv_iload_n hx hb dX11_reckons_66 rfl (lv_at hl 1 rfl) ?_
        refine lv_iload_n hx hb dX11_reckons_67 rfl (lv_at hl 2 rfl) ?_
        refine hc_ki (wr := [caI G a_hit 8 g_hit, caI G a_lead 8 g_lead, caI G a_defeat 8 g_defeat, caI G a_defeater 8 g_defeater]) (va_runV (As := [.int v1, .int v2]) (rest := [.int (g_hit v1.toNatClampNeg), .int v1, .ref a_hit]) ⟨hx, hb, hml, hown, hts⟩ (c_X11_hits l G h0 a_w a_kept a_laid a_refusals a_row a_letters a_hit a_lead a_defeat a_defeater a_order a_is a_was a_depths a_ways H.size s_hasImage s_rows s_lettered s_ins s_outs s_ordered s_reading s_isWell s_z g_w v1 v2 _ h) (cwV 2 hts gX11_reckons_X11_hits rfl rfl rfl (by decide +kernel) ⟨Nat.le_of_ble_eq_true rfl, Nat.le_of_ble_eq_true rfl⟩) (hc_pV hK hP hD [0, 1] rfl rfl (ci := 9) 0 rfl rfl) rfl rfl hl.1 rfl (lv_room (Nat.le_of_ble_eq_true rfl)) dX11_reckons_68 ⟨Nat.le_refl _, Nat.le_refl _⟩) hP hD hS hA [0, 1] [2, 3, 4, 5] rfl rfl rfl (by decide) (fun r68 u H locs h hP hD hS => ?_)
        try dsimp only at h
        have hP : va_P G.1 vwCl [caI G a_hit 8 g_hit, caI G a_lead 8 g_lead, caI G a_defeat 8 g_defeat, caI G a_defeater 8 g_defeater, ceX11 h0 a_w a_kept a_laid s_hasImage a_refusals a_row s_rows a_letters s_lettered a_hit a_lead a_defeat a_defeater s_ins s_outs a_order s_ordered a_is a_was s_reading s_isWell a_depths a_ways s_z, caI G a_w 43 g_w] H := hP
        have hD : va_D A [caI G a_hit 8 g_hit, caI G a_lead 8 g_lead, caI G a_defeat 8 g_defeat, caI G a_defeater 8 g_defeater, ceX11 h0 a_w a_kept a_laid s_hasImage a_refusals a_row s_rows a_letters s_lettered a_hit a_lead a_defeat a_defeater s_ins s_outs a_order s_ordered a_is a_was s_reading s_isWell a_depths a_ways s_z, caI G a_w 43 g_w] := hD
        refine lv_if_eq (tgt := 80) hx hb dX11_reckons_71 (by decide) (fun c => ?_) (fun c => ?_)
        · replace h := h.1 c
          refine lv_iconst (v := nI 0) hx hb dX11_reckons_80 kc_0 ?_
          refine lv_ior hx hb dX11_reckons_81 ?_
          have hin := h.1
          replace h := h.2
          refine va_iast hx hb hK.1 hP hD hS 0 0 rfl rfl hin dX11_reckons_82 (fun H locs hP hD hS => ?_)
          have hP : va_P G.1 vwCl [caI G a_hit 8 (upd g_hit v1.toNatClampNeg ((g_hit v1.toNatClampNeg) ||| (nI 0))), caI G a_lead 8 g_lead, caI G a_defeat 8 g_defeat, caI G a_defeater 8 g_defeater, ceX11 h0 a_w a_kept a_laid s_hasImage a_refusals a_row s_rows a_letters s_lettered a_hit a_lead a_defeat a_defeater s_ins s_outs a_order s_ordered a_is a_was s_reading s_isWell a_depths a_ways s_z, caI G a_w 43 g_w] H := hP
          have hD : va_D A [caI G a_hit 8 (upd g_hit v1.toNatClampNeg ((g_hit v1.toNatClampNeg) ||| (nI 0))), caI G a_lead 8 g_lead, caI G a_defeat 8 g_defeat, caI G a_defeater 8 g_defeater, ceX11 h0 a_w a_kept a_laid s_hasImage a_refusals a_row s_rows a_letters s_lettered a_hit a_lead a_defeat a_defeater s_ins s_outs a_order s_ordered a_is a_was s_reading s_isWell a_depths a_ways s_z, caI G a_w 43 g_w] := hD
          refine lv_iinc (v := v2 + nI 1) (lv' := [(2, .int (v2 + nI 1)), (0, .ref h0), (1, .int v1)]) hx hb dX11_reckons_83 hl (k := 2) rfl (congrArg (fun q => v2 + q) kc_1) (by decide) rfl (fun ls hl => ?_)
          refine lv_goto (tgt := 52) hx hb dX11_reckons_86 (by decide) ?_
          exact ih v1 (v2 + nI 1) (upd g_hit v1.toNatClampNeg ((g_hit v1.toNatClampNeg) ||| (nI 0))) g_lead g_defeat g_defeater h _ _ _ (hP.sub [4, 5, 0, 1, 2, 3] rfl) (hD.sub [4, 5, 0, 1, 2, 3] (by decide) rfl) hS (lv_sub hl [1, 2, 0] rfl)
        · replace h := h.2 c
          refine lv_iconst (v := nI 1) hx hb dX11_reckons_74 kc_1 ?_
          refine lv_iload_n hx hb dX11_reckons_75 rfl (lv_at hl 2 rfl) ?_
          refine lv_ishl hx hb dX11_reckons_76 ?_
          refine lv_goto (tgt := 81) hx hb dX11_reckons_77 (by decide) ?_
          refine lv_ior hx hb dX11_reckons_81 ?_
          have hin := h.1
          replace h := h.2
          refine va_iast hx hb hK.1 hP hD hS 0 0 rfl rfl hin dX11_reckons_82 (fun H locs hP hD hS => ?_)
          have hP : va_P G.1 vwCl [caI G a_hit 8 (upd g_hit v1.toNatClampNeg ((g_hit v1.toNatClampNeg) ||| ((nI 1) <<< (v2 &&& 31)))), caI G a_lead 8 g_lead, caI G a_defeat 8 g_defeat, caI G a_defeater 8 g_defeater, ceX11 h0 a_w a_kept a_laid s_hasImage a_refusals a_row s_rows a_letters s_lettered a_hit a_lead a_defeat a_defeater s_ins s_outs a_order s_ordered a_is a_was s_reading s_isWell a_depths a_ways s_z, caI G a_w 43 g_w] H := hP
          have hD : va_D A [caI G a_hit 8 (upd g_hit v1.toNatClampNeg ((g_hit v1.toNatClampNeg) ||| ((nI 1) <<< (v2 &&& 31)))), caI G a_lead 8 g_lead, caI G a_defeat 8 g_defeat, caI G a_defeater 8 g_defeater, ceX11 h0 a_w a_kept a_laid s_hasImage a_refusals a_row s_rows a_letters s_lettered a_hit a_lead a_defeat a_defeater s_ins s_outs a_order s_ordered a_is a_was s_reading s_isWell a_depths a_ways s_z, caI G a_w 43 g_w] := hD
          refine lv_iinc (v := v2 + nI 1) (lv' := [(2, .int (v2 + nI 1)), (0, .ref h0), (1, .int v1)]) hx hb dX11_reckons_83 hl (k := 2) rfl (congrArg (fun q => v2 + q) kc_1) (by decide) rfl (fun ls hl => ?_)
          refine lv_goto (tgt := 52) hx hb dX11_reckons_86 (by decide) ?_
          exact ih v1 (v2 + nI 1) (upd g_hit v1.toNatClampNeg ((g_hit v1.toNatClampNeg) ||| ((nI 1) <<< (v2 &&& 31)))) g_lead g_defeat g_defeater h _ _ _ (hP.sub [4, 5, 0, 1, 2, 3] rfl) (hD.sub [4, 5, 0, 1, 2, 3] (by decide) rfl) hS (lv_sub hl [1, 2, 0] rfl)
  have w2 : ∀ (n : Nat) (v1 : Int32) (g_hit : Nat → Int32) (g_lead : Nat → Int32) (g_defeat : Nat → Int32) (g_defeater : Nat → Int32) , wp_X11_reckons_2 post g_w n v1 g_hit g_lead g_defeat g_defeater → ∀ (H : Heap) (locs : List Loc) (ls : Array Slot), va_P G.1 vwCl [ceX11 h0 a_w a_kept a_laid s_hasImage a_refusals a_row s_rows a_letters s_lettered a_hit a_lead a_defeat a_defeater s_ins s_outs a_order s_ordered a_is a_was s_reading s_isWell a_depths a_ways s_z, caI G a_w 43 g_w, caI G a_hit 8 g_hit, caI G a_lead 8 g_lead, caI G a_defeat 8 g_defeat, caI G a_defeater 8 g_defeater] H → va_D A [ceX11 h0 a_w a_kept a_laid s_hasImage a_refusals a_row s_rows a_letters s_lettered a_hit a_lead a_defeat a_defeater s_ins s_outs a_order s_ordered a_is a_was s_reading s_isWell a_depths a_ways s_z, caI G a_w 43 g_w, caI G a_hit 8 g_hit, caI G a_lead 8 g_lead, caI G a_defeat 8 g_defeat, caI G a_defeater 8 g_defeater] → va_S A s.heap H locs → lv_has ls 3 [(0, .ref h0), (1, .int v1)] → W p l e (headSpec wsX11_reckons ({ frames := 3, cells := 0, slots := 0, locals := 64 })).room s m ([.ref h0] : List Value).toArray below meth c H locs 0 0 (MQ below (va_Qv (fun u : (Nat → Int32) × (Nat → Int32) × (Nat → Int32) × (Nat → Int32) => post u.1 u.2.1 u.2.2.1 u.2.2.2) (hcB G A (fun u : (Nat → Int32) × (Nat → Int32) × (Nat → Int32) × (Nat → Int32) => [ceX11 h0 a_w a_kept a_laid s_hasImage a_refusals a_row s_rows a_letters s_lettered a_hit a_lead a_defeat a_defeater s_ins s_outs a_order s_ordered a_is a_was s_reading s_isWell a_depths a_ways s_z, caI G a_w 43 g_w, caI G a_hit 8 u.1, caI G a_lead 8 u.2.1, caI G a_defeat 8 u.2.2.1, caI G a_defeater 8 u.2.2.2])) A) ([.ref h0] : List Value).toArray s 0 0 A) (F0 m 2 ls []) := by
    intro n
    induction n with
    | zero => intro v1 g_hit g_lead g_defeat g_defeater h; exact h.elim
    | succ n ih =>
      intro v1 g_hit g_lead g_defeat g_defeater h H locs ls hP hD hS hl
      unfold wp_X11_reckons_2 at h
      refine lv_iload_n hx hb dX11_reckons_2 rfl (lv_at hl 1 rfl) ?_
      refine lv_bipush (v := nI 8) hx hb dX11_reckons_3 kb_8 ?_
      refine lv_icmp_ge (tgt := 95) hx hb dX11_reckons_5 (by decide) (fun c => ?_) (fun c => ?_)
      · replace h := h.1 c
        refine lv_iconst (v := nI 0) hx hb dX11_reckons_95 kc_0 ?_
        refine lv_istore_n (lv' := [(1, .int (nI 0)), (0, .ref h0)]) hx hb dX11_reckons_96 rfl hl (by decide) rfl (fun ls hl => ?_)
        obtain ⟨n97, h⟩ := h
        exact w97  n97 (nI 0) g_hit g_lead g_defeat g_defeater h _ _ _ hP hD hS (lv_sub hl [1, 0] rfl)
      · replace h := h.2 c
        refine lv_aload_n hx hb dX11_reckons_8 rfl (lv_at hl 0 rfl) ?_
        refine va_get (D := G.1) (ci := 9) (v := .ref a_hit) (C := RX11) (T := TX11) (N := 24) hx hb hts ki_X11 hown hK.1 hP 0 rfl rfl 9 (by decide) kf2 (fun _ h9 => h9) rfl dX11_reckons_9 ?_
        refine lv_iload_n hx hb dX11_reckons_12 rfl (lv_at hl 1 rfl) ?_
        refine lv_iconst (v := nI 0) hx hb dX11_reckons_13 kc_0 ?_
        have hin := h.1
        replace h := h.2
        refine va_iast hx hb hK.1 hP hD hS 2 0 rfl rfl hin dX11_reckons_14 (fun H locs hP hD hS => ?_)
        have hP : va_P G.1 vwCl [ceX11 h0 a_w a_kept a_laid s_hasImage a_refusals a_row s_rows a_letters s_lettered a_hit a_lead a_defeat a_defeater s_ins s_outs a_order s_ordered a_is a_was s_reading s_isWell a_depths a_ways s_z, caI G a_w 43 g_w, caI G a_hit 8 (upd g_hit v1.toNatClampNeg (nI 0)), caI G a_lead 8 g_lead, caI G a_defeat 8 g_defeat, caI G a_defeater 8 g_defeater] H := hP
        have hD : va_D A [ceX11 h0 a_w a_kept a_laid s_hasImage a_refusals a_row s_rows a_letters s_lettered a_hit a_lead a_defeat a_defeater s_ins s_outs a_order s_ordered a_is a_was s_reading s_isWell a_depths a_ways s_z, caI G a_w 43 g_w, caI G a_hit 8 (upd g_hit v1.toNatClampNeg (nI 0)), caI G a_lead 8 g_lead, caI G a_defeat 8 g_defeat, caI G a_defeater 8 g_defeater] := hD
        refine lv_aload_n hx hb dX11_reckons_15 rfl (lv_at hl 0 rfl) ?_
        refine va_get (D := G.1) (ci := 9) (v := .ref a_lead) (C := RX11) (T := TX11) (N := 24) hx hb hts ki_X11 hown hK.1 hP 0 rfl rfl 10 (by decide) kf4 (fun _ h9 => h9) rfl dX11_reckons_16 ?_
        refine lv_iload_n hx hb dX11_reckons_19 rfl (lv_at hl 1 rfl) ?_
        refine lv_aload_n hx hb dX11_reckons_20 rfl (lv_at hl 0 rfl) ?_
        refine lv_iload_n hx hb dX11_reckons_21 rfl (lv_at hl 1 rfl) ?_
        refine hc_ki (wr := [caI G a_hit 8 (upd g_hit v1.toNatClampNeg (nI 0)), caI G a_lead 8 g_lead, caI G a_defeat 8 g_defeat, caI G a_defeater 8 g_defeater]) (va_runV (As := [.int v1]) (rest := [.int v1, .ref a_lead]) ⟨hx, hb, hml, hown, hts⟩ (c_X11_isHeard l G h0 a_w a_kept a_laid a_refusals a_row a_letters a_hit a_lead a_defeat a_defeater a_order a_is a_was a_depths a_ways H.size s_hasImage s_rows s_lettered s_ins s_outs s_ordered s_reading s_isWell s_z g_w v1 _ h) (cwV 1 hts gX11_reckons_X11_isHeard rfl rfl rfl (by decide +kernel) ⟨Nat.le_of_ble_eq_true rfl, Nat.le_of_ble_eq_true rfl⟩) (hc_pV hK hP hD [0, 1] rfl rfl (ci := 9) 0 rfl rfl) rfl rfl hl.1 rfl (lv_room (Nat.le_of_ble_eq_true rfl)) dX11_reckons_22 ⟨Nat.le_refl _, Nat.le_refl _⟩) hP hD hS hA [0, 1] [2, 3, 4, 5] rfl rfl rfl (by decide) (fun r22 u H locs h hP hD hS => ?_)
        try dsimp only at h
        have hP : va_P G.1 vwCl [caI G a_hit 8 (upd g_hit v1.toNatClampNeg (nI 0)), caI G a_lead 8 g_lead, caI G a_defeat 8 g_defeat, caI G a_defeater 8 g_defeater, ceX11 h0 a_w a_kept a_laid s_hasImage a_refusals a_row s_rows a_letters s_lettered a_hit a_lead a_defeat a_defeater s_ins s_outs a_order s_ordered a_is a_was s_reading s_isWell a_depths a_ways s_z, caI G a_w 43 g_w] H := hP
        have hD : va_D A [caI G a_hit 8 (upd g_hit v1.toNatClampNeg (nI 0)), caI G a_lead 8 g_lead, caI G a_defeat 8 g_defeat, caI G a_defeater 8 g_defeater, ceX11 h0 a_w a_kept a_laid s_hasImage a_refusals a_row s_rows a_letters s_lettered a_hit a_lead a_defeat a_defeater s_ins s_outs a_order s_ordered a_is a_was s_reading s_isWell a_depths a_ways s_z, caI G a_w 43 g_w] := hD
        refine lv_if_eq (tgt := 48) hx hb dX11_reckons_25 (by decide) (fun c => ?_) (fun c => ?_)
        · replace h := h.1 c
          refine lv_iconst (v := nI 0) hx hb dX11_reckons_48 kc_0 ?_
          have hin := h.1
          replace h := h.2
          refine va_iast hx hb hK.1 hP hD hS 1 0 rfl rfl hin dX11_reckons_49 (fun H locs hP hD hS => ?_)
          have hP : va_P G.1 vwCl [caI G a_hit 8 (upd g_hit v1.toNatClampNeg (nI 0)), caI G a_lead 8 (upd g_lead v1.toNatClampNeg (nI 0)), caI G a_defeat 8 g_defeat, caI G a_defeater 8 g_defeater, ceX11 h0 a_w a_kept a_laid s_hasImage a_refusals a_row s_rows a_letters s_lettered a_hit a_lead a_defeat a_defeater s_ins s_outs a_order s_ordered a_is a_was s_reading s_isWell a_depths a_ways s_z, caI G a_w 43 g_w] H := hP
          have hD : va_D A [caI G a_hit 8 (upd g_hit v1.toNatClampNeg (nI 0)), caI G a_lead 8 (upd g_lead v1.toNatClampNeg (nI 0)), caI G a_defeat 8 g_defeat, caI G a_defeater 8 g_defeater, ceX11 h0 a_w a_kept a_laid s_hasImage a_refusals a_row s_rows a_letters s_lettered a_hit a_lead a_defeat a_defeater s_ins s_outs a_order s_ordered a_is a_was s_reading s_isWell a_depths a_ways s_z, caI G a_w 43 g_w] := hD
          refine lv_iconst (v := nI 0) hx hb dX11_reckons_50 kc_0 ?_
          refine lv_istore_n (lv' := [(2, .int (nI 0)), (0, .ref h0), (1, .int v1)]) hx hb dX11_reckons_51 rfl hl (by decide) rfl (fun ls hl => ?_)
          obtain ⟨n52, h⟩ := h
          exact w52 ((wp_X11_reckons_2 post g_w n)) ih n52 v1 (nI 0) (upd g_hit v1.toNatClampNeg (nI 0)) (upd g_lead v1.toNatClampNeg (nI 0)) g_defeat g_defeater h _ _ _ (hP.sub [4, 5, 0, 1, 2, 3] rfl) (hD.sub [4, 5, 0, 1, 2, 3] (by decide) rfl) hS (lv_sub hl [1, 2, 0] rfl)
        · replace h := h.2 c
          refine lv_aload_n hx hb dX11_reckons_28 rfl (lv_at hl 0 rfl) ?_
          refine va_get (D := G.1) (ci := 9) (v := .ref a_w) (C := RX11) (T := TX11) (N := 24) hx hb hts ki_X11 hown hK.1 hP 4 rfl rfl 0 (by decide) kf3 (fun _ h9 => h9) rfl dX11_reckons_29 ?_
          refine lv_bipush (v := nI 32) hx hb dX11_reckons_32 kb_32 ?_
          refine lv_iload_n hx hb dX11_reckons_34 rfl (lv_at hl 1 rfl) ?_
          refine lv_iadd hx hb dX11_reckons_35 ?_
          have hin := h.1
          replace h := h.2
          refine va_iald hx hb hK.1 hP 5 0 rfl rfl hin dX11_reckons_36 ?_
          refine lv_aload_n hx hb dX11_reckons_37 rfl (lv_at hl 0 rfl) ?_
          refine va_get (D := G.1) (ci := 9) (v := .ref a_w) (C := RX11) (T := TX11) (N := 24) hx hb hts ki_X11 hown hK.1 hP 4 rfl rfl 0 (by decide) kf3 (fun _ h9 => h9) rfl dX11_reckons_38 ?_
          refine lv_bipush (v := nI 40) hx hb dX11_reckons_41 kb_40 ?_
          have hin := h.1
          replace h := h.2
          refine va_iald hx hb hK.1 hP 5 0 rfl rfl hin dX11_reckons_43 ?_
          refine lv_iand hx hb dX11_reckons_44 ?_
          refine lv_goto (tgt := 49) hx hb dX11_reckons_45 (by decide) ?_
          have hin := h.1
          replace h := h.2
          refine va_iast hx hb hK.1 hP hD hS 1 0 rfl rfl hin dX11_reckons_49 (fun H locs hP hD hS => ?_)
          have hP : va_P G.1 vwCl [caI G a_hit 8 (upd g_hit v1.toNatClampNeg (nI 0)), caI G a_lead 8 (upd g_lead v1.toNatClampNeg ((g_w ((nI 32) + v1).toNatClampNeg) &&& (g_w (nI 40).toNatClampNeg))), caI G a_defeat 8 g_defeat, caI G a_defeater 8 g_defeater, ceX11 h0 a_w a_kept a_laid s_hasImage a_refusals a_row s_rows a_letters s_lettered a_hit a_lead a_defeat a_defeater s_ins s_outs a_order s_ordered a_is a_was s_reading s_isWell a_depths a_ways s_z, caI G a_w 43 g_w] H := hP
          have hD : va_D A [caI G a_hit 8 (upd g_hit v1.toNatClampNeg (nI 0)), caI G a_lead 8 (upd g_lead v1.toNatClampNeg ((g_w ((nI 32) + v1).toNatClampNeg) &&& (g_w (nI 40).toNatClampNeg))), caI G a_defeat 8 g_defeat, caI G a_defeater 8 g_defeater, ceX11 h0 a_w a_kept a_laid s_hasImage a_refusals a_row s_rows a_letters s_lettered a_hit a_lead a_defeat a_defeater s_ins s_outs a_order s_ordered a_is a_was s_reading s_isWell a_depths a_ways s_z, caI G a_w 43 g_w] := hD
          refine lv_iconst (v := nI 0) hx hb dX11_reckons_50 kc_0 ?_
          refine lv_istore_n (lv' := [(2, .int (nI 0)), (0, .ref h0), (1, .int v1)]) hx hb dX11_reckons_51 rfl hl (by decide) rfl (fun ls hl => ?_)
          obtain ⟨n52, h⟩ := h
          exact w52 ((wp_X11_reckons_2 post g_w n)) ih n52 v1 (nI 0) (upd g_hit v1.toNatClampNeg (nI 0)) (upd g_lead v1.toNatClampNeg ((g_w ((nI 32) + v1).toNatClampNeg) &&& (g_w (nI 40).toNatClampNeg))) g_defeat g_defeater h _ _ _ (hP.sub [4, 5, 0, 1, 2, 3] rfl) (hD.sub [4, 5, 0, 1, 2, 3] (by decide) rfl) hS (lv_sub hl [1, 2, 0] rfl)
  unfold wp_X11_reckons at h
  refine lv_iconst (v := nI 0) hx hb dX11_reckons_0 kc_0 ?_
  refine lv_istore_n (lv' := [(1, .int (nI 0)), (0, .ref h0)]) hx hb dX11_reckons_1 rfl hl (by decide) rfl (fun ls hl => ?_)
  obtain ⟨n2, h⟩ := h
  exact w2  n2 (nI 0) g_hit g_lead g_defeat g_defeater h _ _ _ hP hD hS (lv_sub hl [1, 0] rfl)
set_option maxHeartbeats 4000000 in
set_option maxRecDepth 100000 in
theorem c_X11_nextIn (l : Launch) (G : hcG) (h0 : Nat) (a_w : Nat) (a_kept : Nat) (a_laid : Nat) (a_refusals : Nat) (a_row : Nat) (a_letters : Nat) (a_hit : Nat) (a_lead : Nat) (a_defeat : Nat) (a_defeater : Nat) (a_order : Nat) (a_is : Nat) (a_was : Nat) (a_depths : Nat) (a_ways : Nat) (sz : Nat) (s_hasImage : Int32) (s_rows : Int32) (s_lettered : Int32) (s_ins : Int32) (s_outs : Int32) (s_ordered : Int32) (s_reading : Int32) (s_isWell : Int32) (s_z : Int32) (g_w : Nat → Int32) (g_defeater : Nat → Int32) (post : Int32 → Prop) (h : wp_X11_nextIn post g_w g_defeater s_ins s_outs) : Met l yX11_nextIn wsX11_nextIn ({ frames := 2, cells := 0, slots := 0, locals := 42 }) (hcPc G [.ref h0] [ceX11 h0 a_w a_kept a_laid s_hasImage a_refusals a_row s_rows a_letters s_lettered a_hit a_lead a_defeat a_defeater s_ins s_outs a_order s_ordered a_is a_was s_reading s_isWell a_depths a_ways s_z, caI G a_w 43 g_w, caI G a_defeater 8 g_defeater] sz) (va_Qi (fun (r : Int32) (u : Unit) => post r) (hcB G (va_A [ceX11 h0 a_w a_kept a_laid s_hasImage a_refusals a_row s_rows a_letters s_lettered a_hit a_lead a_defeat a_defeater s_ins s_outs a_order s_ordered a_is a_was s_reading s_isWell a_depths a_ways s_z, caI G a_w 43 g_w, caI G a_defeater 8 g_defeater] sz) (fun u : Unit => [ceX11 h0 a_w a_kept a_laid s_hasImage a_refusals a_row s_rows a_letters s_lettered a_hit a_lead a_defeat a_defeater s_ins s_outs a_order s_ordered a_is a_was s_reading s_isWell a_depths a_ways s_z, caI G a_w 43 g_w, caI G a_defeater 8 g_defeater])) (va_A [ceX11 h0 a_w a_kept a_laid s_hasImage a_refusals a_row s_rows a_letters s_lettered a_hit a_lead a_defeat a_defeater s_ins s_outs a_order s_ordered a_is a_was s_reading s_isWell a_depths a_ways s_z, caI G a_w 43 g_w, caI G a_defeater 8 g_defeater] sz)) 0 0 (va_A [ceX11 h0 a_w a_kept a_laid s_hasImage a_refusals a_row s_rows a_letters s_lettered a_hit a_lead a_defeat a_defeater s_ins s_outs a_order s_ordered a_is a_was s_reading s_isWell a_depths a_ways s_z, caI G a_w 43 g_w, caI G a_defeater 8 g_defeater] sz) := by
  refine Met.ofW (cc := cX11_nextIn) (maxL := 4) (ret := (some .int)) (by decide) rfl ?_
  intro p e s m args below meth c s₁ B hml hv
  obtain ⟨rfl, hsz, hP, hK, hD0⟩ := hv
  have hx := B.exec
  have hb := B.bytes
  have hr := B.returns
  have hts := atoms_spec (ws := wsX11_nextIn) B.pre
  have hown : s.vm.findClass RX11 = some m.cls := findClass_of_methodNamed B.named
  have hlocks := B.notSynchronized
  subst hsz
  have hD := hD0.self (sz := s.heap.size)
  generalize hAe : va_A [ceX11 h0 a_w a_kept a_laid s_hasImage a_refusals a_row s_rows a_letters s_lettered a_hit a_lead a_defeat a_defeater s_ins s_outs a_order s_ordered a_is a_was s_reading s_isWell a_depths a_ways s_z, caI G a_w 43 g_w, caI G a_defeater 8 g_defeater] s.heap.size = A at hD ⊢
  have hA : ∀ q : Nat, s.heap.size ≤ q → A q := fun q h => by rw [← hAe]; exact Or.inr h
  have hS : va_S A s.heap s.heap [] := va_S.rf
  have hP : va_P G.1 vwCl [ceX11 h0 a_w a_kept a_laid s_hasImage a_refusals a_row s_rows a_letters s_lettered a_hit a_lead a_defeat a_defeater s_ins s_outs a_order s_ordered a_is a_was s_reading s_isWell a_depths a_ways s_z, caI G a_w 43 g_w, caI G a_defeater 8 g_defeater] s.heap := hP
  have hl := lv_entry ([.ref h0]) (n := 4) (Nat.le_of_ble_eq_true rfl)
  rw [lg_entry_eq]
  generalize (lg_sl ([.ref h0]) ++ List.replicate (4 - (lg_sl ([.ref h0])).length) Slot.unset).toArray = ls at hl ⊢
  have hl : lv_has ls 4 [(0, .ref h0)] := hl
  have kf0 := hts (.fieldLink RX11 9 "HallOfClaimsModel" "w" "[I") (List.mem_of_getElem? (i := 1) (by decide +kernel))
  have kf1 := hts (.fieldLink RX11 79 "HallOfClaimsModel" "ins" "I") (List.mem_of_getElem? (i := 2) (by decide +kernel))
  have kf2 := hts (.fieldLink RX11 83 "HallOfClaimsModel" "outs" "I") (List.mem_of_getElem? (i := 3) (by decide +kernel))
  have kf3 := hts (.fieldLink RX11 37 "HallOfClaimsModel" "defeater" "[I") (List.mem_of_getElem? (i := 4) (by decide +kernel))
  have ki_X11 : ∀ w ∈ u_ws RX11 TX11 24, w ∈ wsX11_nextIn := by decide +kernel
  have w60 : ∀ (K4 : Int32 → Int32 → Prop), (∀ (v1 : Int32) (v2 : Int32) , K4 v1 v2 → ∀ (H : Heap) (locs : List Loc) (ls : Array Slot), va_P G.1 vwCl [ceX11 h0 a_w a_kept a_laid s_hasImage a_refusals a_row s_rows a_letters s_lettered a_hit a_lead a_defeat a_defeater s_ins s_outs a_order s_ordered a_is a_was s_reading s_isWell a_depths a_ways s_z, caI G a_w 43 g_w, caI G a_defeater 8 g_defeater] H → va_D A [ceX11 h0 a_w a_kept a_laid s_hasImage a_refusals a_row s_rows a_letters s_lettered a_hit a_lead a_defeat a_defeater s_ins s_outs a_order s_ordered a_is a_was s_reading s_isWell a_depths a_ways s_z, caI G a_w 43 g_w, caI G a_defeater 8 g_defeater] → va_S A s.heap H locs → lv_has ls 4 [(0, .ref h0), (1, .int v1), (2, .int v2)] → W p l e (headSpec wsX11_nextIn ({ frames := 2, cells := 0, slots := 0, locals := 42 })).room s m ([.ref h0] : List Value).toArray below meth c H locs 0 0 (MQ below (va_Qi (fun (r : Int32) (u : Unit) => post r) (hcB G A (fun u : Unit => [ceX11 h0 a_w a_kept a_laid s_hasImage a_refusals a_row s_rows a_letters s_lettered a_hit a_lead a_defeat a_defeater s_ins s_outs a_order s_ordered a_is a_was s_reading s_isWell a_depths a_ways s_z, caI G a_w 43 g_w, caI G a_defeater 8 g_defeater])) A) ([.ref h0] : List Value).toArray s 0 0 A) (F0 m 4 ls [])) → ∀ (v1 : Int32) (v2 : Int32) (t0 : Int32) , wp_X11_nextIn_60 post g_w g_defeater s_ins s_outs K4 v1 v2 t0 → ∀ (H : Heap) (locs : List Loc) (ls : Array Slot), va_P G.1 vwCl [ceX11 h0 a_w a_kept a_laid s_hasImage a_refusals a_row s_rows a_letters s_lettered a_hit a_lead a_defeat a_defeater s_ins s_outs a_order s_ordered a_is a_was s_reading s_isWell a_depths a_ways s_z, caI G a_w 43 g_w, caI G a_defeater 8 g_defeater] H → va_D A [ceX11 h0 a_w a_kept a_laid s_hasImage a_refusals a_row s_rows a_letters s_lettered a_hit a_lead a_defeat a_defeater s_ins s_outs a_order s_ordered a_is a_was s_reading s_isWell a_depths a_ways s_z, caI G a_w 43 g_w, caI G a_defeater 8 g_defeater] → va_S A s.heap H locs → lv_has ls 4 [(0, .ref h0), (1, .int v1), (2, .int v2)] → W p l e (headSpec wsX11_nextIn ({ frames := 2, cells := 0, slots := 0, locals := 42 })).room s m ([.ref h0] : List Value).toArray below meth c H locs 0 0 (MQ below (va_Qi (fun (r : Int32) (u : Unit) => post r) (hcB G A (fun u : Unit => [ceX11 h0 a_w a_kept a_laid s_hasImage a_refusals a_row s_rows a_letters s_lettered a_hit a_lead a_defeat a_defeater s_ins s_outs a_order s_ordered a_is a_was s_reading s_isWell a_depths a_ways s_z, caI G a_w 43 g_w, caI G a_defeater 8 g_defeater])) A) ([.ref h0] : List Value).toArray s 0 0 A) (F0 m 60 ls [.int t0]) := by
    intro K4 hK4 v1 v2 t0 h H locs ls hP hD hS hl
    unfold wp_X11_nextIn_60 at h
    refine lv_istore_n (lv' := [(3, .int t0), (0, .ref h0), (1, .int v1), (2, .int v2)]) hx hb dX11_nextIn_60 rfl hl (by decide) rfl (fun ls hl => ?_)
    refine lv_iload_n hx hb dX11_nextIn_61 rfl (lv_at hl 0 rfl) ?_
    refine lv_if_eq (tgt := 92) hx hb dX11_nextIn_62 (by decide) (fun c => ?_) (fun c => ?_)
    · replace h := h.1 c
      refine lv_iinc (v := v2 + nI 1) (lv' := [(2, .int (v2 + nI 1)), (3, .int t0), (0, .ref h0), (1, .int v1)]) hx hb dX11_nextIn_92 hl (k := 3) rfl (congrArg (fun q => v2 + q) kc_1) (by decide) rfl (fun ls hl => ?_)
      refine lv_goto (tgt := 4) hx hb dX11_nextIn_95 (by decide) ?_
      exact hK4 v1 (v2 + nI 1) h _ _ _ hP hD hS (lv_sub hl [2, 3, 0] rfl)
    · replace h := h.2 c
      refine lv_iload_n hx hb dX11_nextIn_65 rfl (lv_at hl 2 rfl) ?_
      refine lv_if_lt (tgt := 90) hx hb dX11_nextIn_66 (by decide) (fun c => ?_) (fun c => ?_)
      · replace h := h.1 c
        refine lv_iload_n hx hb dX11_nextIn_90 rfl (lv_at hl 3 rfl) ?_
        refine lv_istore_n (lv' := [(1, .int v2), (3, .int t0), (0, .ref h0), (2, .int v2)]) hx hb dX11_nextIn_91 rfl hl (by decide) rfl (fun ls hl => ?_)
        refine lv_iinc (v := v2 + nI 1) (lv' := [(2, .int (v2 + nI 1)), (1, .int v2), (3, .int t0), (0, .ref h0)]) hx hb dX11_nextIn_92 hl (k := 3) rfl (congrArg (fun q => v2 + q) kc_1) (by decide) rfl (fun ls hl => ?_)
        refine lv_goto (tgt := 4) hx hb dX11_nextIn_95 (by decide) ?_
        exact hK4 v2 (v2 + nI 1) h _ _ _ hP hD hS (lv_sub hl [3, 1, 0] rfl)
      · replace h := h.2 c
        refine lv_aload_n hx hb dX11_nextIn_69 rfl (lv_at hl 1 rfl) ?_
        refine va_get (D := G.1) (ci := 9) (v := .ref a_w) (C := RX11) (T := TX11) (N := 24) hx hb hts ki_X11 hown hK.1 hP 0 rfl rfl 0 (by decide) kf0 (fun _ h9 => h9) rfl dX11_nextIn_70 ?_
        refine lv_bipush (v := nI 8) hx hb dX11_nextIn_73 kb_8 ?_
        refine lv_iload_n hx hb dX11_nextIn_75 rfl (lv_at hl 3 rfl) ?_
        refine lv_iadd hx hb dX11_nextIn_76 ?_
        have hin := h.1
        replace h := h.2
        refine va_iald hx hb hK.1 hP 1 0 rfl rfl hin dX11_nextIn_77 ?_
        refine lv_aload_n hx hb dX11_nextIn_78 rfl (lv_at hl 1 rfl) ?_
        refine va_get (D := G.1) (ci := 9) (v := .ref a_w) (C := RX11) (T := TX11) (N := 24) hx hb hts ki_X11 hown hK.1 hP 0 rfl rfl 0 (by decide) kf0 (fun _ h9 => h9) rfl dX11_nextIn_79 ?_
        refine lv_bipush (v := nI 8) hx hb dX11_nextIn_82 kb_8 ?_
        refine lv_iload_n hx hb dX11_nextIn_84 rfl (lv_at hl 2 rfl) ?_
        refine lv_iadd hx hb dX11_nextIn_85 ?_
        have hin := h.1
        replace h := h.2
        refine va_iald hx hb hK.1 hP 1 0 rfl rfl hin dX11_nextIn_86 ?_
        refine lv_icmp_le (tgt := 92) hx hb dX11_nextIn_87 (by decide) (fun c => ?_) (fun c => ?_)
        · replace h := h.1 c
          refine lv_iinc (v := v2 + nI 1) (lv' := [(2, .int (v2 + nI 1)), (3, .int t0), (0, .ref h0), (1, .int v1)]) hx hb dX11_nextIn_92 hl (k := 3) rfl (congrArg (fun q => v2 + q) kc_1) (by decide) rfl (fun ls hl => ?_)
          refine lv_goto (tgt := 4) hx hb dX11_nextIn_95 (by decide) ?_
          exact hK4 v1 (v2 + nI 1) h _ _ _ hP hD hS (lv_sub hl [2, 3, 0] rfl)
        · replace h := h.2 c
          refine lv_iload_n hx hb dX11_nextIn_90 rfl (lv_at hl 3 rfl) ?_
          refine lv_istore_n (lv' := [(1, .int v2), (3, .int t0), (0, .ref h0), (2, .int v2)]) hx hb dX11_nextIn_91 rfl hl (by decide) rfl (fun ls hl => ?_)
          refine lv_iinc (v := v2 + nI 1) (lv' := [(2, .int (v2 + nI 1)), (1, .int v2), (3, .int t0), (0, .ref h0)]) hx hb dX11_nextIn_92 hl (k := 3) rfl (congrArg (fun q => v2 + q) kc_1) (by decide) rfl (fun ls hl => ?_)
          refine lv_goto (tgt := 4) hx hb dX11_nextIn_95 (by decide) ?_
          exact hK4 v2 (v2 + nI 1) h _ _ _ hP hD hS (lv_sub hl [3, 1, 0] rfl)
  have w4 : ∀ (n : Nat) (v1 : Int32) (v2 : Int32) , wp_X11_nextIn_4 post g_w g_defeater s_ins s_outs n v1 v2 → ∀ (H : Heap) (locs : List Loc) (ls : Array Slot), va_P G.1 vwCl [ceX11 h0 a_w a_kept a_laid s_hasImage a_refusals a_row s_rows a_letters s_lettered a_hit a_lead a_defeat a_defeater s_ins s_outs a_order s_ordered a_is a_was s_reading s_isWell a_depths a_ways s_z, caI G a_w 43 g_w, caI G a_defeater 8 g_defeater] H → va_D A [ceX11 h0 a_w a_kept a_laid s_hasImage a_refusals a_row s_rows a_letters s_lettered a_hit a_lead a_defeat a_defeater s_ins s_outs a_order s_ordered a_is a_was s_reading s_isWell a_depths a_ways s_z, caI G a_w 43 g_w, caI G a_defeater 8 g_defeater] → va_S A s.heap H locs → lv_has ls 4 [(0, .ref h0), (1, .int v1), (2, .int v2)] → W p l e (headSpec wsX11_nextIn ({ frames := 2, cells := 0, slots := 0, locals := 42 })).room s m ([.ref h0] : List Value).toArray below meth c H locs 0 0 (MQ below (va_Qi (fun (r : Int32) (u : Unit) => post r) (hcB G A (fun u : Unit => [ceX11 h0 a_w a_kept a_laid s_hasImage a_refusals a_row s_rows a_letters s_lettered a_hit a_lead a_defeat a_defeater s_ins s_outs a_order s_ordered a_is a_was s_reading s_isWell a_depths a_ways s_z, caI G a_w 43 g_w, caI G a_defeater 8 g_defeater])) A) ([.ref h0] : List Value).toArray s 0 0 A) (F0 m 4 ls []) := by
    intro n
    induction n with
    | zero => intro v1 v2 h; exact h.elim
    | succ n ih =>
      intro v1 v2 h H locs ls hP hD hS hl
      unfold wp_X11_nextIn_4 at h
      refine lv_iload_n hx hb dX11_nextIn_4 rfl (lv_at hl 2 rfl) ?_
      refine lv_aload_n hx hb dX11_nextIn_5 rfl (lv_at hl 0 rfl) ?_
      refine va_get (D := G.1) (ci := 9) (v := .ref a_w) (C := RX11) (T := TX11) (N := 24) hx hb hts ki_X11 hown hK.1 hP 0 rfl rfl 0 (by decide) kf0 (fun _ h9 => h9) rfl dX11_nextIn_6 ?_
      refine lv_bipush (v := nI 42) hx hb dX11_nextIn_9 kb_42 ?_
      have hin := h.1
      replace h := h.2
      refine va_iald hx hb hK.1 hP 1 0 rfl rfl hin dX11_nextIn_11 ?_
      refine lv_icmp_ge (tgt := 98) hx hb dX11_nextIn_12 (by decide) (fun c => ?_) (fun c => ?_)
      · replace h := h.1 c
        refine lv_iload_n hx hb dX11_nextIn_98 rfl (lv_at hl 1 rfl) ?_
        exact W.iret (v := v1) hx hb hr (fun t ht hW => ⟨⟨_, (), rfl, h, ⟨by rw [ht]; exact hP, hD⟩⟩, hS.F ht⟩) hS.2.2 dX11_nextIn_99
      · replace h := h.2 c
        refine lv_aload_n hx hb dX11_nextIn_15 rfl (lv_at hl 0 rfl) ?_
        refine lv_iload_n hx hb dX11_nextIn_16 rfl (lv_at hl 2 rfl) ?_
        refine hc_ki (wr := [caI G a_defeater 8 g_defeater]) (va_runV (As := [.int v2]) (rest := []) ⟨hx, hb, hml, hown, hts⟩ (c_X11_isHeard l G h0 a_w a_kept a_laid a_refusals a_row a_letters a_hit a_lead a_defeat a_defeater a_order a_is a_was a_depths a_ways H.size s_hasImage s_rows s_lettered s_ins s_outs s_ordered s_reading s_isWell s_z g_w v2 _ h) (cwV 1 hts gX11_nextIn_X11_isHeard rfl rfl rfl (by decide +kernel) ⟨Nat.le_of_ble_eq_true rfl, Nat.le_of_ble_eq_true rfl⟩) (hc_pV hK hP hD [0, 1] rfl rfl (ci := 9) 0 rfl rfl) rfl rfl hl.1 rfl (lv_room (Nat.le_of_ble_eq_true rfl)) dX11_nextIn_17 ⟨Nat.le_refl _, Nat.le_refl _⟩) hP hD hS hA [0, 1] [2] rfl rfl rfl (by decide) (fun r17 u H locs h hP hD hS => ?_)
        try dsimp only at h
        have hP : va_P G.1 vwCl [caI G a_defeater 8 g_defeater, ceX11 h0 a_w a_kept a_laid s_hasImage a_refusals a_row s_rows a_letters s_lettered a_hit a_lead a_defeat a_defeater s_ins s_outs a_order s_ordered a_is a_was s_reading s_isWell a_depths a_ways s_z, caI G a_w 43 g_w] H := hP
        have hD : va_D A [caI G a_defeater 8 g_defeater, ceX11 h0 a_w a_kept a_laid s_hasImage a_refusals a_row s_rows a_letters s_lettered a_hit a_lead a_defeat a_defeater s_ins s_outs a_order s_ordered a_is a_was s_reading s_isWell a_depths a_ways s_z, caI G a_w 43 g_w] := hD
        refine lv_if_eq (tgt := 59) hx hb dX11_nextIn_20 (by decide) (fun c => ?_) (fun c => ?_)
        · replace h := h.1 c
          refine lv_iconst (v := nI 0) hx hb dX11_nextIn_59 kc_0 ?_
          exact w60 ((wp_X11_nextIn_4 post g_w g_defeater s_ins s_outs n)) ih v1 v2 (nI 0) h _ _ _ (hP.sub [1, 2, 0] rfl) (hD.sub [1, 2, 0] (by decide) rfl) hS (lv_sub hl [0, 1, 2] rfl)
        · replace h := h.2 c
          refine lv_aload_n hx hb dX11_nextIn_23 rfl (lv_at hl 0 rfl) ?_
          refine va_get (D := G.1) (ci := 9) (v := .int s_ins) (C := RX11) (T := TX11) (N := 24) hx hb hts ki_X11 hown hK.1 hP 1 rfl rfl 13 (by decide) kf1 (fun _ h9 => h9) rfl dX11_nextIn_24 ?_
          refine lv_aload_n hx hb dX11_nextIn_27 rfl (lv_at hl 0 rfl) ?_
          refine va_get (D := G.1) (ci := 9) (v := .int s_outs) (C := RX11) (T := TX11) (N := 24) hx hb hts ki_X11 hown hK.1 hP 1 rfl rfl 14 (by decide) kf2 (fun _ h9 => h9) rfl dX11_nextIn_28 ?_
          refine lv_ior hx hb dX11_nextIn_31 ?_
          refine lv_iload_n hx hb dX11_nextIn_32 rfl (lv_at hl 2 rfl) ?_
          refine hc_ki (wr := [caI G a_defeater 8 g_defeater, ceX11 h0 a_w a_kept a_laid s_hasImage a_refusals a_row s_rows a_letters s_lettered a_hit a_lead a_defeat a_defeater s_ins s_outs a_order s_ordered a_is a_was s_reading s_isWell a_depths a_ways s_z, caI G a_w 43 g_w]) (va_runS (As := [.int (s_ins ||| s_outs), .int v2]) (rest := []) ⟨hx, hb, hml, hown, hts⟩ (c_X11_has l G H.size (s_ins ||| s_outs) v2 _ h) (va_cwS 2 hts gX11_nextIn_X11_has rfl rfl rfl (by decide +kernel) ⟨Nat.le_of_ble_eq_true rfl, Nat.le_of_ble_eq_true rfl⟩) (hc_pS hK hP hD [] rfl rfl) rfl rfl hl.1 rfl (lv_room (Nat.le_of_ble_eq_true rfl)) dX11_nextIn_33 ⟨Nat.le_refl _, Nat.le_refl _⟩) hP hD hS hA [] [0, 1, 2] rfl rfl rfl (by decide) (fun r33 u H locs h hP hD hS => ?_)
          try dsimp only at h
          have hP : va_P G.1 vwCl [caI G a_defeater 8 g_defeater, ceX11 h0 a_w a_kept a_laid s_hasImage a_refusals a_row s_rows a_letters s_lettered a_hit a_lead a_defeat a_defeater s_ins s_outs a_order s_ordered a_is a_was s_reading s_isWell a_depths a_ways s_z, caI G a_w 43 g_w] H := hP
          have hD : va_D A [caI G a_defeater 8 g_defeater, ceX11 h0 a_w a_kept a_laid s_hasImage a_refusals a_row s_rows a_letters s_lettered a_hit a_lead a_defeat a_defeater s_ins s_outs a_order s_ordered a_is a_was s_reading s_isWell a_depths a_ways s_z, caI G a_w 43 g_w] := hD
          refine lv_if_ne (tgt := 59) hx hb dX11_nextIn_36 (by decide) (fun c => ?_) (fun c => ?_)
          · replace h := h.1 c
            refine lv_iconst (v := nI 0) hx hb dX11_nextIn_59 kc_0 ?_
            exact w60 ((wp_X11_nextIn_4 post g_w g_defeater s_ins s_outs n)) ih v1 v2 (nI 0) h _ _ _ (hP.sub [1, 2, 0] rfl) (hD.sub [1, 2, 0] (by decide) rfl) hS (lv_sub hl [0, 1, 2] rfl)
          · replace h := h.2 c
            refine lv_aload_n hx hb dX11_nextIn_39 rfl (lv_at hl 0 rfl) ?_
            refine va_get (D := G.1) (ci := 9) (v := .ref a_defeater) (C := RX11) (T := TX11) (N := 24) hx hb hts ki_X11 hown hK.1 hP 1 rfl rfl 12 (by decide) kf3 (fun _ h9 => h9) rfl dX11_nextIn_40 ?_
            refine lv_iload_n hx hb dX11_nextIn_43 rfl (lv_at hl 2 rfl) ?_
            have hin := h.1
            replace h := h.2
            refine va_iald hx hb hK.1 hP 0 0 rfl rfl hin dX11_nextIn_44 ?_
            refine lv_aload_n hx hb dX11_nextIn_45 rfl (lv_at hl 0 rfl) ?_
            refine va_get (D := G.1) (ci := 9) (v := .int s_outs) (C := RX11) (T := TX11) (N := 24) hx hb hts ki_X11 hown hK.1 hP 1 rfl rfl 14 (by decide) kf2 (fun _ h9 => h9) rfl dX11_nextIn_46 ?_
            refine lv_iconst (v := (-1 : Int32)) hx hb dX11_nextIn_49 kc_m1 ?_
            refine lv_ixor hx hb dX11_nextIn_50 ?_
            refine lv_iand hx hb dX11_nextIn_51 ?_
            refine lv_if_ne (tgt := 59) hx hb dX11_nextIn_52 (by decide) (fun c => ?_) (fun c => ?_)
            · replace h := h.1 c
              refine lv_iconst (v := nI 0) hx hb dX11_nextIn_59 kc_0 ?_
              exact w60 ((wp_X11_nextIn_4 post g_w g_defeater s_ins s_outs n)) ih v1 v2 (nI 0) h _ _ _ (hP.sub [1, 2, 0] rfl) (hD.sub [1, 2, 0] (by decide) rfl) hS (lv_sub hl [0, 1, 2] rfl)
            · replace h := h.2 c
              refine lv_iconst (v := nI 1) hx hb dX11_nextIn_55 kc_1 ?_
              refine lv_goto (tgt := 60) hx hb dX11_nextIn_56 (by decide) ?_
              exact w60 ((wp_X11_nextIn_4 post g_w g_defeater s_ins s_outs n)) ih v1 v2 (nI 1) h _ _ _ (hP.sub [1, 2, 0] rfl) (hD.sub [1, 2, 0] (by decide) rfl) hS (lv_sub hl [0, 1, 2] rfl)
  unfold wp_X11_nextIn at h
  refine lv_iconst (v := (-1 : Int32)) hx hb dX11_nextIn_0 kc_m1 ?_
  refine lv_istore_n (lv' := [(1, .int ((-1 : Int32))), (0, .ref h0)]) hx hb dX11_nextIn_1 rfl hl (by decide) rfl (fun ls hl => ?_)
  refine lv_iconst (v := nI 0) hx hb dX11_nextIn_2 kc_0 ?_
  refine lv_istore_n (lv' := [(2, .int (nI 0)), (1, .int ((-1 : Int32))), (0, .ref h0)]) hx hb dX11_nextIn_3 rfl hl (by decide) rfl (fun ls hl => ?_)
  obtain ⟨n4, h⟩ := h
  exact w4  n4 ((-1 : Int32)) (nI 0) h _ _ _ hP hD hS (lv_sub hl [2, 1, 0] rfl)
set_option maxHeartbeats 4000000 in
set_option maxRecDepth 100000 in
theorem c_X11_turnsAll (l : Launch) (G : hcG) (h0 : Nat) (a_w : Nat) (a_kept : Nat) (a_laid : Nat) (a_refusals : Nat) (a_row : Nat) (a_letters : Nat) (a_hit : Nat) (a_lead : Nat) (a_defeat : Nat) (a_defeater : Nat) (a_order : Nat) (a_is : Nat) (a_was : Nat) (a_depths : Nat) (a_ways : Nat) (sz : Nat) (s_hasImage : Int32) (s_rows : Int32) (s_lettered : Int32) (s_ins : Int32) (s_outs : Int32) (s_ordered : Int32) (s_reading : Int32) (s_isWell : Int32) (s_z : Int32) (g_w : Nat → Int32) (g_hit : Nat → Int32) (g_lead : Nat → Int32) (g_defeat : Nat → Int32) (g_defeater : Nat → Int32) (g_order : Nat → Int32) (post : (Nat → Int32) → (Nat → Int32) → (Nat → Int32) → (Nat → Int32) → Int32 → Int32 → (Nat → Int32) → Int32 → Prop) (h : wp_X11_turnsAll post g_w g_hit g_lead g_defeat g_defeater s_ins s_outs g_order s_ordered) : Met l yX11_turnsAll wsX11_turnsAll ({ frames := 4, cells := 0, slots := 0, locals := 86 }) (hcPc G [.ref h0] [ceX11 h0 a_w a_kept a_laid s_hasImage a_refusals a_row s_rows a_letters s_lettered a_hit a_lead a_defeat a_defeater s_ins s_outs a_order s_ordered a_is a_was s_reading s_isWell a_depths a_ways s_z, caI G a_w 43 g_w, caI G a_hit 8 g_hit, caI G a_lead 8 g_lead, caI G a_defeat 8 g_defeat, caI G a_defeater 8 g_defeater, caI G a_order 8 g_order] sz) (va_Qv (fun u : (Nat → Int32) × (Nat → Int32) × (Nat → Int32) × (Nat → Int32) × Int32 × Int32 × (Nat → Int32) × Int32 => post u.1 u.2.1 u.2.2.1 u.2.2.2.1 u.2.2.2.2.1 u.2.2.2.2.2.1 u.2.2.2.2.2.2.1 u.2.2.2.2.2.2.2) (hcB G (va_A [ceX11 h0 a_w a_kept a_laid s_hasImage a_refusals a_row s_rows a_letters s_lettered a_hit a_lead a_defeat a_defeater s_ins s_outs a_order s_ordered a_is a_was s_reading s_isWell a_depths a_ways s_z, caI G a_w 43 g_w, caI G a_hit 8 g_hit, caI G a_lead 8 g_lead, caI G a_defeat 8 g_defeat, caI G a_defeater 8 g_defeater, caI G a_order 8 g_order] sz) (fun u : (Nat → Int32) × (Nat → Int32) × (Nat → Int32) × (Nat → Int32) × Int32 × Int32 × (Nat → Int32) × Int32 => [ceX11 h0 a_w a_kept a_laid s_hasImage a_refusals a_row s_rows a_letters s_lettered a_hit a_lead a_defeat a_defeater u.2.2.2.2.1 u.2.2.2.2.2.1 a_order u.2.2.2.2.2.2.2 a_is a_was s_reading s_isWell a_depths a_ways s_z, caI G a_w 43 g_w, caI G a_hit 8 u.1, caI G a_lead 8 u.2.1, caI G a_defeat 8 u.2.2.1, caI G a_defeater 8 u.2.2.2.1, caI G a_order 8 u.2.2.2.2.2.2.1])) (va_A [ceX11 h0 a_w a_kept a_laid s_hasImage a_refusals a_row s_rows a_letters s_lettered a_hit a_lead a_defeat a_defeater s_ins s_outs a_order s_ordered a_is a_was s_reading s_isWell a_depths a_ways s_z, caI G a_w 43 g_w, caI G a_hit 8 g_hit, caI G a_lead 8 g_lead, caI G a_defeat 8 g_defeat, caI G a_defeater 8 g_defeater, caI G a_order 8 g_order] sz)) 0 0 (va_A [ceX11 h0 a_w a_kept a_laid s_hasImage a_refusals a_row s_rows a_letters s_lettered a_hit a_lead a_defeat a_defeater s_ins s_outs a_order s_ordered a_is a_was s_reading s_isWell a_depths a_ways s_z, caI G a_w 43 g_w, caI G a_hit 8 g_hit, caI G a_lead 8 g_lead, caI G a_defeat 8 g_defeat, caI G a_defeater 8 g_defeater, caI G a_order 8 g_order] sz) := by
  refine Met.ofW (cc := cX11_turnsAll) (maxL := 2) (ret := none) (by decide) rfl ?_
  intro p e s m args below meth c s₁ B hml hv
  obtain ⟨rfl, hsz, hP, hK, hD0⟩ := hv
  have hx := B.exec
  have hb := B.bytes
  have hr := B.returns
  have hts := atoms_spec (ws := wsX11_turnsAll) B.pre
  have hown : s.vm.findClass RX11 = some m.cls := findClass_of_methodNamed B.named
  have hlocks := B.notSynchronized
  subst hsz
  have hD := hD0.self (sz := s.heap.size)
  generalize hAe : va_A [ceX11 h0 a_w a_kept a_laid s_hasImage a_refusals a_row s_rows a_letters s_lettered a_hit a_lead a_defeat a_defeater s_ins s_outs a_order s_ordered a_is a_was s_reading s_isWell a_depths a_ways s_z, caI G a_w 43 g_w, caI G a_hit 8 g_hit, caI G a_lead 8 g_lead, caI G a_defeat 8 g_defeat, caI G a_defeater 8 g_defeater, caI G a_order 8 g_order] s.heap.size = A at hD ⊢
  have hA : ∀ q : Nat, s.heap.size ≤ q → A q := fun q h => by rw [← hAe]; exact Or.inr h
  have hS : va_S A s.heap s.heap [] := va_S.rf
  have hP : va_P G.1 vwCl [ceX11 h0 a_w a_kept a_laid s_hasImage a_refusals a_row s_rows a_letters s_lettered a_hit a_lead a_defeat a_defeater s_ins s_outs a_order s_ordered a_is a_was s_reading s_isWell a_depths a_ways s_z, caI G a_w 43 g_w, caI G a_hit 8 g_hit, caI G a_lead 8 g_lead, caI G a_defeat 8 g_defeat, caI G a_defeater 8 g_defeater, caI G a_order 8 g_order] s.heap := hP
  have hl := lv_entry ([.ref h0]) (n := 2) (Nat.le_of_ble_eq_true rfl)
  rw [lg_entry_eq]
  generalize (lg_sl ([.ref h0]) ++ List.replicate (2 - (lg_sl ([.ref h0])).length) Slot.unset).toArray = ls at hl ⊢
  have hl : lv_has ls 2 [(0, .ref h0)] := hl
  have kf0 := hts (.fieldLink RX11 79 "HallOfClaimsModel" "ins" "I") (List.mem_of_getElem? (i := 1) (by decide +kernel))
  have kf1 := hts (.fieldLink RX11 83 "HallOfClaimsModel" "outs" "I") (List.mem_of_getElem? (i := 2) (by decide +kernel))
  have kf2 := hts (.fieldLink RX11 89 "HallOfClaimsModel" "ordered" "I") (List.mem_of_getElem? (i := 3) (by decide +kernel))
  have kf3 := hts (.fieldLink RX11 34 "HallOfClaimsModel" "defeat" "[I") (List.mem_of_getElem? (i := 4) (by decide +kernel))
  have kf4 := hts (.fieldLink RX11 40 "HallOfClaimsModel" "order" "[I") (List.mem_of_getElem? (i := 5) (by decide +kernel))
  have ki_X11 : ∀ w ∈ u_ws RX11 TX11 24, w ∈ wsX11_turnsAll := by decide +kernel
  have w24 : ∀ (n : Nat) (v1 : Int32) (g_hit : Nat → Int32) (g_lead : Nat → Int32) (g_defeat : Nat → Int32) (g_defeater : Nat → Int32) (s_ins : Int32) (s_outs : Int32) (g_order : Nat → Int32) (s_ordered : Int32) , wp_X11_turnsAll_24 post g_w n v1 g_hit g_lead g_defeat g_defeater s_ins s_outs g_order s_ordered → ∀ (H : Heap) (locs : List Loc) (ls : Array Slot), va_P G.1 vwCl [ceX11 h0 a_w a_kept a_laid s_hasImage a_refusals a_row s_rows a_letters s_lettered a_hit a_lead a_defeat a_defeater s_ins s_outs a_order s_ordered a_is a_was s_reading s_isWell a_depths a_ways s_z, caI G a_w 43 g_w, caI G a_hit 8 g_hit, caI G a_lead 8 g_lead, caI G a_defeat 8 g_defeat, caI G a_defeater 8 g_defeater, caI G a_order 8 g_order] H → va_D A [ceX11 h0 a_w a_kept a_laid s_hasImage a_refusals a_row s_rows a_letters s_lettered a_hit a_lead a_defeat a_defeater s_ins s_outs a_order s_ordered a_is a_was s_reading s_isWell a_depths a_ways s_z, caI G a_w 43 g_w, caI G a_hit 8 g_hit, caI G a_lead 8 g_lead, caI G a_defeat 8 g_defeat, caI G a_defeater 8 g_defeater, caI G a_order 8 g_order] → va_S A s.heap H locs → lv_has ls 2 [(0, .ref h0), (1, .int v1)] → W p l e (headSpec wsX11_turnsAll ({ frames := 4, cells := 0, slots := 0, locals := 86 })).room s m ([.ref h0] : List Value).toArray below meth c H locs 0 0 (MQ below (va_Qv (fun u : (Nat → Int32) × (Nat → Int32) × (Nat → Int32) × (Nat → Int32) × Int32 × Int32 × (Nat → Int32) × Int32 => post u.1 u.2.1 u.2.2.1 u.2.2.2.1 u.2.2.2.2.1 u.2.2.2.2.2.1 u.2.2.2.2.2.2.1 u.2.2.2.2.2.2.2) (hcB G A (fun u : (Nat → Int32) × (Nat → Int32) × (Nat → Int32) × (Nat → Int32) × Int32 × Int32 × (Nat → Int32) × Int32 => [ceX11 h0 a_w a_kept a_laid s_hasImage a_refusals a_row s_rows a_letters s_lettered a_hit a_lead a_defeat a_defeater u.2.2.2.2.1 u.2.2.2.2.2.1 a_order u.2.2.2.2.2.2.2 a_is a_was s_reading s_isWell a_depths a_ways s_z, caI G a_w 43 g_w, caI G a_hit 8 u.1, caI G a_lead 8 u.2.1, caI G a_defeat 8 u.2.2.1, caI G a_defeater 8 u.2.2.2.1, caI G a_order 8 u.2.2.2.2.2.2.1])) A) ([.ref h0] : List Value).toArray s 0 0 A) (F0 m 24 ls []) := by
    intro n
    induction n with
    | zero => intro v1 g_hit g_lead g_defeat g_defeater s_ins s_outs g_order s_ordered h; exact h.elim
    | succ n ih =>
      intro v1 g_hit g_lead g_defeat g_defeater s_ins s_outs g_order s_ordered h H locs ls hP hD hS hl
      unfold wp_X11_turnsAll_24 at h
      refine lv_iload_n hx hb dX11_turnsAll_24 rfl (lv_at hl 1 rfl) ?_
      refine lv_if_lt (tgt := 83) hx hb dX11_turnsAll_25 (by decide) (fun c => ?_) (fun c => ?_)
      · replace h := h.1 c
        exact W.vret hx hb hr (fun t ht hW => ⟨⟨⟨g_hit, g_lead, g_defeat, g_defeater, s_ins, s_outs, g_order, s_ordered⟩, rfl, h, ⟨by rw [ht]; exact hP, hD⟩⟩, hS.F ht⟩) hS.2.2 dX11_turnsAll_83
      · replace h := h.2 c
        refine lv_aload_n hx hb dX11_turnsAll_28 rfl (lv_at hl 0 rfl) ?_
        refine lv_dup hx hb dX11_turnsAll_29 rfl ?_
        refine va_get (D := G.1) (ci := 9) (v := .int s_ins) (C := RX11) (T := TX11) (N := 24) hx hb hts ki_X11 hown hK.1 hP 0 rfl rfl 13 (by decide) kf0 (fun _ h9 => h9) rfl dX11_turnsAll_30 ?_
        refine lv_iconst (v := nI 1) hx hb dX11_turnsAll_33 kc_1 ?_
        refine lv_iload_n hx hb dX11_turnsAll_34 rfl (lv_at hl 1 rfl) ?_
        refine lv_ishl hx hb dX11_turnsAll_35 ?_
        refine lv_ior hx hb dX11_turnsAll_36 ?_
        refine va_put (D := G.1) (ci := 9) (v := .int (s_ins ||| ((nI 1) <<< (v1 &&& 31)))) (ty := .int) (C := RX11) (T := TX11) (N := 24) hx hb hts ki_X11 tyX11 tyX11_ok nmX11 hown hK.1 hP hD hS 0 rfl rfl 13 (by decide) kf0 (fun _ h9 => h9) rfl (by decide +kernel) rfl rfl (Nat.le_of_ble_eq_true rfl) dX11_turnsAll_37 (fun H locs hP hD hS => ?_)
        have hP : va_P G.1 vwCl [ceX11 h0 a_w a_kept a_laid s_hasImage a_refusals a_row s_rows a_letters s_lettered a_hit a_lead a_defeat a_defeater (s_ins ||| ((nI 1) <<< (v1 &&& 31))) s_outs a_order s_ordered a_is a_was s_reading s_isWell a_depths a_ways s_z, caI G a_w 43 g_w, caI G a_hit 8 g_hit, caI G a_lead 8 g_lead, caI G a_defeat 8 g_defeat, caI G a_defeater 8 g_defeater, caI G a_order 8 g_order] H := hP
        have hD : va_D A [ceX11 h0 a_w a_kept a_laid s_hasImage a_refusals a_row s_rows a_letters s_lettered a_hit a_lead a_defeat a_defeater (s_ins ||| ((nI 1) <<< (v1 &&& 31))) s_outs a_order s_ordered a_is a_was s_reading s_isWell a_depths a_ways s_z, caI G a_w 43 g_w, caI G a_hit 8 g_hit, caI G a_lead 8 g_lead, caI G a_defeat 8 g_defeat, caI G a_defeater 8 g_defeater, caI G a_order 8 g_order] := hD
        refine lv_aload_n hx hb dX11_turnsAll_40 rfl (lv_at hl 0 rfl) ?_
        refine lv_dup hx hb dX11_turnsAll_41 rfl ?_
        refine va_get (D := G.1) (ci := 9) (v := .int s_outs) (C := RX11) (T := TX11) (N := 24) hx hb hts ki_X11 hown hK.1 hP 0 rfl rfl 14 (by decide) kf1 (fun _ h9 => h9) rfl dX11_turnsAll_42 ?_
        refine lv_aload_n hx hb dX11_turnsAll_45 rfl (lv_at hl 0 rfl) ?_
        refine va_get (D := G.1) (ci := 9) (v := .ref a_defeat) (C := RX11) (T := TX11) (N := 24) hx hb hts ki_X11 hown hK.1 hP 0 rfl rfl 11 (by decide) kf3 (fun _ h9 => h9) rfl dX11_turnsAll_46 ?_
        refine lv_iload_n hx hb dX11_turnsAll_49 rfl (lv_at hl 1 rfl) ?_
        have hin := h.1
        replace h := h.2
        refine va_iald hx hb hK.1 hP 4 0 rfl rfl hin dX11_turnsAll_50 ?_
        refine lv_ior hx hb dX11_turnsAll_51 ?_
        refine va_put (D := G.1) (ci := 9) (v := .int (s_outs ||| (g_defeat v1.toNatClampNeg))) (ty := .int) (C := RX11) (T := TX11) (N := 24) hx hb hts ki_X11 tyX11 tyX11_ok nmX11 hown hK.1 hP hD hS 0 rfl rfl 14 (by decide) kf1 (fun _ h9 => h9) rfl (by decide +kernel) rfl rfl (Nat.le_of_ble_eq_true rfl) dX11_turnsAll_52 (fun H locs hP hD hS => ?_)
        have hP : va_P G.1 vwCl [ceX11 h0 a_w a_kept a_laid s_hasImage a_refusals a_row s_rows a_letters s_lettered a_hit a_lead a_defeat a_defeater (s_ins ||| ((nI 1) <<< (v1 &&& 31))) (s_outs ||| (g_defeat v1.toNatClampNeg)) a_order s_ordered a_is a_was s_reading s_isWell a_depths a_ways s_z, caI G a_w 43 g_w, caI G a_hit 8 g_hit, caI G a_lead 8 g_lead, caI G a_defeat 8 g_defeat, caI G a_defeater 8 g_defeater, caI G a_order 8 g_order] H := hP
        have hD : va_D A [ceX11 h0 a_w a_kept a_laid s_hasImage a_refusals a_row s_rows a_letters s_lettered a_hit a_lead a_defeat a_defeater (s_ins ||| ((nI 1) <<< (v1 &&& 31))) (s_outs ||| (g_defeat v1.toNatClampNeg)) a_order s_ordered a_is a_was s_reading s_isWell a_depths a_ways s_z, caI G a_w 43 g_w, caI G a_hit 8 g_hit, caI G a_lead 8 g_lead, caI G a_defeat 8 g_defeat, caI G a_defeater 8 g_defeater, caI G a_order 8 g_order] := hD
        refine lv_aload_n hx hb dX11_turnsAll_55 rfl (lv_at hl 0 rfl) ?_
        refine va_get (D := G.1) (ci := 9) (v := .ref a_order) (C := RX11) (T := TX11) (N := 24) hx hb hts ki_X11 hown hK.1 hP 0 rfl rfl 15 (by decide) kf4 (fun _ h9 => h9) rfl dX11_turnsAll_56 ?_
        refine lv_aload_n hx hb dX11_turnsAll_59 rfl (lv_at hl 0 rfl) ?_
        refine va_get (D := G.1) (ci := 9) (v := .int s_ordered) (C := RX11) (T := TX11) (N := 24) hx hb hts ki_X11 hown hK.1 hP 0 rfl rfl 16 (by decide) kf2 (fun _ h9 => h9) rfl dX11_turnsAll_60 ?_
        refine lv_iload_n hx hb dX11_turnsAll_63 rfl (lv_at hl 1 rfl) ?_
        have hin := h.1
        replace h := h.2
        refine va_iast hx hb hK.1 hP hD hS 6 0 rfl rfl hin dX11_turnsAll_64 (fun H locs hP hD hS => ?_)
        have hP : va_P G.1 vwCl [ceX11 h0 a_w a_kept a_laid s_hasImage a_refusals a_row s_rows a_letters s_lettered a_hit a_lead a_defeat a_defeater (s_ins ||| ((nI 1) <<< (v1 &&& 31))) (s_outs ||| (g_defeat v1.toNatClampNeg)) a_order s_ordered a_is a_was s_reading s_isWell a_depths a_ways s_z, caI G a_w 43 g_w, caI G a_hit 8 g_hit, caI G a_lead 8 g_lead, caI G a_defeat 8 g_defeat, caI G a_defeater 8 g_defeater, caI G a_order 8 (upd g_order s_ordered.toNatClampNeg v1)] H := hP
        have hD : va_D A [ceX11 h0 a_w a_kept a_laid s_hasImage a_refusals a_row s_rows a_letters s_lettered a_hit a_lead a_defeat a_defeater (s_ins ||| ((nI 1) <<< (v1 &&& 31))) (s_outs ||| (g_defeat v1.toNatClampNeg)) a_order s_ordered a_is a_was s_reading s_isWell a_depths a_ways s_z, caI G a_w 43 g_w, caI G a_hit 8 g_hit, caI G a_lead 8 g_lead, caI G a_defeat 8 g_defeat, caI G a_defeater 8 g_defeater, caI G a_order 8 (upd g_order s_ordered.toNatClampNeg v1)] := hD
        refine lv_aload_n hx hb dX11_turnsAll_65 rfl (lv_at hl 0 rfl) ?_
        refine lv_dup hx hb dX11_turnsAll_66 rfl ?_
        refine va_get (D := G.1) (ci := 9) (v := .int s_ordered) (C := RX11) (T := TX11) (N := 24) hx hb hts ki_X11 hown hK.1 hP 0 rfl rfl 16 (by decide) kf2 (fun _ h9 => h9) rfl dX11_turnsAll_67 ?_
        refine lv_iconst (v := nI 1) hx hb dX11_turnsAll_70 kc_1 ?_
        refine lv_iadd hx hb dX11_turnsAll_71 ?_
        refine va_put (D := G.1) (ci := 9) (v := .int (s_ordered + (nI 1))) (ty := .int) (C := RX11) (T := TX11) (N := 24) hx hb hts ki_X11 tyX11 tyX11_ok nmX11 hown hK.1 hP hD hS 0 rfl rfl 16 (by decide) kf2 (fun _ h9 => h9) rfl (by decide +kernel) rfl rfl (Nat.le_of_ble_eq_true rfl) dX11_turnsAll_72 (fun H locs hP hD hS => ?_)
        have hP : va_P G.1 vwCl [ceX11 h0 a_w a_kept a_laid s_hasImage a_refusals a_row s_rows a_letters s_lettered a_hit a_lead a_defeat a_defeater (s_ins ||| ((nI 1) <<< (v1 &&& 31))) (s_outs ||| (g_defeat v1.toNatClampNeg)) a_order (s_ordered + (nI 1)) a_is a_was s_reading s_isWell a_depths a_ways s_z, caI G a_w 43 g_w, caI G a_hit 8 g_hit, caI G a_lead 8 g_lead, caI G a_defeat 8 g_defeat, caI G a_defeater 8 g_defeater, caI G a_order 8 (upd g_order s_ordered.toNatClampNeg v1)] H := hP
        have hD : va_D A [ceX11 h0 a_w a_kept a_laid s_hasImage a_refusals a_row s_rows a_letters s_lettered a_hit a_lead a_defeat a_defeater (s_ins ||| ((nI 1) <<< (v1 &&& 31))) (s_outs ||| (g_defeat v1.toNatClampNeg)) a_order (s_ordered + (nI 1)) a_is a_was s_reading s_isWell a_depths a_ways s_z, caI G a_w 43 g_w, caI G a_hit 8 g_hit, caI G a_lead 8 g_lead, caI G a_defeat 8 g_defeat, caI G a_defeater 8 g_defeater, caI G a_order 8 (upd g_order s_ordered.toNatClampNeg v1)] := hD
        refine lv_aload_n hx hb dX11_turnsAll_75 rfl (lv_at hl 0 rfl) ?_
        refine hc_ki (wr := [caI G a_hit 8 g_hit, caI G a_lead 8 g_lead, caI G a_defeat 8 g_defeat, caI G a_order 8 (upd g_order s_ordered.toNatClampNeg v1)]) (va_runV (As := []) (rest := []) ⟨hx, hb, hml, hown, hts⟩ (c_X11_nextIn l G h0 a_w a_kept a_laid a_refusals a_row a_letters a_hit a_lead a_defeat a_defeater a_order a_is a_was a_depths a_ways H.size s_hasImage s_rows s_lettered (s_ins ||| ((nI 1) <<< (v1 &&& 31))) (s_outs ||| (g_defeat v1.toNatClampNeg)) (s_ordered + (nI 1)) s_reading s_isWell s_z g_w g_defeater _ h) (cwV 0 hts gX11_turnsAll_X11_nextIn rfl rfl rfl (by decide +kernel) ⟨Nat.le_of_ble_eq_true rfl, Nat.le_of_ble_eq_true rfl⟩) (hc_pV hK hP hD [0, 1, 5] rfl rfl (ci := 9) 0 rfl rfl) rfl rfl hl.1 rfl (lv_room (Nat.le_of_ble_eq_true rfl)) dX11_turnsAll_76 ⟨Nat.le_refl _, Nat.le_refl _⟩) hP hD hS hA [0, 1, 5] [2, 3, 4, 6] rfl rfl rfl (by decide) (fun r76 u H locs h hP hD hS => ?_)
        try dsimp only at h
        have hP : va_P G.1 vwCl [caI G a_hit 8 g_hit, caI G a_lead 8 g_lead, caI G a_defeat 8 g_defeat, caI G a_order 8 (upd g_order s_ordered.toNatClampNeg v1), ceX11 h0 a_w a_kept a_laid s_hasImage a_refusals a_row s_rows a_letters s_lettered a_hit a_lead a_defeat a_defeater (s_ins ||| ((nI 1) <<< (v1 &&& 31))) (s_outs ||| (g_defeat v1.toNatClampNeg)) a_order (s_ordered + (nI 1)) a_is a_was s_reading s_isWell a_depths a_ways s_z, caI G a_w 43 g_w, caI G a_defeater 8 g_defeater] H := hP
        have hD : va_D A [caI G a_hit 8 g_hit, caI G a_lead 8 g_lead, caI G a_defeat 8 g_defeat, caI G a_order 8 (upd g_order s_ordered.toNatClampNeg v1), ceX11 h0 a_w a_kept a_laid s_hasImage a_refusals a_row s_rows a_letters s_lettered a_hit a_lead a_defeat a_defeater (s_ins ||| ((nI 1) <<< (v1 &&& 31))) (s_outs ||| (g_defeat v1.toNatClampNeg)) a_order (s_ordered + (nI 1)) a_is a_was s_reading s_isWell a_depths a_ways s_z, caI G a_w 43 g_w, caI G a_defeater 8 g_defeater] := hD
        refine lv_istore_n (lv' := [(1, .int r76), (0, .ref h0)]) hx hb dX11_turnsAll_79 rfl hl (by decide) rfl (fun ls hl => ?_)
        refine lv_goto (tgt := 24) hx hb dX11_turnsAll_80 (by decide) ?_
        exact ih r76 g_hit g_lead g_defeat g_defeater (s_ins ||| ((nI 1) <<< (v1 &&& 31))) (s_outs ||| (g_defeat v1.toNatClampNeg)) (upd g_order s_ordered.toNatClampNeg v1) (s_ordered + (nI 1)) h _ _ _ (hP.sub [4, 5, 0, 1, 2, 6, 3] rfl) (hD.sub [4, 5, 0, 1, 2, 6, 3] (by decide) rfl) hS (lv_sub hl [1, 0] rfl)
  unfold wp_X11_turnsAll at h
  refine lv_aload_n hx hb dX11_turnsAll_0 rfl (lv_at hl 0 rfl) ?_
  refine hc_kv (wr := [caI G a_order 8 g_order]) (va_runV (As := []) (rest := []) ⟨hx, hb, hml, hown, hts⟩ (c_X11_reckons l G h0 a_w a_kept a_laid a_refusals a_row a_letters a_hit a_lead a_defeat a_defeater a_order a_is a_was a_depths a_ways s.heap.size s_hasImage s_rows s_lettered s_ins s_outs s_ordered s_reading s_isWell s_z g_w g_hit g_lead g_defeat g_defeater _ h) (cwV 0 hts gX11_turnsAll_X11_reckons rfl rfl rfl (by decide +kernel) ⟨Nat.le_of_ble_eq_true rfl, Nat.le_of_ble_eq_true rfl⟩) (hc_pV hK hP hD [0, 1, 2, 3, 4, 5] rfl rfl (ci := 9) 0 rfl rfl) rfl rfl hl.1 rfl (lv_room (Nat.le_of_ble_eq_true rfl)) dX11_turnsAll_1 ⟨Nat.le_refl _, Nat.le_refl _⟩) hP hD hS hA [0, 1, 2, 3, 4, 5] [6] rfl rfl rfl (by decide) (fun u H locs h hP hD hS => ?_)
  obtain ⟨g_hit_1, g_lead_1, g_defeat_1, g_defeater_1⟩ := u
  try dsimp only at h
  have hP : va_P G.1 vwCl [caI G a_order 8 g_order, ceX11 h0 a_w a_kept a_laid s_hasImage a_refusals a_row s_rows a_letters s_lettered a_hit a_lead a_defeat a_defeater s_ins s_outs a_order s_ordered a_is a_was s_reading s_isWell a_depths a_ways s_z, caI G a_w 43 g_w, caI G a_hit 8 g_hit_1, caI G a_lead 8 g_lead_1, caI G a_defeat 8 g_defeat_1, caI G a_defeater 8 g_defeater_1] H := hP
  have hD : va_D A [caI G a_order 8 g_order, ceX11 h0 a_w a_kept a_laid s_hasImage a_refusals a_row s_rows a_letters s_lettered a_hit a_lead a_defeat a_defeater s_ins s_outs a_order s_ordered a_is a_was s_reading s_isWell a_depths a_ways s_z, caI G a_w 43 g_w, caI G a_hit 8 g_hit_1, caI G a_lead 8 g_lead_1, caI G a_defeat 8 g_defeat_1, caI G a_defeater 8 g_defeater_1] := hD
  refine lv_aload_n hx hb dX11_turnsAll_4 rfl (lv_at hl 0 rfl) ?_
  refine lv_iconst (v := nI 0) hx hb dX11_turnsAll_5 kc_0 ?_
  refine va_put (D := G.1) (ci := 9) (v := .int (nI 0)) (ty := .int) (C := RX11) (T := TX11) (N := 24) hx hb hts ki_X11 tyX11 tyX11_ok nmX11 hown hK.1 hP hD hS 1 rfl rfl 13 (by decide) kf0 (fun _ h9 => h9) rfl (by decide +kernel) rfl rfl (Nat.le_of_ble_eq_true rfl) dX11_turnsAll_6 (fun H locs hP hD hS => ?_)
  have hP : va_P G.1 vwCl [caI G a_order 8 g_order, ceX11 h0 a_w a_kept a_laid s_hasImage a_refusals a_row s_rows a_letters s_lettered a_hit a_lead a_defeat a_defeater (nI 0) s_outs a_order s_ordered a_is a_was s_reading s_isWell a_depths a_ways s_z, caI G a_w 43 g_w, caI G a_hit 8 g_hit_1, caI G a_lead 8 g_lead_1, caI G a_defeat 8 g_defeat_1, caI G a_defeater 8 g_defeater_1] H := hP
  have hD : va_D A [caI G a_order 8 g_order, ceX11 h0 a_w a_kept a_laid s_hasImage a_refusals a_row s_rows a_letters s_lettered a_hit a_lead a_defeat a_defeater (nI 0) s_outs a_order s_ordered a_is a_was s_reading s_isWell a_depths a_ways s_z, caI G a_w 43 g_w, caI G a_hit 8 g_hit_1, caI G a_lead 8 g_lead_1, caI G a_defeat 8 g_defeat_1, caI G a_defeater 8 g_defeater_1] := hD
  refine lv_aload_n hx hb dX11_turnsAll_9 rfl (lv_at hl 0 rfl) ?_
  refine lv_iconst (v := nI 0) hx hb dX11_turnsAll_10 kc_0 ?_
  refine va_put (D := G.1) (ci := 9) (v := .int (nI 0)) (ty := .int) (C := RX11) (T := TX11) (N := 24) hx hb hts ki_X11 tyX11 tyX11_ok nmX11 hown hK.1 hP hD hS 1 rfl rfl 14 (by decide) kf1 (fun _ h9 => h9) rfl (by decide +kernel) rfl rfl (Nat.le_of_ble_eq_true rfl) dX11_turnsAll_11 (fun H locs hP hD hS => ?_)
  have hP : va_P G.1 vwCl [caI G a_order 8 g_order, ceX11 h0 a_w a_kept a_laid s_hasImage a_refusals a_row s_rows a_letters s_lettered a_hit a_lead a_defeat a_defeater (nI 0) (nI 0) a_order s_ordered a_is a_was s_reading s_isWell a_depths a_ways s_z, caI G a_w 43 g_w, caI G a_hit 8 g_hit_1, caI G a_lead 8 g_lead_1, caI G a_defeat 8 g_defeat_1, caI G a_defeater 8 g_defeater_1] H := hP
  have hD : va_D A [caI G a_order 8 g_order, ceX11 h0 a_w a_kept a_laid s_hasImage a_refusals a_row s_rows a_letters s_lettered a_hit a_lead a_defeat a_defeater (nI 0) (nI 0) a_order s_ordered a_is a_was s_reading s_isWell a_depths a_ways s_z, caI G a_w 43 g_w, caI G a_hit 8 g_hit_1, caI G a_lead 8 g_lead_1, caI G a_defeat 8 g_defeat_1, caI G a_defeater 8 g_defeater_1] := hD
  refine lv_aload_n hx hb dX11_turnsAll_14 rfl (lv_at hl 0 rfl) ?_
  refine lv_iconst (v := nI 0) hx hb dX11_turnsAll_15 kc_0 ?_
  refine va_put (D := G.1) (ci := 9) (v := .int (nI 0)) (ty := .int) (C := RX11) (T := TX11) (N := 24) hx hb hts ki_X11 tyX11 tyX11_ok nmX11 hown hK.1 hP hD hS 1 rfl rfl 16 (by decide) kf2 (fun _ h9 => h9) rfl (by decide +kernel) rfl rfl (Nat.le_of_ble_eq_true rfl) dX11_turnsAll_16 (fun H locs hP hD hS => ?_)
  have hP : va_P G.1 vwCl [caI G a_order 8 g_order, ceX11 h0 a_w a_kept a_laid s_hasImage a_refusals a_row s_rows a_letters s_lettered a_hit a_lead a_defeat a_defeater (nI 0) (nI 0) a_order (nI 0) a_is a_was s_reading s_isWell a_depths a_ways s_z, caI G a_w 43 g_w, caI G a_hit 8 g_hit_1, caI G a_lead 8 g_lead_1, caI G a_defeat 8 g_defeat_1, caI G a_defeater 8 g_defeater_1] H := hP
  have hD : va_D A [caI G a_order 8 g_order, ceX11 h0 a_w a_kept a_laid s_hasImage a_refusals a_row s_rows a_letters s_lettered a_hit a_lead a_defeat a_defeater (nI 0) (nI 0) a_order (nI 0) a_is a_was s_reading s_isWell a_depths a_ways s_z, caI G a_w 43 g_w, caI G a_hit 8 g_hit_1, caI G a_lead 8 g_lead_1, caI G a_defeat 8 g_defeat_1, caI G a_defeater 8 g_defeater_1] := hD
  refine lv_aload_n hx hb dX11_turnsAll_19 rfl (lv_at hl 0 rfl) ?_
  refine hc_ki (wr := [caI G a_order 8 g_order, caI G a_hit 8 g_hit_1, caI G a_lead 8 g_lead_1, caI G a_defeat 8 g_defeat_1]) (va_runV (As := []) (rest := []) ⟨hx, hb, hml, hown, hts⟩ (c_X11_nextIn l G h0 a_w a_kept a_laid a_refusals a_row a_letters a_hit a_lead a_defeat a_defeater a_order a_is a_was a_depths a_ways H.size s_hasImage s_rows s_lettered (nI 0) (nI 0) (nI 0) s_reading s_isWell s_z g_w g_defeater_1 _ h) (cwV 0 hts gX11_turnsAll_X11_nextIn rfl rfl rfl (by decide +kernel) ⟨Nat.le_of_ble_eq_true rfl, Nat.le_of_ble_eq_true rfl⟩) (hc_pV hK hP hD [1, 2, 6] rfl rfl (ci := 9) 1 rfl rfl) rfl rfl hl.1 rfl (lv_room (Nat.le_of_ble_eq_true rfl)) dX11_turnsAll_20 ⟨Nat.le_refl _, Nat.le_refl _⟩) hP hD hS hA [1, 2, 6] [0, 3, 4, 5] rfl rfl rfl (by decide) (fun r20 u H locs h hP hD hS => ?_)
  try dsimp only at h
  have hP : va_P G.1 vwCl [caI G a_order 8 g_order, caI G a_hit 8 g_hit_1, caI G a_lead 8 g_lead_1, caI G a_defeat 8 g_defeat_1, ceX11 h0 a_w a_kept a_laid s_hasImage a_refusals a_row s_rows a_letters s_lettered a_hit a_lead a_defeat a_defeater (nI 0) (nI 0) a_order (nI 0) a_is a_was s_reading s_isWell a_depths a_ways s_z, caI G a_w 43 g_w, caI G a_defeater 8 g_defeater_1] H := hP
  have hD : va_D A [caI G a_order 8 g_order, caI G a_hit 8 g_hit_1, caI G a_lead 8 g_lead_1, caI G a_defeat 8 g_defeat_1, ceX11 h0 a_w a_kept a_laid s_hasImage a_refusals a_row s_rows a_letters s_lettered a_hit a_lead a_defeat a_defeater (nI 0) (nI 0) a_order (nI 0) a_is a_was s_reading s_isWell a_depths a_ways s_z, caI G a_w 43 g_w, caI G a_defeater 8 g_defeater_1] := hD
  refine lv_istore_n (lv' := [(1, .int r20), (0, .ref h0)]) hx hb dX11_turnsAll_23 rfl hl (by decide) rfl (fun ls hl => ?_)
  obtain ⟨n24, h⟩ := h
  exact w24  n24 r20 g_hit_1 g_lead_1 g_defeat_1 g_defeater_1 (nI 0) (nI 0) g_order (nI 0) h _ _ _ (hP.sub [4, 5, 1, 2, 3, 6, 0] rfl) (hD.sub [4, 5, 1, 2, 3, 6, 0] (by decide) rfl) hS (lv_sub hl [1, 0] rfl)
set_option maxHeartbeats 4000000 in
set_option maxRecDepth 100000 in
theorem c_X11_labelOf (l : Launch) (G : hcG) (h0 : Nat) (a_w : Nat) (a_kept : Nat) (a_laid : Nat) (a_refusals : Nat) (a_row : Nat) (a_letters : Nat) (a_hit : Nat) (a_lead : Nat) (a_defeat : Nat) (a_defeater : Nat) (a_order : Nat) (a_is : Nat) (a_was : Nat) (a_depths : Nat) (a_ways : Nat) (sz : Nat) (s_hasImage : Int32) (s_rows : Int32) (s_lettered : Int32) (s_ins : Int32) (s_outs : Int32) (s_ordered : Int32) (s_reading : Int32) (s_isWell : Int32) (s_z : Int32) (g_w : Nat → Int32) (x1 : Int32) (post : Int32 → Prop) (h : wp_X11_labelOf post g_w s_ins s_outs x1) : Met l yX11_labelOf wsX11_labelOf ({ frames := 2, cells := 0, slots := 0, locals := 42 }) (hcPc G [.ref h0, .int x1] [ceX11 h0 a_w a_kept a_laid s_hasImage a_refusals a_row s_rows a_letters s_lettered a_hit a_lead a_defeat a_defeater s_ins s_outs a_order s_ordered a_is a_was s_reading s_isWell a_depths a_ways s_z, caI G a_w 43 g_w] sz) (va_Qi (fun (r : Int32) (u : Unit) => post r) (hcB G (va_A [ceX11 h0 a_w a_kept a_laid s_hasImage a_refusals a_row s_rows a_letters s_lettered a_hit a_lead a_defeat a_defeater s_ins s_outs a_order s_ordered a_is a_was s_reading s_isWell a_depths a_ways s_z, caI G a_w 43 g_w] sz) (fun u : Unit => [ceX11 h0 a_w a_kept a_laid s_hasImage a_refusals a_row s_rows a_letters s_lettered a_hit a_lead a_defeat a_defeater s_ins s_outs a_order s_ordered a_is a_was s_reading s_isWell a_depths a_ways s_z, caI G a_w 43 g_w])) (va_A [ceX11 h0 a_w a_kept a_laid s_hasImage a_refusals a_row s_rows a_letters s_lettered a_hit a_lead a_defeat a_defeater s_ins s_outs a_order s_ordered a_is a_was s_reading s_isWell a_depths a_ways s_z, caI G a_w 43 g_w] sz)) 0 0 (va_A [ceX11 h0 a_w a_kept a_laid s_hasImage a_refusals a_row s_rows a_letters s_lettered a_hit a_lead a_defeat a_defeater s_ins s_outs a_order s_ordered a_is a_was s_reading s_isWell a_depths a_ways s_z, caI G a_w 43 g_w] sz) := by
  refine Met.ofW (cc := cX11_labelOf) (maxL := 2) (ret := (some .int)) (by decide) rfl ?_
  intro p e s m args below meth c s₁ B hml hv
  obtain ⟨rfl, hsz, hP, hK, hD0⟩ := hv
  have hx := B.exec
  have hb := B.bytes
  have hr := B.returns
  have hts := atoms_spec (ws := wsX11_labelOf) B.pre
  have hown : s.vm.findClass RX11 = some m.cls := findClass_of_methodNamed B.named
  have hlocks := B.notSynchronized
  subst hsz
  have hD := hD0.self (sz := s.heap.size)
  generalize hAe : va_A [ceX11 h0 a_w a_kept a_laid s_hasImage a_refusals a_row s_rows a_letters s_lettered a_hit a_lead a_defeat a_defeater s_ins s_outs a_order s_ordered a_is a_was s_reading s_isWell a_depths a_ways s_z, caI G a_w 43 g_w] s.heap.size = A at hD ⊢
  have hA : ∀ q : Nat, s.heap.size ≤ q → A q := fun q h => by rw [← hAe]; exact Or.inr h
  have hS : va_S A s.heap s.heap [] := va_S.rf
  have hP : va_P G.1 vwCl [ceX11 h0 a_w a_kept a_laid s_hasImage a_refusals a_row s_rows a_letters s_lettered a_hit a_lead a_defeat a_defeater s_ins s_outs a_order s_ordered a_is a_was s_reading s_isWell a_depths a_ways s_z, caI G a_w 43 g_w] s.heap := hP
  have hl := lv_entry ([.ref h0, .int x1]) (n := 2) (Nat.le_of_ble_eq_true rfl)
  rw [lg_entry_eq]
  generalize (lg_sl ([.ref h0, .int x1]) ++ List.replicate (2 - (lg_sl ([.ref h0, .int x1])).length) Slot.unset).toArray = ls at hl ⊢
  have hl : lv_has ls 2 [(0, .ref h0), (1, .int x1)] := hl
  have kf0 := hts (.fieldLink RX11 79 "HallOfClaimsModel" "ins" "I") (List.mem_of_getElem? (i := 1) (by decide +kernel))
  have kf1 := hts (.fieldLink RX11 83 "HallOfClaimsModel" "outs" "I") (List.mem_of_getElem? (i := 2) (by decide +kernel))
  have ki_X11 : ∀ w ∈ u_ws RX11 TX11 24, w ∈ wsX11_labelOf := by decide +kernel
  unfold wp_X11_labelOf at h
  refine lv_aload_n hx hb dX11_labelOf_0 rfl (lv_at hl 0 rfl) ?_
  refine lv_iload_n hx hb dX11_labelOf_1 rfl (lv_at hl 1 rfl) ?_
  refine hc_ki (wr := []) (va_runV (As := [.int x1]) (rest := []) ⟨hx, hb, hml, hown, hts⟩ (c_X11_isHeard l G h0 a_w a_kept a_laid a_refusals a_row a_letters a_hit a_lead a_defeat a_defeater a_order a_is a_was a_depths a_ways s.heap.size s_hasImage s_rows s_lettered s_ins s_outs s_ordered s_reading s_isWell s_z g_w x1 _ h) (cwV 1 hts gX11_labelOf_X11_isHeard rfl rfl rfl (by decide +kernel) ⟨Nat.le_of_ble_eq_true rfl, Nat.le_of_ble_eq_true rfl⟩) (hc_pV hK hP hD [0, 1] rfl rfl (ci := 9) 0 rfl rfl) rfl rfl hl.1 rfl (lv_room (Nat.le_of_ble_eq_true rfl)) dX11_labelOf_2 ⟨Nat.le_refl _, Nat.le_refl _⟩) hP hD hS hA [0, 1] [] rfl rfl rfl (by decide) (fun r2 u H locs h hP hD hS => ?_)
  try dsimp only at h
  have hP : va_P G.1 vwCl [ceX11 h0 a_w a_kept a_laid s_hasImage a_refusals a_row s_rows a_letters s_lettered a_hit a_lead a_defeat a_defeater s_ins s_outs a_order s_ordered a_is a_was s_reading s_isWell a_depths a_ways s_z, caI G a_w 43 g_w] H := hP
  have hD : va_D A [ceX11 h0 a_w a_kept a_laid s_hasImage a_refusals a_row s_rows a_letters s_lettered a_hit a_lead a_defeat a_defeater s_ins s_outs a_order s_ordered a_is a_was s_reading s_isWell a_depths a_ways s_z, caI G a_w 43 g_w] := hD
  refine lv_if_ne (tgt := 12) hx hb dX11_labelOf_5 (by decide) (fun c => ?_) (fun c => ?_)
  · replace h := h.1 c
    refine lv_aload_n hx hb dX11_labelOf_12 rfl (lv_at hl 0 rfl) ?_
    refine va_get (D := G.1) (ci := 9) (v := .int s_ins) (C := RX11) (T := TX11) (N := 24) hx hb hts ki_X11 hown hK.1 hP 0 rfl rfl 13 (by decide) kf0 (fun _ h9 => h9) rfl dX11_labelOf_13 ?_
    refine lv_iload_n hx hb dX11_labelOf_16 rfl (lv_at hl 1 rfl) ?_
    refine hc_ki (wr := [ceX11 h0 a_w a_kept a_laid s_hasImage a_refusals a_row s_rows a_letters s_lettered a_hit a_lead a_defeat a_defeater s_ins s_outs a_order s_ordered a_is a_was s_reading s_isWell a_depths a_ways s_z, caI G a_w 43 g_w]) (va_runS (As := [.int s_ins, .int x1]) (rest := []) ⟨hx, hb, hml, hown, hts⟩ (c_X11_has l G H.size s_ins x1 _ h) (va_cwS 2 hts gX11_labelOf_X11_has rfl rfl rfl (by decide +kernel) ⟨Nat.le_of_ble_eq_true rfl, Nat.le_of_ble_eq_true rfl⟩) (hc_pS hK hP hD [] rfl rfl) rfl rfl hl.1 rfl (lv_room (Nat.le_of_ble_eq_true rfl)) dX11_labelOf_17 ⟨Nat.le_refl _, Nat.le_refl _⟩) hP hD hS hA [] [0, 1] rfl rfl rfl (by decide) (fun r17 u H locs h hP hD hS => ?_)
    try dsimp only at h
    have hP : va_P G.1 vwCl [ceX11 h0 a_w a_kept a_laid s_hasImage a_refusals a_row s_rows a_letters s_lettered a_hit a_lead a_defeat a_defeater s_ins s_outs a_order s_ordered a_is a_was s_reading s_isWell a_depths a_ways s_z, caI G a_w 43 g_w] H := hP
    have hD : va_D A [ceX11 h0 a_w a_kept a_laid s_hasImage a_refusals a_row s_rows a_letters s_lettered a_hit a_lead a_defeat a_defeater s_ins s_outs a_order s_ordered a_is a_was s_reading s_isWell a_depths a_ways s_z, caI G a_w 43 g_w] := hD
    refine lv_if_eq (tgt := 27) hx hb dX11_labelOf_20 (by decide) (fun c => ?_) (fun c => ?_)
    · replace h := h.1 c
      refine lv_aload_n hx hb dX11_labelOf_27 rfl (lv_at hl 0 rfl) ?_
      refine va_get (D := G.1) (ci := 9) (v := .int s_outs) (C := RX11) (T := TX11) (N := 24) hx hb hts ki_X11 hown hK.1 hP 0 rfl rfl 14 (by decide) kf1 (fun _ h9 => h9) rfl dX11_labelOf_28 ?_
      refine lv_iload_n hx hb dX11_labelOf_31 rfl (lv_at hl 1 rfl) ?_
      refine hc_ki (wr := [ceX11 h0 a_w a_kept a_laid s_hasImage a_refusals a_row s_rows a_letters s_lettered a_hit a_lead a_defeat a_defeater s_ins s_outs a_order s_ordered a_is a_was s_reading s_isWell a_depths a_ways s_z, caI G a_w 43 g_w]) (va_runS (As := [.int s_outs, .int x1]) (rest := []) ⟨hx, hb, hml, hown, hts⟩ (c_X11_has l G H.size s_outs x1 _ h) (va_cwS 2 hts gX11_labelOf_X11_has rfl rfl rfl (by decide +kernel) ⟨Nat.le_of_ble_eq_true rfl, Nat.le_of_ble_eq_true rfl⟩) (hc_pS hK hP hD [] rfl rfl) rfl rfl hl.1 rfl (lv_room (Nat.le_of_ble_eq_true rfl)) dX11_labelOf_32 ⟨Nat.le_refl _, Nat.le_refl _⟩) hP hD hS hA [] [0, 1] rfl rfl rfl (by decide) (fun r32 u H locs h hP hD hS => ?_)
      try dsimp only at h
      have hP : va_P G.1 vwCl [ceX11 h0 a_w a_kept a_laid s_hasImage a_refusals a_row s_rows a_letters s_lettered a_hit a_lead a_defeat a_defeater s_ins s_outs a_order s_ordered a_is a_was s_reading s_isWell a_depths a_ways s_z, caI G a_w 43 g_w] H := hP
      have hD : va_D A [ceX11 h0 a_w a_kept a_laid s_hasImage a_refusals a_row s_rows a_letters s_lettered a_hit a_lead a_defeat a_defeater s_ins s_outs a_order s_ordered a_is a_was s_reading s_isWell a_depths a_ways s_z, caI G a_w 43 g_w] := hD
      refine lv_if_eq (tgt := 42) hx hb dX11_labelOf_35 (by decide) (fun c => ?_) (fun c => ?_)
      · replace h := h.1 c
        refine lv_iconst (v := nI 2) hx hb dX11_labelOf_42 kc_2 ?_
        exact W.iret (v := nI 2) hx hb hr (fun t ht hW => ⟨⟨_, (), rfl, h, ⟨by rw [ht]; exact hP, hD⟩⟩, hS.F ht⟩) hS.2.2 dX11_labelOf_43
      · replace h := h.2 c
        refine lv_iconst (v := nI 0) hx hb dX11_labelOf_38 kc_0 ?_
        refine lv_goto (tgt := 43) hx hb dX11_labelOf_39 (by decide) ?_
        exact W.iret (v := nI 0) hx hb hr (fun t ht hW => ⟨⟨_, (), rfl, h, ⟨by rw [ht]; exact hP, hD⟩⟩, hS.F ht⟩) hS.2.2 dX11_labelOf_43
    · replace h := h.2 c
      refine lv_iconst (v := nI 1) hx hb dX11_labelOf_23 kc_1 ?_
      refine lv_goto (tgt := 43) hx hb dX11_labelOf_24 (by decide) ?_
      exact W.iret (v := nI 1) hx hb hr (fun t ht hW => ⟨⟨_, (), rfl, h, ⟨by rw [ht]; exact hP, hD⟩⟩, hS.F ht⟩) hS.2.2 dX11_labelOf_43
  · replace h := h.2 c
    refine lv_iconst (v := nI 3) hx hb dX11_labelOf_8 kc_3 ?_
    refine lv_goto (tgt := 43) hx hb dX11_labelOf_9 (by decide) ?_
    exact W.iret (v := nI 3) hx hb hr (fun t ht hW => ⟨⟨_, (), rfl, h, ⟨by rw [ht]; exact hP, hD⟩⟩, hS.F ht⟩) hS.2.2 dX11_labelOf_43
set_option maxHeartbeats 4000000 in
set_option maxRecDepth 100000 in
theorem c_X11_defeatedBy (l : Launch) (G : hcG) (h0 : Nat) (a_w : Nat) (a_kept : Nat) (a_laid : Nat) (a_refusals : Nat) (a_row : Nat) (a_letters : Nat) (a_hit : Nat) (a_lead : Nat) (a_defeat : Nat) (a_defeater : Nat) (a_order : Nat) (a_is : Nat) (a_was : Nat) (a_depths : Nat) (a_ways : Nat) (sz : Nat) (s_hasImage : Int32) (s_rows : Int32) (s_lettered : Int32) (s_ins : Int32) (s_outs : Int32) (s_ordered : Int32) (s_reading : Int32) (s_isWell : Int32) (s_z : Int32) (g_w : Nat → Int32) (g_defeat : Nat → Int32) (x1 : Int32) (post : Int32 → Prop) (h : wp_X11_defeatedBy post g_w g_defeat x1) : Met l yX11_defeatedBy wsX11_defeatedBy ({ frames := 1, cells := 0, slots := 0, locals := 21 }) (hcPc G [.ref h0, .int x1] [ceX11 h0 a_w a_kept a_laid s_hasImage a_refusals a_row s_rows a_letters s_lettered a_hit a_lead a_defeat a_defeater s_ins s_outs a_order s_ordered a_is a_was s_reading s_isWell a_depths a_ways s_z, caI G a_w 43 g_w, caI G a_defeat 8 g_defeat] sz) (va_Qi (fun (r : Int32) (u : Unit) => post r) (hcB G (va_A [ceX11 h0 a_w a_kept a_laid s_hasImage a_refusals a_row s_rows a_letters s_lettered a_hit a_lead a_defeat a_defeater s_ins s_outs a_order s_ordered a_is a_was s_reading s_isWell a_depths a_ways s_z, caI G a_w 43 g_w, caI G a_defeat 8 g_defeat] sz) (fun u : Unit => [ceX11 h0 a_w a_kept a_laid s_hasImage a_refusals a_row s_rows a_letters s_lettered a_hit a_lead a_defeat a_defeater s_ins s_outs a_order s_ordered a_is a_was s_reading s_isWell a_depths a_ways s_z, caI G a_w 43 g_w, caI G a_defeat 8 g_defeat])) (va_A [ceX11 h0 a_w a_kept a_laid s_hasImage a_refusals a_row s_rows a_letters s_lettered a_hit a_lead a_defeat a_defeater s_ins s_outs a_order s_ordered a_is a_was s_reading s_isWell a_depths a_ways s_z, caI G a_w 43 g_w, caI G a_defeat 8 g_defeat] sz)) 0 0 (va_A [ceX11 h0 a_w a_kept a_laid s_hasImage a_refusals a_row s_rows a_letters s_lettered a_hit a_lead a_defeat a_defeater s_ins s_outs a_order s_ordered a_is a_was s_reading s_isWell a_depths a_ways s_z, caI G a_w 43 g_w, caI G a_defeat 8 g_defeat] sz) := by
  refine Met.ofW (cc := cX11_defeatedBy) (maxL := 4) (ret := (some .int)) (by decide) rfl ?_
  intro p e s m args below meth c s₁ B hml hv
  obtain ⟨rfl, hsz, hP, hK, hD0⟩ := hv
  have hx := B.exec
  have hb := B.bytes
  have hr := B.returns
  have hts := atoms_spec (ws := wsX11_defeatedBy) B.pre
  have hown : s.vm.findClass RX11 = some m.cls := findClass_of_methodNamed B.named
  have hlocks := B.notSynchronized
  subst hsz
  have hD := hD0.self (sz := s.heap.size)
  generalize hAe : va_A [ceX11 h0 a_w a_kept a_laid s_hasImage a_refusals a_row s_rows a_letters s_lettered a_hit a_lead a_defeat a_defeater s_ins s_outs a_order s_ordered a_is a_was s_reading s_isWell a_depths a_ways s_z, caI G a_w 43 g_w, caI G a_defeat 8 g_defeat] s.heap.size = A at hD ⊢
  have hA : ∀ q : Nat, s.heap.size ≤ q → A q := fun q h => by rw [← hAe]; exact Or.inr h
  have hS : va_S A s.heap s.heap [] := va_S.rf
  have hP : va_P G.1 vwCl [ceX11 h0 a_w a_kept a_laid s_hasImage a_refusals a_row s_rows a_letters s_lettered a_hit a_lead a_defeat a_defeater s_ins s_outs a_order s_ordered a_is a_was s_reading s_isWell a_depths a_ways s_z, caI G a_w 43 g_w, caI G a_defeat 8 g_defeat] s.heap := hP
  have hl := lv_entry ([.ref h0, .int x1]) (n := 4) (Nat.le_of_ble_eq_true rfl)
  rw [lg_entry_eq]
  generalize (lg_sl ([.ref h0, .int x1]) ++ List.replicate (4 - (lg_sl ([.ref h0, .int x1])).length) Slot.unset).toArray = ls at hl ⊢
  have hl : lv_has ls 4 [(0, .ref h0), (1, .int x1)] := hl
  have kf0 := hts (.fieldLink RX11 9 "HallOfClaimsModel" "w" "[I") (List.mem_of_getElem? (i := 1) (by decide +kernel))
  have kf1 := hts (.fieldLink RX11 34 "HallOfClaimsModel" "defeat" "[I") (List.mem_of_getElem? (i := 2) (by decide +kernel))
  have ki_X11 : ∀ w ∈ u_ws RX11 TX11 24, w ∈ wsX11_defeatedBy := by decide +kernel
  have w4 : ∀ (n : Nat) (v2 : Int32) (v3 : Int32) , wp_X11_defeatedBy_4 post g_w g_defeat x1 n v2 v3 → ∀ (H : Heap) (locs : List Loc) (ls : Array Slot), va_P G.1 vwCl [ceX11 h0 a_w a_kept a_laid s_hasImage a_refusals a_row s_rows a_letters s_lettered a_hit a_lead a_defeat a_defeater s_ins s_outs a_order s_ordered a_is a_was s_reading s_isWell a_depths a_ways s_z, caI G a_w 43 g_w, caI G a_defeat 8 g_defeat] H → va_D A [ceX11 h0 a_w a_kept a_laid s_hasImage a_refusals a_row s_rows a_letters s_lettered a_hit a_lead a_defeat a_defeater s_ins s_outs a_order s_ordered a_is a_was s_reading s_isWell a_depths a_ways s_z, caI G a_w 43 g_w, caI G a_defeat 8 g_defeat] → va_S A s.heap H locs → lv_has ls 4 [(0, .ref h0), (1, .int x1), (2, .int v2), (3, .int v3)] → W p l e (headSpec wsX11_defeatedBy ({ frames := 1, cells := 0, slots := 0, locals := 21 })).room s m ([.ref h0, .int x1] : List Value).toArray below meth c H locs 0 0 (MQ below (va_Qi (fun (r : Int32) (u : Unit) => post r) (hcB G A (fun u : Unit => [ceX11 h0 a_w a_kept a_laid s_hasImage a_refusals a_row s_rows a_letters s_lettered a_hit a_lead a_defeat a_defeater s_ins s_outs a_order s_ordered a_is a_was s_reading s_isWell a_depths a_ways s_z, caI G a_w 43 g_w, caI G a_defeat 8 g_defeat])) A) ([.ref h0, .int x1] : List Value).toArray s 0 0 A) (F0 m 4 ls []) := by
    intro n
    induction n with
    | zero => intro v2 v3 h; exact h.elim
    | succ n ih =>
      intro v2 v3 h H locs ls hP hD hS hl
      unfold wp_X11_defeatedBy_4 at h
      refine lv_iload_n hx hb dX11_defeatedBy_4 rfl (lv_at hl 3 rfl) ?_
      refine lv_aload_n hx hb dX11_defeatedBy_5 rfl (lv_at hl 0 rfl) ?_
      refine va_get (D := G.1) (ci := 9) (v := .ref a_w) (C := RX11) (T := TX11) (N := 24) hx hb hts ki_X11 hown hK.1 hP 0 rfl rfl 0 (by decide) kf0 (fun _ h9 => h9) rfl dX11_defeatedBy_6 ?_
      refine lv_bipush (v := nI 42) hx hb dX11_defeatedBy_9 kb_42 ?_
      have hin := h.1
      replace h := h.2
      refine va_iald hx hb hK.1 hP 1 0 rfl rfl hin dX11_defeatedBy_11 ?_
      refine lv_icmp_ge (tgt := 42) hx hb dX11_defeatedBy_12 (by decide) (fun c => ?_) (fun c => ?_)
      · replace h := h.1 c
        refine lv_iload_n hx hb dX11_defeatedBy_42 rfl (lv_at hl 2 rfl) ?_
        exact W.iret (v := v2) hx hb hr (fun t ht hW => ⟨⟨_, (), rfl, h, ⟨by rw [ht]; exact hP, hD⟩⟩, hS.F ht⟩) hS.2.2 dX11_defeatedBy_43
      · replace h := h.2 c
        refine lv_iload_n hx hb dX11_defeatedBy_15 rfl (lv_at hl 2 rfl) ?_
        refine lv_iload_n hx hb dX11_defeatedBy_16 rfl (lv_at hl 1 rfl) ?_
        refine lv_iload_n hx hb dX11_defeatedBy_17 rfl (lv_at hl 3 rfl) ?_
        refine hc_ki (wr := [ceX11 h0 a_w a_kept a_laid s_hasImage a_refusals a_row s_rows a_letters s_lettered a_hit a_lead a_defeat a_defeater s_ins s_outs a_order s_ordered a_is a_was s_reading s_isWell a_depths a_ways s_z, caI G a_w 43 g_w, caI G a_defeat 8 g_defeat]) (va_runS (As := [.int x1, .int v3]) (rest := [.int v2]) ⟨hx, hb, hml, hown, hts⟩ (c_X11_has l G H.size x1 v3 _ h) (va_cwS 2 hts gX11_defeatedBy_X11_has rfl rfl rfl (by decide +kernel) ⟨Nat.le_of_ble_eq_true rfl, Nat.le_of_ble_eq_true rfl⟩) (hc_pS hK hP hD [] rfl rfl) rfl rfl hl.1 rfl (lv_room (Nat.le_of_ble_eq_true rfl)) dX11_defeatedBy_18 ⟨Nat.le_refl _, Nat.le_refl _⟩) hP hD hS hA [] [0, 1, 2] rfl rfl rfl (by decide) (fun r18 u H locs h hP hD hS => ?_)
        try dsimp only at h
        have hP : va_P G.1 vwCl [ceX11 h0 a_w a_kept a_laid s_hasImage a_refusals a_row s_rows a_letters s_lettered a_hit a_lead a_defeat a_defeater s_ins s_outs a_order s_ordered a_is a_was s_reading s_isWell a_depths a_ways s_z, caI G a_w 43 g_w, caI G a_defeat 8 g_defeat] H := hP
        have hD : va_D A [ceX11 h0 a_w a_kept a_laid s_hasImage a_refusals a_row s_rows a_letters s_lettered a_hit a_lead a_defeat a_defeater s_ins s_outs a_order s_ordered a_is a_was s_reading s_isWell a_depths a_ways s_z, caI G a_w 43 g_w, caI G a_defeat 8 g_defeat] := hD
        refine lv_if_eq (tgt := 33) hx hb dX11_defeatedBy_21 (by decide) (fun c => ?_) (fun c => ?_)
        · replace h := h.1 c
          refine lv_iconst (v := nI 0) hx hb dX11_defeatedBy_33 kc_0 ?_
          refine lv_ior hx hb dX11_defeatedBy_34 ?_
          refine lv_istore_n (lv' := [(2, .int (v2 ||| (nI 0))), (0, .ref h0), (1, .int x1), (3, .int v3)]) hx hb dX11_defeatedBy_35 rfl hl (by decide) rfl (fun ls hl => ?_)
          refine lv_iinc (v := v3 + nI 1) (lv' := [(3, .int (v3 + nI 1)), (2, .int (v2 ||| (nI 0))), (0, .ref h0), (1, .int x1)]) hx hb dX11_defeatedBy_36 hl (k := 3) rfl (congrArg (fun q => v3 + q) kc_1) (by decide) rfl (fun ls hl => ?_)
          refine lv_goto (tgt := 4) hx hb dX11_defeatedBy_39 (by decide) ?_
          exact ih (v2 ||| (nI 0)) (v3 + nI 1) h _ _ _ hP hD hS (lv_sub hl [2, 3, 1, 0] rfl)
        · replace h := h.2 c
          refine lv_aload_n hx hb dX11_defeatedBy_24 rfl (lv_at hl 0 rfl) ?_
          refine va_get (D := G.1) (ci := 9) (v := .ref a_defeat) (C := RX11) (T := TX11) (N := 24) hx hb hts ki_X11 hown hK.1 hP 0 rfl rfl 11 (by decide) kf1 (fun _ h9 => h9) rfl dX11_defeatedBy_25 ?_
          refine lv_iload_n hx hb dX11_defeatedBy_28 rfl (lv_at hl 3 rfl) ?_
          have hin := h.1
          replace h := h.2
          refine va_iald hx hb hK.1 hP 2 0 rfl rfl hin dX11_defeatedBy_29 ?_
          refine lv_goto (tgt := 34) hx hb dX11_defeatedBy_30 (by decide) ?_
          refine lv_ior hx hb dX11_defeatedBy_34 ?_
          refine lv_istore_n (lv' := [(2, .int (v2 ||| (g_defeat v3.toNatClampNeg))), (0, .ref h0), (1, .int x1), (3, .int v3)]) hx hb dX11_defeatedBy_35 rfl hl (by decide) rfl (fun ls hl => ?_)
          refine lv_iinc (v := v3 + nI 1) (lv' := [(3, .int (v3 + nI 1)), (2, .int (v2 ||| (g_defeat v3.toNatClampNeg))), (0, .ref h0), (1, .int x1)]) hx hb dX11_defeatedBy_36 hl (k := 3) rfl (congrArg (fun q => v3 + q) kc_1) (by decide) rfl (fun ls hl => ?_)
          refine lv_goto (tgt := 4) hx hb dX11_defeatedBy_39 (by decide) ?_
          exact ih (v2 ||| (g_defeat v3.toNatClampNeg)) (v3 + nI 1) h _ _ _ hP hD hS (lv_sub hl [2, 3, 1, 0] rfl)
  unfold wp_X11_defeatedBy at h
  refine lv_iconst (v := nI 0) hx hb dX11_defeatedBy_0 kc_0 ?_
  refine lv_istore_n (lv' := [(2, .int (nI 0)), (0, .ref h0), (1, .int x1)]) hx hb dX11_defeatedBy_1 rfl hl (by decide) rfl (fun ls hl => ?_)
  refine lv_iconst (v := nI 0) hx hb dX11_defeatedBy_2 kc_0 ?_
  refine lv_istore_n (lv' := [(3, .int (nI 0)), (2, .int (nI 0)), (0, .ref h0), (1, .int x1)]) hx hb dX11_defeatedBy_3 rfl hl (by decide) rfl (fun ls hl => ?_)
  obtain ⟨n4, h⟩ := h
  exact w4  n4 (nI 0) (nI 0) h _ _ _ hP hD hS (lv_sub hl [2, 3, 1, 0] rfl)
set_option maxHeartbeats 4000000 in
set_option maxRecDepth 100000 in
theorem c_X11_isFree (l : Launch) (G : hcG) (h0 : Nat) (a_w : Nat) (a_kept : Nat) (a_laid : Nat) (a_refusals : Nat) (a_row : Nat) (a_letters : Nat) (a_hit : Nat) (a_lead : Nat) (a_defeat : Nat) (a_defeater : Nat) (a_order : Nat) (a_is : Nat) (a_was : Nat) (a_depths : Nat) (a_ways : Nat) (sz : Nat) (s_hasImage : Int32) (s_rows : Int32) (s_lettered : Int32) (s_ins : Int32) (s_outs : Int32) (s_ordered : Int32) (s_reading : Int32) (s_isWell : Int32) (s_z : Int32) (g_w : Nat → Int32) (g_defeat : Nat → Int32) (x1 : Int32) (post : Int32 → Prop) (h : wp_X11_isFree post g_w g_defeat x1) : Met l yX11_isFree wsX11_isFree ({ frames := 2, cells := 0, slots := 0, locals := 44 }) (hcPc G [.ref h0, .int x1] [ceX11 h0 a_w a_kept a_laid s_hasImage a_refusals a_row s_rows a_letters s_lettered a_hit a_lead a_defeat a_defeater s_ins s_outs a_order s_ordered a_is a_was s_reading s_isWell a_depths a_ways s_z, caI G a_w 43 g_w, caI G a_defeat 8 g_defeat] sz) (va_Qi (fun (r : Int32) (u : Unit) => post r) (hcB G (va_A [ceX11 h0 a_w a_kept a_laid s_hasImage a_refusals a_row s_rows a_letters s_lettered a_hit a_lead a_defeat a_defeater s_ins s_outs a_order s_ordered a_is a_was s_reading s_isWell a_depths a_ways s_z, caI G a_w 43 g_w, caI G a_defeat 8 g_defeat] sz) (fun u : Unit => [ceX11 h0 a_w a_kept a_laid s_hasImage a_refusals a_row s_rows a_letters s_lettered a_hit a_lead a_defeat a_defeater s_ins s_outs a_order s_ordered a_is a_was s_reading s_isWell a_depths a_ways s_z, caI G a_w 43 g_w, caI G a_defeat 8 g_defeat])) (va_A [ceX11 h0 a_w a_kept a_laid s_hasImage a_refusals a_row s_rows a_letters s_lettered a_hit a_lead a_defeat a_defeater s_ins s_outs a_order s_ordered a_is a_was s_reading s_isWell a_depths a_ways s_z, caI G a_w 43 g_w, caI G a_defeat 8 g_defeat] sz)) 0 0 (va_A [ceX11 h0 a_w a_kept a_laid s_hasImage a_refusals a_row s_rows a_letters s_lettered a_hit a_lead a_defeat a_defeater s_ins s_outs a_order s_ordered a_is a_was s_reading s_isWell a_depths a_ways s_z, caI G a_w 43 g_w, caI G a_defeat 8 g_defeat] sz) := by
  refine Met.ofW (cc := cX11_isFree) (maxL := 2) (ret := (some .boolean)) (by decide) rfl ?_
  intro p e s m args below meth c s₁ B hml hv
  obtain ⟨rfl, hsz, hP, hK, hD0⟩ := hv
  have hx := B.exec
  have hb := B.bytes
  have hr := B.returns
  have hts := atoms_spec (ws := wsX11_isFree) B.pre
  have hown : s.vm.findClass RX11 = some m.cls := findClass_of_methodNamed B.named
  have hlocks := B.notSynchronized
  subst hsz
  have hD := hD0.self (sz := s.heap.size)
  generalize hAe : va_A [ceX11 h0 a_w a_kept a_laid s_hasImage a_refusals a_row s_rows a_letters s_lettered a_hit a_lead a_defeat a_defeater s_ins s_outs a_order s_ordered a_is a_was s_reading s_isWell a_depths a_ways s_z, caI G a_w 43 g_w, caI G a_defeat 8 g_defeat] s.heap.size = A at hD ⊢
  have hA : ∀ q : Nat, s.heap.size ≤ q → A q := fun q h => by rw [← hAe]; exact Or.inr h
  have hS : va_S A s.heap s.heap [] := va_S.rf
  have hP : va_P G.1 vwCl [ceX11 h0 a_w a_kept a_laid s_hasImage a_refusals a_row s_rows a_letters s_lettered a_hit a_lead a_defeat a_defeater s_ins s_outs a_order s_ordered a_is a_was s_reading s_isWell a_depths a_ways s_z, caI G a_w 43 g_w, caI G a_defeat 8 g_defeat] s.heap := hP
  have hl := lv_entry ([.ref h0, .int x1]) (n := 2) (Nat.le_of_ble_eq_true rfl)
  rw [lg_entry_eq]
  generalize (lg_sl ([.ref h0, .int x1]) ++ List.replicate (2 - (lg_sl ([.ref h0, .int x1])).length) Slot.unset).toArray = ls at hl ⊢
  have hl : lv_has ls 2 [(0, .ref h0), (1, .int x1)] := hl
  have kf0 := hts (.fieldLink RX11 9 "HallOfClaimsModel" "w" "[I") (List.mem_of_getElem? (i := 1) (by decide +kernel))
  have ki_X11 : ∀ w ∈ u_ws RX11 TX11 24, w ∈ wsX11_isFree := by decide +kernel
  unfold wp_X11_isFree at h
  refine lv_iload_n hx hb dX11_isFree_0 rfl (lv_at hl 1 rfl) ?_
  refine lv_aload_n hx hb dX11_isFree_1 rfl (lv_at hl 0 rfl) ?_
  refine va_get (D := G.1) (ci := 9) (v := .ref a_w) (C := RX11) (T := TX11) (N := 24) hx hb hts ki_X11 hown hK.1 hP 0 rfl rfl 0 (by decide) kf0 (fun _ h9 => h9) rfl dX11_isFree_2 ?_
  refine lv_bipush (v := nI 40) hx hb dX11_isFree_5 kb_40 ?_
  have hin := h.1
  replace h := h.2
  refine va_iald hx hb hK.1 hP 1 0 rfl rfl hin dX11_isFree_7 ?_
  refine lv_iconst (v := (-1 : Int32)) hx hb dX11_isFree_8 kc_m1 ?_
  refine lv_ixor hx hb dX11_isFree_9 ?_
  refine lv_iand hx hb dX11_isFree_10 ?_
  refine lv_if_ne (tgt := 28) hx hb dX11_isFree_11 (by decide) (fun c => ?_) (fun c => ?_)
  · replace h := h.1 c
    refine lv_iconst (v := nI 0) hx hb dX11_isFree_28 kc_0 ?_
    exact W.zret (v := nI 0) hx hb hr rfl (fun t ht hW => ⟨⟨_, (), rfl, h, ⟨by rw [ht]; exact hP, hD⟩⟩, hS.F ht⟩) hS.2.2 dX11_isFree_29
  · replace h := h.2 c
    refine lv_aload_n hx hb dX11_isFree_14 rfl (lv_at hl 0 rfl) ?_
    refine lv_iload_n hx hb dX11_isFree_15 rfl (lv_at hl 1 rfl) ?_
    refine hc_ki (wr := []) (va_runV (As := [.int x1]) (rest := []) ⟨hx, hb, hml, hown, hts⟩ (c_X11_defeatedBy l G h0 a_w a_kept a_laid a_refusals a_row a_letters a_hit a_lead a_defeat a_defeater a_order a_is a_was a_depths a_ways s.heap.size s_hasImage s_rows s_lettered s_ins s_outs s_ordered s_reading s_isWell s_z g_w g_defeat x1 _ h) (cwV 1 hts gX11_isFree_X11_defeatedBy rfl rfl rfl (by decide +kernel) ⟨Nat.le_of_ble_eq_true rfl, Nat.le_of_ble_eq_true rfl⟩) (hc_pV hK hP hD [0, 1, 2] rfl rfl (ci := 9) 0 rfl rfl) rfl rfl hl.1 rfl (lv_room (Nat.le_of_ble_eq_true rfl)) dX11_isFree_16 ⟨Nat.le_refl _, Nat.le_refl _⟩) hP hD hS hA [0, 1, 2] [] rfl rfl rfl (by decide) (fun r16 u H locs h hP hD hS => ?_)
    try dsimp only at h
    have hP : va_P G.1 vwCl [ceX11 h0 a_w a_kept a_laid s_hasImage a_refusals a_row s_rows a_letters s_lettered a_hit a_lead a_defeat a_defeater s_ins s_outs a_order s_ordered a_is a_was s_reading s_isWell a_depths a_ways s_z, caI G a_w 43 g_w, caI G a_defeat 8 g_defeat] H := hP
    have hD : va_D A [ceX11 h0 a_w a_kept a_laid s_hasImage a_refusals a_row s_rows a_letters s_lettered a_hit a_lead a_defeat a_defeater s_ins s_outs a_order s_ordered a_is a_was s_reading s_isWell a_depths a_ways s_z, caI G a_w 43 g_w, caI G a_defeat 8 g_defeat] := hD
    refine lv_iload_n hx hb dX11_isFree_19 rfl (lv_at hl 1 rfl) ?_
    refine lv_iand hx hb dX11_isFree_20 ?_
    refine lv_if_ne (tgt := 28) hx hb dX11_isFree_21 (by decide) (fun c => ?_) (fun c => ?_)
    · replace h := h.1 c
      refine lv_iconst (v := nI 0) hx hb dX11_isFree_28 kc_0 ?_
      exact W.zret (v := nI 0) hx hb hr rfl (fun t ht hW => ⟨⟨_, (), rfl, h, ⟨by rw [ht]; exact hP, hD⟩⟩, hS.F ht⟩) hS.2.2 dX11_isFree_29
    · replace h := h.2 c
      refine lv_iconst (v := nI 1) hx hb dX11_isFree_24 kc_1 ?_
      refine lv_goto (tgt := 29) hx hb dX11_isFree_25 (by decide) ?_
      exact W.zret (v := nI 1) hx hb hr rfl (fun t ht hW => ⟨⟨_, (), rfl, h, ⟨by rw [ht]; exact hP, hD⟩⟩, hS.F ht⟩) hS.2.2 dX11_isFree_29
set_option maxHeartbeats 4000000 in
set_option maxRecDepth 100000 in
theorem c_X11_keeps (l : Launch) (G : hcG) (h0 : Nat) (a_w : Nat) (a_kept : Nat) (a_laid : Nat) (a_refusals : Nat) (a_row : Nat) (a_letters : Nat) (a_hit : Nat) (a_lead : Nat) (a_defeat : Nat) (a_defeater : Nat) (a_order : Nat) (a_is : Nat) (a_was : Nat) (a_depths : Nat) (a_ways : Nat) (sz : Nat) (s_hasImage : Int32) (s_rows : Int32) (s_lettered : Int32) (s_ins : Int32) (s_outs : Int32) (s_ordered : Int32) (s_reading : Int32) (s_isWell : Int32) (s_z : Int32) (g_w : Nat → Int32) (g_defeat : Nat → Int32) (g_defeater : Nat → Int32) (x1 : Int32) (x2 : Int32) (post : Int32 → Prop) (h : wp_X11_keeps post g_w g_defeat g_defeater x1 x2) : Met l yX11_keeps wsX11_keeps ({ frames := 2, cells := 0, slots := 0, locals := 44 }) (hcPc G [.ref h0, .int x1, .int x2] [ceX11 h0 a_w a_kept a_laid s_hasImage a_refusals a_row s_rows a_letters s_lettered a_hit a_lead a_defeat a_defeater s_ins s_outs a_order s_ordered a_is a_was s_reading s_isWell a_depths a_ways s_z, caI G a_w 43 g_w, caI G a_defeat 8 g_defeat, caI G a_defeater 8 g_defeater] sz) (va_Qi (fun (r : Int32) (u : Unit) => post r) (hcB G (va_A [ceX11 h0 a_w a_kept a_laid s_hasImage a_refusals a_row s_rows a_letters s_lettered a_hit a_lead a_defeat a_defeater s_ins s_outs a_order s_ordered a_is a_was s_reading s_isWell a_depths a_ways s_z, caI G a_w 43 g_w, caI G a_defeat 8 g_defeat, caI G a_defeater 8 g_defeater] sz) (fun u : Unit => [ceX11 h0 a_w a_kept a_laid s_hasImage a_refusals a_row s_rows a_letters s_lettered a_hit a_lead a_defeat a_defeater s_ins s_outs a_order s_ordered a_is a_was s_reading s_isWell a_depths a_ways s_z, caI G a_w 43 g_w, caI G a_defeat 8 g_defeat, caI G a_defeater 8 g_defeater])) (va_A [ceX11 h0 a_w a_kept a_laid s_hasImage a_refusals a_row s_rows a_letters s_lettered a_hit a_lead a_defeat a_defeater s_ins s_outs a_order s_ordered a_is a_was s_reading s_isWell a_depths a_ways s_z, caI G a_w 43 g_w, caI G a_defeat 8 g_defeat, caI G a_defeater 8 g_defeater] sz)) 0 0 (va_A [ceX11 h0 a_w a_kept a_laid s_hasImage a_refusals a_row s_rows a_letters s_lettered a_hit a_lead a_defeat a_defeater s_ins s_outs a_order s_ordered a_is a_was s_reading s_isWell a_depths a_ways s_z, caI G a_w 43 g_w, caI G a_defeat 8 g_defeat, caI G a_defeater 8 g_defeater] sz) := by
  refine Met.ofW (cc := cX11_keeps) (maxL := 3) (ret := (some .boolean)) (by decide) rfl ?_
  intro p e s m args below meth c s₁ B hml hv
  obtain ⟨rfl, hsz, hP, hK, hD0⟩ := hv
  have hx := B.exec
  have hb := B.bytes
  have hr := B.returns
  have hts := atoms_spec (ws := wsX11_keeps) B.pre
  have hown : s.vm.findClass RX11 = some m.cls := findClass_of_methodNamed B.named
  have hlocks := B.notSynchronized
  subst hsz
  have hD := hD0.self (sz := s.heap.size)
  generalize hAe : va_A [ceX11 h0 a_w a_kept a_laid s_hasImage a_refusals a_row s_rows a_letters s_lettered a_hit a_lead a_defeat a_defeater s_ins s_outs a_order s_ordered a_is a_was s_reading s_isWell a_depths a_ways s_z, caI G a_w 43 g_w, caI G a_defeat 8 g_defeat, caI G a_defeater 8 g_defeater] s.heap.size = A at hD ⊢
  have hA : ∀ q : Nat, s.heap.size ≤ q → A q := fun q h => by rw [← hAe]; exact Or.inr h
  have hS : va_S A s.heap s.heap [] := va_S.rf
  have hP : va_P G.1 vwCl [ceX11 h0 a_w a_kept a_laid s_hasImage a_refusals a_row s_rows a_letters s_lettered a_hit a_lead a_defeat a_defeater s_ins s_outs a_order s_ordered a_is a_was s_reading s_isWell a_depths a_ways s_z, caI G a_w 43 g_w, caI G a_defeat 8 g_defeat, caI G a_defeater 8 g_defeater] s.heap := hP
  have hl := lv_entry ([.ref h0, .int x1, .int x2]) (n := 3) (Nat.le_of_ble_eq_true rfl)
  rw [lg_entry_eq]
  generalize (lg_sl ([.ref h0, .int x1, .int x2]) ++ List.replicate (3 - (lg_sl ([.ref h0, .int x1, .int x2])).length) Slot.unset).toArray = ls at hl ⊢
  have hl : lv_has ls 3 [(0, .ref h0), (1, .int x1), (2, .int x2)] := hl
  have kf0 := hts (.fieldLink RX11 37 "HallOfClaimsModel" "defeater" "[I") (List.mem_of_getElem? (i := 1) (by decide +kernel))
  have ki_X11 : ∀ w ∈ u_ws RX11 TX11 24, w ∈ wsX11_keeps := by decide +kernel
  unfold wp_X11_keeps at h
  refine lv_aload_n hx hb dX11_keeps_0 rfl (lv_at hl 0 rfl) ?_
  refine va_get (D := G.1) (ci := 9) (v := .ref a_defeater) (C := RX11) (T := TX11) (N := 24) hx hb hts ki_X11 hown hK.1 hP 0 rfl rfl 12 (by decide) kf0 (fun _ h9 => h9) rfl dX11_keeps_1 ?_
  refine lv_iload_n hx hb dX11_keeps_4 rfl (lv_at hl 2 rfl) ?_
  have hin := h.1
  replace h := h.2
  refine va_iald hx hb hK.1 hP 3 0 rfl rfl hin dX11_keeps_5 ?_
  refine lv_aload_n hx hb dX11_keeps_6 rfl (lv_at hl 0 rfl) ?_
  refine lv_iload_n hx hb dX11_keeps_7 rfl (lv_at hl 1 rfl) ?_
  refine hc_ki (wr := [caI G a_defeater 8 g_defeater]) (va_runV (As := [.int x1]) (rest := [.int (g_defeater x2.toNatClampNeg)]) ⟨hx, hb, hml, hown, hts⟩ (c_X11_defeatedBy l G h0 a_w a_kept a_laid a_refusals a_row a_letters a_hit a_lead a_defeat a_defeater a_order a_is a_was a_depths a_ways s.heap.size s_hasImage s_rows s_lettered s_ins s_outs s_ordered s_reading s_isWell s_z g_w g_defeat x1 _ h) (cwV 1 hts gX11_keeps_X11_defeatedBy rfl rfl rfl (by decide +kernel) ⟨Nat.le_of_ble_eq_true rfl, Nat.le_of_ble_eq_true rfl⟩) (hc_pV hK hP hD [0, 1, 2] rfl rfl (ci := 9) 0 rfl rfl) rfl rfl hl.1 rfl (lv_room (Nat.le_of_ble_eq_true rfl)) dX11_keeps_8 ⟨Nat.le_refl _, Nat.le_refl _⟩) hP hD hS hA [0, 1, 2] [3] rfl rfl rfl (by decide) (fun r8 u H locs h hP hD hS => ?_)
  try dsimp only at h
  have hP : va_P G.1 vwCl [caI G a_defeater 8 g_defeater, ceX11 h0 a_w a_kept a_laid s_hasImage a_refusals a_row s_rows a_letters s_lettered a_hit a_lead a_defeat a_defeater s_ins s_outs a_order s_ordered a_is a_was s_reading s_isWell a_depths a_ways s_z, caI G a_w 43 g_w, caI G a_defeat 8 g_defeat] H := hP
  have hD : va_D A [caI G a_defeater 8 g_defeater, ceX11 h0 a_w a_kept a_laid s_hasImage a_refusals a_row s_rows a_letters s_lettered a_hit a_lead a_defeat a_defeater s_ins s_outs a_order s_ordered a_is a_was s_reading s_isWell a_depths a_ways s_z, caI G a_w 43 g_w, caI G a_defeat 8 g_defeat] := hD
  refine lv_iconst (v := (-1 : Int32)) hx hb dX11_keeps_11 kc_m1 ?_
  refine lv_ixor hx hb dX11_keeps_12 ?_
  refine lv_iand hx hb dX11_keeps_13 ?_
  refine lv_if_ne (tgt := 21) hx hb dX11_keeps_14 (by decide) (fun c => ?_) (fun c => ?_)
  · replace h := h.1 c
    refine lv_iconst (v := nI 0) hx hb dX11_keeps_21 kc_0 ?_
    exact W.zret (v := nI 0) hx hb hr rfl (fun t ht hW => ⟨⟨_, (), rfl, h, ⟨by rw [ht]; exact (hP.sub [1, 2, 3, 0] rfl), (hD.sub [1, 2, 3, 0] (by decide) rfl)⟩⟩, hS.F ht⟩) hS.2.2 dX11_keeps_22
  · replace h := h.2 c
    refine lv_iconst (v := nI 1) hx hb dX11_keeps_17 kc_1 ?_
    refine lv_goto (tgt := 22) hx hb dX11_keeps_18 (by decide) ?_
    exact W.zret (v := nI 1) hx hb hr rfl (fun t ht hW => ⟨⟨_, (), rfl, h, ⟨by rw [ht]; exact (hP.sub [1, 2, 3, 0] rfl), (hD.sub [1, 2, 3, 0] (by decide) rfl)⟩⟩, hS.F ht⟩) hS.2.2 dX11_keeps_22
set_option maxHeartbeats 4000000 in
set_option maxRecDepth 100000 in
theorem c_X11_isAdmissible (l : Launch) (G : hcG) (h0 : Nat) (a_w : Nat) (a_kept : Nat) (a_laid : Nat) (a_refusals : Nat) (a_row : Nat) (a_letters : Nat) (a_hit : Nat) (a_lead : Nat) (a_defeat : Nat) (a_defeater : Nat) (a_order : Nat) (a_is : Nat) (a_was : Nat) (a_depths : Nat) (a_ways : Nat) (sz : Nat) (s_hasImage : Int32) (s_rows : Int32) (s_lettered : Int32) (s_ins : Int32) (s_outs : Int32) (s_ordered : Int32) (s_reading : Int32) (s_isWell : Int32) (s_z : Int32) (g_w : Nat → Int32) (g_defeat : Nat → Int32) (g_defeater : Nat → Int32) (x1 : Int32) (post : Int32 → Prop) (h : wp_X11_isAdmissible post g_w g_defeat g_defeater x1) : Met l yX11_isAdmissible wsX11_isAdmissible ({ frames := 3, cells := 0, slots := 0, locals := 66 }) (hcPc G [.ref h0, .int x1] [ceX11 h0 a_w a_kept a_laid s_hasImage a_refusals a_row s_rows a_letters s_lettered a_hit a_lead a_defeat a_defeater s_ins s_outs a_order s_ordered a_is a_was s_reading s_isWell a_depths a_ways s_z, caI G a_w 43 g_w, caI G a_defeat 8 g_defeat, caI G a_defeater 8 g_defeater] sz) (va_Qi (fun (r : Int32) (u : Unit) => post r) (hcB G (va_A [ceX11 h0 a_w a_kept a_laid s_hasImage a_refusals a_row s_rows a_letters s_lettered a_hit a_lead a_defeat a_defeater s_ins s_outs a_order s_ordered a_is a_was s_reading s_isWell a_depths a_ways s_z, caI G a_w 43 g_w, caI G a_defeat 8 g_defeat, caI G a_defeater 8 g_defeater] sz) (fun u : Unit => [ceX11 h0 a_w a_kept a_laid s_hasImage a_refusals a_row s_rows a_letters s_lettered a_hit a_lead a_defeat a_defeater s_ins s_outs a_order s_ordered a_is a_was s_reading s_isWell a_depths a_ways s_z, caI G a_w 43 g_w, caI G a_defeat 8 g_defeat, caI G a_defeater 8 g_defeater])) (va_A [ceX11 h0 a_w a_kept a_laid s_hasImage a_refusals a_row s_rows a_letters s_lettered a_hit a_lead a_defeat a_defeater s_ins s_outs a_order s_ordered a_is a_was s_reading s_isWell a_depths a_ways s_z, caI G a_w 43 g_w, caI G a_defeat 8 g_defeat, caI G a_defeater 8 g_defeater] sz)) 0 0 (va_A [ceX11 h0 a_w a_kept a_laid s_hasImage a_refusals a_row s_rows a_letters s_lettered a_hit a_lead a_defeat a_defeater s_ins s_outs a_order s_ordered a_is a_was s_reading s_isWell a_depths a_ways s_z, caI G a_w 43 g_w, caI G a_defeat 8 g_defeat, caI G a_defeater 8 g_defeater] sz) := by
  refine Met.ofW (cc := cX11_isAdmissible) (maxL := 4) (ret := (some .boolean)) (by decide) rfl ?_
  intro p e s m args below meth c s₁ B hml hv
  obtain ⟨rfl, hsz, hP, hK, hD0⟩ := hv
  have hx := B.exec
  have hb := B.bytes
  have hr := B.returns
  have hts := atoms_spec (ws := wsX11_isAdmissible) B.pre
  have hown : s.vm.findClass RX11 = some m.cls := findClass_of_methodNamed B.named
  have hlocks := B.notSynchronized
  subst hsz
  have hD := hD0.self (sz := s.heap.size)
  generalize hAe : va_A [ceX11 h0 a_w a_kept a_laid s_hasImage a_refusals a_row s_rows a_letters s_lettered a_hit a_lead a_defeat a_defeater s_ins s_outs a_order s_ordered a_is a_was s_reading s_isWell a_depths a_ways s_z, caI G a_w 43 g_w, caI G a_defeat 8 g_defeat, caI G a_defeater 8 g_defeater] s.heap.size = A at hD ⊢
  have hA : ∀ q : Nat, s.heap.size ≤ q → A q := fun q h => by rw [← hAe]; exact Or.inr h
  have hS : va_S A s.heap s.heap [] := va_S.rf
  have hP : va_P G.1 vwCl [ceX11 h0 a_w a_kept a_laid s_hasImage a_refusals a_row s_rows a_letters s_lettered a_hit a_lead a_defeat a_defeater s_ins s_outs a_order s_ordered a_is a_was s_reading s_isWell a_depths a_ways s_z, caI G a_w 43 g_w, caI G a_defeat 8 g_defeat, caI G a_defeater 8 g_defeater] s.heap := hP
  have hl := lv_entry ([.ref h0, .int x1]) (n := 4) (Nat.le_of_ble_eq_true rfl)
  rw [lg_entry_eq]
  generalize (lg_sl ([.ref h0, .int x1]) ++ List.replicate (4 - (lg_sl ([.ref h0, .int x1])).length) Slot.unset).toArray = ls at hl ⊢
  have hl : lv_has ls 4 [(0, .ref h0), (1, .int x1)] := hl
  have kf0 := hts (.fieldLink RX11 9 "HallOfClaimsModel" "w" "[I") (List.mem_of_getElem? (i := 1) (by decide +kernel))
  have ki_X11 : ∀ w ∈ u_ws RX11 TX11 24, w ∈ wsX11_isAdmissible := by decide +kernel
  have w8 : ∀ (n : Nat) (v2 : Int32) (v3 : Int32) , wp_X11_isAdmissible_8 post g_w g_defeat g_defeater x1 n v2 v3 → ∀ (H : Heap) (locs : List Loc) (ls : Array Slot), va_P G.1 vwCl [ceX11 h0 a_w a_kept a_laid s_hasImage a_refusals a_row s_rows a_letters s_lettered a_hit a_lead a_defeat a_defeater s_ins s_outs a_order s_ordered a_is a_was s_reading s_isWell a_depths a_ways s_z, caI G a_w 43 g_w, caI G a_defeat 8 g_defeat, caI G a_defeater 8 g_defeater] H → va_D A [ceX11 h0 a_w a_kept a_laid s_hasImage a_refusals a_row s_rows a_letters s_lettered a_hit a_lead a_defeat a_defeater s_ins s_outs a_order s_ordered a_is a_was s_reading s_isWell a_depths a_ways s_z, caI G a_w 43 g_w, caI G a_defeat 8 g_defeat, caI G a_defeater 8 g_defeater] → va_S A s.heap H locs → lv_has ls 4 [(0, .ref h0), (1, .int x1), (2, .int v2), (3, .int v3)] → W p l e (headSpec wsX11_isAdmissible ({ frames := 3, cells := 0, slots := 0, locals := 66 })).room s m ([.ref h0, .int x1] : List Value).toArray below meth c H locs 0 0 (MQ below (va_Qi (fun (r : Int32) (u : Unit) => post r) (hcB G A (fun u : Unit => [ceX11 h0 a_w a_kept a_laid s_hasImage a_refusals a_row s_rows a_letters s_lettered a_hit a_lead a_defeat a_defeater s_ins s_outs a_order s_ordered a_is a_was s_reading s_isWell a_depths a_ways s_z, caI G a_w 43 g_w, caI G a_defeat 8 g_defeat, caI G a_defeater 8 g_defeater])) A) ([.ref h0, .int x1] : List Value).toArray s 0 0 A) (F0 m 8 ls []) := by
    intro n
    induction n with
    | zero => intro v2 v3 h; exact h.elim
    | succ n ih =>
      intro v2 v3 h H locs ls hP hD hS hl
      unfold wp_X11_isAdmissible_8 at h
      refine lv_iload_n hx hb dX11_isAdmissible_8 rfl (lv_at hl 3 rfl) ?_
      refine lv_aload_n hx hb dX11_isAdmissible_9 rfl (lv_at hl 0 rfl) ?_
      refine va_get (D := G.1) (ci := 9) (v := .ref a_w) (C := RX11) (T := TX11) (N := 24) hx hb hts ki_X11 hown hK.1 hP 0 rfl rfl 0 (by decide) kf0 (fun _ h9 => h9) rfl dX11_isAdmissible_10 ?_
      refine lv_bipush (v := nI 42) hx hb dX11_isAdmissible_13 kb_42 ?_
      have hin := h.1
      replace h := h.2
      refine va_iald hx hb hK.1 hP 1 0 rfl rfl hin dX11_isAdmissible_15 ?_
      refine lv_icmp_ge (tgt := 52) hx hb dX11_isAdmissible_16 (by decide) (fun c => ?_) (fun c => ?_)
      · replace h := h.1 c
        refine lv_iload_n hx hb dX11_isAdmissible_52 rfl (lv_at hl 2 rfl) ?_
        have hz := h.1
        replace h := h.2
        exact W.zret (v := v2) hx hb hr (hc_nar hz) (fun t ht hW => ⟨⟨_, (), rfl, h, ⟨by rw [ht]; exact hP, hD⟩⟩, hS.F ht⟩) hS.2.2 dX11_isAdmissible_53
      · replace h := h.2 c
        refine lv_iload_n hx hb dX11_isAdmissible_19 rfl (lv_at hl 2 rfl) ?_
        refine lv_if_eq (tgt := 52) hx hb dX11_isAdmissible_20 (by decide) (fun c => ?_) (fun c => ?_)
        · replace h := h.1 c
          refine lv_iload_n hx hb dX11_isAdmissible_52 rfl (lv_at hl 2 rfl) ?_
          have hz := h.1
          replace h := h.2
          exact W.zret (v := v2) hx hb hr (hc_nar hz) (fun t ht hW => ⟨⟨_, (), rfl, h, ⟨by rw [ht]; exact hP, hD⟩⟩, hS.F ht⟩) hS.2.2 dX11_isAdmissible_53
        · replace h := h.2 c
          refine lv_iload_n hx hb dX11_isAdmissible_23 rfl (lv_at hl 1 rfl) ?_
          refine lv_iload_n hx hb dX11_isAdmissible_24 rfl (lv_at hl 3 rfl) ?_
          refine hc_ki (wr := [ceX11 h0 a_w a_kept a_laid s_hasImage a_refusals a_row s_rows a_letters s_lettered a_hit a_lead a_defeat a_defeater s_ins s_outs a_order s_ordered a_is a_was s_reading s_isWell a_depths a_ways s_z, caI G a_w 43 g_w, caI G a_defeat 8 g_defeat, caI G a_defeater 8 g_defeater]) (va_runS (As := [.int x1, .int v3]) (rest := []) ⟨hx, hb, hml, hown, hts⟩ (c_X11_has l G H.size x1 v3 _ h) (va_cwS 2 hts gX11_isAdmissible_X11_has rfl rfl rfl (by decide +kernel) ⟨Nat.le_of_ble_eq_true rfl, Nat.le_of_ble_eq_true rfl⟩) (hc_pS hK hP hD [] rfl rfl) rfl rfl hl.1 rfl (lv_room (Nat.le_of_ble_eq_true rfl)) dX11_isAdmissible_25 ⟨Nat.le_refl _, Nat.le_refl _⟩) hP hD hS hA [] [0, 1, 2, 3] rfl rfl rfl (by decide) (fun r25 u H locs h hP hD hS => ?_)
          try dsimp only at h
          have hP : va_P G.1 vwCl [ceX11 h0 a_w a_kept a_laid s_hasImage a_refusals a_row s_rows a_letters s_lettered a_hit a_lead a_defeat a_defeater s_ins s_outs a_order s_ordered a_is a_was s_reading s_isWell a_depths a_ways s_z, caI G a_w 43 g_w, caI G a_defeat 8 g_defeat, caI G a_defeater 8 g_defeater] H := hP
          have hD : va_D A [ceX11 h0 a_w a_kept a_laid s_hasImage a_refusals a_row s_rows a_letters s_lettered a_hit a_lead a_defeat a_defeater s_ins s_outs a_order s_ordered a_is a_was s_reading s_isWell a_depths a_ways s_z, caI G a_w 43 g_w, caI G a_defeat 8 g_defeat, caI G a_defeater 8 g_defeater] := hD
          refine lv_if_eq (tgt := 40) hx hb dX11_isAdmissible_28 (by decide) (fun c => ?_) (fun c => ?_)
          · replace h := h.1 c
            refine lv_iconst (v := nI 1) hx hb dX11_isAdmissible_40 kc_1 ?_
            refine lv_goto (tgt := 45) hx hb dX11_isAdmissible_41 (by decide) ?_
            refine lv_istore_n (lv' := [(2, .int (nI 1)), (0, .ref h0), (1, .int x1), (3, .int v3)]) hx hb dX11_isAdmissible_45 rfl hl (by decide) rfl (fun ls hl => ?_)
            refine lv_iinc (v := v3 + nI 1) (lv' := [(3, .int (v3 + nI 1)), (2, .int (nI 1)), (0, .ref h0), (1, .int x1)]) hx hb dX11_isAdmissible_46 hl (k := 3) rfl (congrArg (fun q => v3 + q) kc_1) (by decide) rfl (fun ls hl => ?_)
            refine lv_goto (tgt := 8) hx hb dX11_isAdmissible_49 (by decide) ?_
            exact ih (nI 1) (v3 + nI 1) h _ _ _ hP hD hS (lv_sub hl [2, 3, 1, 0] rfl)
          · replace h := h.2 c
            refine lv_aload_n hx hb dX11_isAdmissible_31 rfl (lv_at hl 0 rfl) ?_
            refine lv_iload_n hx hb dX11_isAdmissible_32 rfl (lv_at hl 1 rfl) ?_
            refine lv_iload_n hx hb dX11_isAdmissible_33 rfl (lv_at hl 3 rfl) ?_
            refine hc_ki (wr := []) (va_runV (As := [.int x1, .int v3]) (rest := []) ⟨hx, hb, hml, hown, hts⟩ (c_X11_keeps l G h0 a_w a_kept a_laid a_refusals a_row a_letters a_hit a_lead a_defeat a_defeater a_order a_is a_was a_depths a_ways H.size s_hasImage s_rows s_lettered s_ins s_outs s_ordered s_reading s_isWell s_z g_w g_defeat g_defeater x1 v3 _ h) (cwV 2 hts gX11_isAdmissible_X11_keeps rfl rfl rfl (by decide +kernel) ⟨Nat.le_of_ble_eq_true rfl, Nat.le_of_ble_eq_true rfl⟩) (hc_pV hK hP hD [0, 1, 2, 3] rfl rfl (ci := 9) 0 rfl rfl) rfl rfl hl.1 rfl (lv_room (Nat.le_of_ble_eq_true rfl)) dX11_isAdmissible_34 ⟨Nat.le_refl _, Nat.le_refl _⟩) hP hD hS hA [0, 1, 2, 3] [] rfl rfl rfl (by decide) (fun r34 u H locs h hP hD hS => ?_)
            try dsimp only at h
            have hP : va_P G.1 vwCl [ceX11 h0 a_w a_kept a_laid s_hasImage a_refusals a_row s_rows a_letters s_lettered a_hit a_lead a_defeat a_defeater s_ins s_outs a_order s_ordered a_is a_was s_reading s_isWell a_depths a_ways s_z, caI G a_w 43 g_w, caI G a_defeat 8 g_defeat, caI G a_defeater 8 g_defeater] H := hP
            have hD : va_D A [ceX11 h0 a_w a_kept a_laid s_hasImage a_refusals a_row s_rows a_letters s_lettered a_hit a_lead a_defeat a_defeater s_ins s_outs a_order s_ordered a_is a_was s_reading s_isWell a_depths a_ways s_z, caI G a_w 43 g_w, caI G a_defeat 8 g_defeat, caI G a_defeater 8 g_defeater] := hD
            refine lv_if_eq (tgt := 44) hx hb dX11_isAdmissible_37 (by decide) (fun c => ?_) (fun c => ?_)
            · replace h := h.1 c
              refine lv_iconst (v := nI 0) hx hb dX11_isAdmissible_44 kc_0 ?_
              refine lv_istore_n (lv' := [(2, .int (nI 0)), (0, .ref h0), (1, .int x1), (3, .int v3)]) hx hb dX11_isAdmissible_45 rfl hl (by decide) rfl (fun ls hl => ?_)
              refine lv_iinc (v := v3 + nI 1) (lv' := [(3, .int (v3 + nI 1)), (2, .int (nI 0)), (0, .ref h0), (1, .int x1)]) hx hb dX11_isAdmissible_46 hl (k := 3) rfl (congrArg (fun q => v3 + q) kc_1) (by decide) rfl (fun ls hl => ?_)
              refine lv_goto (tgt := 8) hx hb dX11_isAdmissible_49 (by decide) ?_
              exact ih (nI 0) (v3 + nI 1) h _ _ _ hP hD hS (lv_sub hl [2, 3, 1, 0] rfl)
            · replace h := h.2 c
              refine lv_iconst (v := nI 1) hx hb dX11_isAdmissible_40 kc_1 ?_
              refine lv_goto (tgt := 45) hx hb dX11_isAdmissible_41 (by decide) ?_
              refine lv_istore_n (lv' := [(2, .int (nI 1)), (0, .ref h0), (1, .int x1), (3, .int v3)]) hx hb dX11_isAdmissible_45 rfl hl (by decide) rfl (fun ls hl => ?_)
              refine lv_iinc (v := v3 + nI 1) (lv' := [(3, .int (v3 + nI 1)), (2, .int (nI 1)), (0, .ref h0), (1, .int x1)]) hx hb dX11_isAdmissible_46 hl (k := 3) rfl (congrArg (fun q => v3 + q) kc_1) (by decide) rfl (fun ls hl => ?_)
              refine lv_goto (tgt := 8) hx hb dX11_isAdmissible_49 (by decide) ?_
              exact ih (nI 1) (v3 + nI 1) h _ _ _ hP hD hS (lv_sub hl [2, 3, 1, 0] rfl)
  unfold wp_X11_isAdmissible at h
  refine lv_aload_n hx hb dX11_isAdmissible_0 rfl (lv_at hl 0 rfl) ?_
  refine lv_iload_n hx hb dX11_isAdmissible_1 rfl (lv_at hl 1 rfl) ?_
  refine hc_ki (wr := [caI G a_defeater 8 g_defeater]) (va_runV (As := [.int x1]) (rest := []) ⟨hx, hb, hml, hown, hts⟩ (c_X11_isFree l G h0 a_w a_kept a_laid a_refusals a_row a_letters a_hit a_lead a_defeat a_defeater a_order a_is a_was a_depths a_ways s.heap.size s_hasImage s_rows s_lettered s_ins s_outs s_ordered s_reading s_isWell s_z g_w g_defeat x1 _ h) (cwV 1 hts gX11_isAdmissible_X11_isFree rfl rfl rfl (by decide +kernel) ⟨Nat.le_of_ble_eq_true rfl, Nat.le_of_ble_eq_true rfl⟩) (hc_pV hK hP hD [0, 1, 2] rfl rfl (ci := 9) 0 rfl rfl) rfl rfl hl.1 rfl (lv_room (Nat.le_of_ble_eq_true rfl)) dX11_isAdmissible_2 ⟨Nat.le_refl _, Nat.le_refl _⟩) hP hD hS hA [0, 1, 2] [3] rfl rfl rfl (by decide) (fun r2 u H locs h hP hD hS => ?_)
  try dsimp only at h
  have hP : va_P G.1 vwCl [caI G a_defeater 8 g_defeater, ceX11 h0 a_w a_kept a_laid s_hasImage a_refusals a_row s_rows a_letters s_lettered a_hit a_lead a_defeat a_defeater s_ins s_outs a_order s_ordered a_is a_was s_reading s_isWell a_depths a_ways s_z, caI G a_w 43 g_w, caI G a_defeat 8 g_defeat] H := hP
  have hD : va_D A [caI G a_defeater 8 g_defeater, ceX11 h0 a_w a_kept a_laid s_hasImage a_refusals a_row s_rows a_letters s_lettered a_hit a_lead a_defeat a_defeater s_ins s_outs a_order s_ordered a_is a_was s_reading s_isWell a_depths a_ways s_z, caI G a_w 43 g_w, caI G a_defeat 8 g_defeat] := hD
  refine lv_istore_n (lv' := [(2, .int r2), (0, .ref h0), (1, .int x1)]) hx hb dX11_isAdmissible_5 rfl hl (by decide) rfl (fun ls hl => ?_)
  refine lv_iconst (v := nI 0) hx hb dX11_isAdmissible_6 kc_0 ?_
  refine lv_istore_n (lv' := [(3, .int (nI 0)), (2, .int r2), (0, .ref h0), (1, .int x1)]) hx hb dX11_isAdmissible_7 rfl hl (by decide) rfl (fun ls hl => ?_)
  obtain ⟨n8, h⟩ := h
  exact w8  n8 r2 (nI 0) h _ _ _ (hP.sub [1, 2, 3, 0] rfl) (hD.sub [1, 2, 3, 0] (by decide) rfl) hS (lv_sub hl [2, 3, 1, 0] rfl)
set_option maxHeartbeats 4000000 in
set_option maxRecDepth 100000 in
theorem c_X11_isComplete (l : Launch) (G : hcG) (h0 : Nat) (a_w : Nat) (a_kept : Nat) (a_laid : Nat) (a_refusals : Nat) (a_row : Nat) (a_letters : Nat) (a_hit : Nat) (a_lead : Nat) (a_defeat : Nat) (a_defeater : Nat) (a_order : Nat) (a_is : Nat) (a_was : Nat) (a_depths : Nat) (a_ways : Nat) (sz : Nat) (s_hasImage : Int32) (s_rows : Int32) (s_lettered : Int32) (s_ins : Int32) (s_outs : Int32) (s_ordered : Int32) (s_reading : Int32) (s_isWell : Int32) (s_z : Int32) (g_w : Nat → Int32) (g_defeat : Nat → Int32) (g_defeater : Nat → Int32) (x1 : Int32) (post : Int32 → Prop) (h : wp_X11_isComplete post g_w g_defeat g_defeater x1) : Met l yX11_isComplete wsX11_isComplete ({ frames := 4, cells := 0, slots := 0, locals := 89 }) (hcPc G [.ref h0, .int x1] [ceX11 h0 a_w a_kept a_laid s_hasImage a_refusals a_row s_rows a_letters s_lettered a_hit a_lead a_defeat a_defeater s_ins s_outs a_order s_ordered a_is a_was s_reading s_isWell a_depths a_ways s_z, caI G a_w 43 g_w, caI G a_defeat 8 g_defeat, caI G a_defeater 8 g_defeater] sz) (va_Qi (fun (r : Int32) (u : Unit) => post r) (hcB G (va_A [ceX11 h0 a_w a_kept a_laid s_hasImage a_refusals a_row s_rows a_letters s_lettered a_hit a_lead a_defeat a_defeater s_ins s_outs a_order s_ordered a_is a_was s_reading s_isWell a_depths a_ways s_z, caI G a_w 43 g_w, caI G a_defeat 8 g_defeat, caI G a_defeater 8 g_defeater] sz) (fun u : Unit => [ceX11 h0 a_w a_kept a_laid s_hasImage a_refusals a_row s_rows a_letters s_lettered a_hit a_lead a_defeat a_defeater s_ins s_outs a_order s_ordered a_is a_was s_reading s_isWell a_depths a_ways s_z, caI G a_w 43 g_w, caI G a_defeat 8 g_defeat, caI G a_defeater 8 g_defeater])) (va_A [ceX11 h0 a_w a_kept a_laid s_hasImage a_refusals a_row s_rows a_letters s_lettered a_hit a_lead a_defeat a_defeater s_ins s_outs a_order s_ordered a_is a_was s_reading s_isWell a_depths a_ways s_z, caI G a_w 43 g_w, caI G a_defeat 8 g_defeat, caI G a_defeater 8 g_defeater] sz)) 0 0 (va_A [ceX11 h0 a_w a_kept a_laid s_hasImage a_refusals a_row s_rows a_letters s_lettered a_hit a_lead a_defeat a_defeater s_ins s_outs a_order s_ordered a_is a_was s_reading s_isWell a_depths a_ways s_z, caI G a_w 43 g_w, caI G a_defeat 8 g_defeat, caI G a_defeater 8 g_defeater] sz) := by
  refine Met.ofW (cc := cX11_isComplete) (maxL := 4) (ret := (some .boolean)) (by decide) rfl ?_
  intro p e s m args below meth c s₁ B hml hv
  obtain ⟨rfl, hsz, hP, hK, hD0⟩ := hv
  have hx := B.exec
  have hb := B.bytes
  have hr := B.returns
  have hts := atoms_spec (ws := wsX11_isComplete) B.pre
  have hown : s.vm.findClass RX11 = some m.cls := findClass_of_methodNamed B.named
  have hlocks := B.notSynchronized
  subst hsz
  have hD := hD0.self (sz := s.heap.size)
  generalize hAe : va_A [ceX11 h0 a_w a_kept a_laid s_hasImage a_refusals a_row s_rows a_letters s_lettered a_hit a_lead a_defeat a_defeater s_ins s_outs a_order s_ordered a_is a_was s_reading s_isWell a_depths a_ways s_z, caI G a_w 43 g_w, caI G a_defeat 8 g_defeat, caI G a_defeater 8 g_defeater] s.heap.size = A at hD ⊢
  have hA : ∀ q : Nat, s.heap.size ≤ q → A q := fun q h => by rw [← hAe]; exact Or.inr h
  have hS : va_S A s.heap s.heap [] := va_S.rf
  have hP : va_P G.1 vwCl [ceX11 h0 a_w a_kept a_laid s_hasImage a_refusals a_row s_rows a_letters s_lettered a_hit a_lead a_defeat a_defeater s_ins s_outs a_order s_ordered a_is a_was s_reading s_isWell a_depths a_ways s_z, caI G a_w 43 g_w, caI G a_defeat 8 g_defeat, caI G a_defeater 8 g_defeater] s.heap := hP
  have hl := lv_entry ([.ref h0, .int x1]) (n := 4) (Nat.le_of_ble_eq_true rfl)
  rw [lg_entry_eq]
  generalize (lg_sl ([.ref h0, .int x1]) ++ List.replicate (4 - (lg_sl ([.ref h0, .int x1])).length) Slot.unset).toArray = ls at hl ⊢
  have hl : lv_has ls 4 [(0, .ref h0), (1, .int x1)] := hl
  have kf0 := hts (.fieldLink RX11 9 "HallOfClaimsModel" "w" "[I") (List.mem_of_getElem? (i := 1) (by decide +kernel))
  have ki_X11 : ∀ w ∈ u_ws RX11 TX11 24, w ∈ wsX11_isComplete := by decide +kernel
  have w8 : ∀ (n : Nat) (v2 : Int32) (v3 : Int32) , wp_X11_isComplete_8 post g_w g_defeat g_defeater x1 n v2 v3 → ∀ (H : Heap) (locs : List Loc) (ls : Array Slot), va_P G.1 vwCl [ceX11 h0 a_w a_kept a_laid s_hasImage a_refusals a_row s_rows a_letters s_lettered a_hit a_lead a_defeat a_defeater s_ins s_outs a_order s_ordered a_is a_was s_reading s_isWell a_depths a_ways s_z, caI G a_w 43 g_w, caI G a_defeat 8 g_defeat, caI G a_defeater 8 g_defeater] H → va_D A [ceX11 h0 a_w a_kept a_laid s_hasImage a_refusals a_row s_rows a_letters s_lettered a_hit a_lead a_defeat a_defeater s_ins s_outs a_order s_ordered a_is a_was s_reading s_isWell a_depths a_ways s_z, caI G a_w 43 g_w, caI G a_defeat 8 g_defeat, caI G a_defeater 8 g_defeater] → va_S A s.heap H locs → lv_has ls 4 [(0, .ref h0), (1, .int x1), (2, .int v2), (3, .int v3)] → W p l e (headSpec wsX11_isComplete ({ frames := 4, cells := 0, slots := 0, locals := 89 })).room s m ([.ref h0, .int x1] : List Value).toArray below meth c H locs 0 0 (MQ below (va_Qi (fun (r : Int32) (u : Unit) => post r) (hcB G A (fun u : Unit => [ceX11 h0 a_w a_kept a_laid s_hasImage a_refusals a_row s_rows a_letters s_lettered a_hit a_lead a_defeat a_defeater s_ins s_outs a_order s_ordered a_is a_was s_reading s_isWell a_depths a_ways s_z, caI G a_w 43 g_w, caI G a_defeat 8 g_defeat, caI G a_defeater 8 g_defeater])) A) ([.ref h0, .int x1] : List Value).toArray s 0 0 A) (F0 m 8 ls []) := by
    intro n
    induction n with
    | zero => intro v2 v3 h; exact h.elim
    | succ n ih =>
      intro v2 v3 h H locs ls hP hD hS hl
      unfold wp_X11_isComplete_8 at h
      refine lv_iload_n hx hb dX11_isComplete_8 rfl (lv_at hl 3 rfl) ?_
      refine lv_aload_n hx hb dX11_isComplete_9 rfl (lv_at hl 0 rfl) ?_
      refine va_get (D := G.1) (ci := 9) (v := .ref a_w) (C := RX11) (T := TX11) (N := 24) hx hb hts ki_X11 hown hK.1 hP 0 rfl rfl 0 (by decide) kf0 (fun _ h9 => h9) rfl dX11_isComplete_10 ?_
      refine lv_bipush (v := nI 42) hx hb dX11_isComplete_13 kb_42 ?_
      have hin := h.1
      replace h := h.2
      refine va_iald hx hb hK.1 hP 1 0 rfl rfl hin dX11_isComplete_15 ?_
      refine lv_icmp_ge (tgt := 60) hx hb dX11_isComplete_16 (by decide) (fun c => ?_) (fun c => ?_)
      · replace h := h.1 c
        refine lv_iload_n hx hb dX11_isComplete_60 rfl (lv_at hl 2 rfl) ?_
        have hz := h.1
        replace h := h.2
        exact W.zret (v := v2) hx hb hr (hc_nar hz) (fun t ht hW => ⟨⟨_, (), rfl, h, ⟨by rw [ht]; exact hP, hD⟩⟩, hS.F ht⟩) hS.2.2 dX11_isComplete_61
      · replace h := h.2 c
        refine lv_iload_n hx hb dX11_isComplete_19 rfl (lv_at hl 2 rfl) ?_
        refine lv_if_eq (tgt := 60) hx hb dX11_isComplete_20 (by decide) (fun c => ?_) (fun c => ?_)
        · replace h := h.1 c
          refine lv_iload_n hx hb dX11_isComplete_60 rfl (lv_at hl 2 rfl) ?_
          have hz := h.1
          replace h := h.2
          exact W.zret (v := v2) hx hb hr (hc_nar hz) (fun t ht hW => ⟨⟨_, (), rfl, h, ⟨by rw [ht]; exact hP, hD⟩⟩, hS.F ht⟩) hS.2.2 dX11_isComplete_61
        · replace h := h.2 c
          refine lv_aload_n hx hb dX11_isComplete_23 rfl (lv_at hl 0 rfl) ?_
          refine lv_iload_n hx hb dX11_isComplete_24 rfl (lv_at hl 3 rfl) ?_
          refine hc_ki (wr := [caI G a_defeat 8 g_defeat, caI G a_defeater 8 g_defeater]) (va_runV (As := [.int v3]) (rest := []) ⟨hx, hb, hml, hown, hts⟩ (c_X11_isHeard l G h0 a_w a_kept a_laid a_refusals a_row a_letters a_hit a_lead a_defeat a_defeater a_order a_is a_was a_depths a_ways H.size s_hasImage s_rows s_lettered s_ins s_outs s_ordered s_reading s_isWell s_z g_w v3 _ h) (cwV 1 hts gX11_isComplete_X11_isHeard rfl rfl rfl (by decide +kernel) ⟨Nat.le_of_ble_eq_true rfl, Nat.le_of_ble_eq_true rfl⟩) (hc_pV hK hP hD [0, 1] rfl rfl (ci := 9) 0 rfl rfl) rfl rfl hl.1 rfl (lv_room (Nat.le_of_ble_eq_true rfl)) dX11_isComplete_25 ⟨Nat.le_refl _, Nat.le_refl _⟩) hP hD hS hA [0, 1] [2, 3] rfl rfl rfl (by decide) (fun r25 u H locs h hP hD hS => ?_)
          try dsimp only at h
          have hP : va_P G.1 vwCl [caI G a_defeat 8 g_defeat, caI G a_defeater 8 g_defeater, ceX11 h0 a_w a_kept a_laid s_hasImage a_refusals a_row s_rows a_letters s_lettered a_hit a_lead a_defeat a_defeater s_ins s_outs a_order s_ordered a_is a_was s_reading s_isWell a_depths a_ways s_z, caI G a_w 43 g_w] H := hP
          have hD : va_D A [caI G a_defeat 8 g_defeat, caI G a_defeater 8 g_defeater, ceX11 h0 a_w a_kept a_laid s_hasImage a_refusals a_row s_rows a_letters s_lettered a_hit a_lead a_defeat a_defeater s_ins s_outs a_order s_ordered a_is a_was s_reading s_isWell a_depths a_ways s_z, caI G a_w 43 g_w] := hD
          refine lv_if_eq (tgt := 48) hx hb dX11_isComplete_28 (by decide) (fun c => ?_) (fun c => ?_)
          · replace h := h.1 c
            refine lv_iconst (v := nI 1) hx hb dX11_isComplete_48 kc_1 ?_
            refine lv_goto (tgt := 53) hx hb dX11_isComplete_49 (by decide) ?_
            refine lv_istore_n (lv' := [(2, .int (nI 1)), (0, .ref h0), (1, .int x1), (3, .int v3)]) hx hb dX11_isComplete_53 rfl hl (by decide) rfl (fun ls hl => ?_)
            refine lv_iinc (v := v3 + nI 1) (lv' := [(3, .int (v3 + nI 1)), (2, .int (nI 1)), (0, .ref h0), (1, .int x1)]) hx hb dX11_isComplete_54 hl (k := 3) rfl (congrArg (fun q => v3 + q) kc_1) (by decide) rfl (fun ls hl => ?_)
            refine lv_goto (tgt := 8) hx hb dX11_isComplete_57 (by decide) ?_
            exact ih (nI 1) (v3 + nI 1) h _ _ _ (hP.sub [2, 3, 0, 1] rfl) (hD.sub [2, 3, 0, 1] (by decide) rfl) hS (lv_sub hl [2, 3, 1, 0] rfl)
          · replace h := h.2 c
            refine lv_iload_n hx hb dX11_isComplete_31 rfl (lv_at hl 1 rfl) ?_
            refine lv_iload_n hx hb dX11_isComplete_32 rfl (lv_at hl 3 rfl) ?_
            refine hc_ki (wr := [caI G a_defeat 8 g_defeat, caI G a_defeater 8 g_defeater, ceX11 h0 a_w a_kept a_laid s_hasImage a_refusals a_row s_rows a_letters s_lettered a_hit a_lead a_defeat a_defeater s_ins s_outs a_order s_ordered a_is a_was s_reading s_isWell a_depths a_ways s_z, caI G a_w 43 g_w]) (va_runS (As := [.int x1, .int v3]) (rest := []) ⟨hx, hb, hml, hown, hts⟩ (c_X11_has l G H.size x1 v3 _ h) (va_cwS 2 hts gX11_isComplete_X11_has rfl rfl rfl (by decide +kernel) ⟨Nat.le_of_ble_eq_true rfl, Nat.le_of_ble_eq_true rfl⟩) (hc_pS hK hP hD [] rfl rfl) rfl rfl hl.1 rfl (lv_room (Nat.le_of_ble_eq_true rfl)) dX11_isComplete_33 ⟨Nat.le_refl _, Nat.le_refl _⟩) hP hD hS hA [] [0, 1, 2, 3] rfl rfl rfl (by decide) (fun r33 u H locs h hP hD hS => ?_)
            try dsimp only at h
            have hP : va_P G.1 vwCl [caI G a_defeat 8 g_defeat, caI G a_defeater 8 g_defeater, ceX11 h0 a_w a_kept a_laid s_hasImage a_refusals a_row s_rows a_letters s_lettered a_hit a_lead a_defeat a_defeater s_ins s_outs a_order s_ordered a_is a_was s_reading s_isWell a_depths a_ways s_z, caI G a_w 43 g_w] H := hP
            have hD : va_D A [caI G a_defeat 8 g_defeat, caI G a_defeater 8 g_defeater, ceX11 h0 a_w a_kept a_laid s_hasImage a_refusals a_row s_rows a_letters s_lettered a_hit a_lead a_defeat a_defeater s_ins s_outs a_order s_ordered a_is a_was s_reading s_isWell a_depths a_ways s_z, caI G a_w 43 g_w] := hD
            refine lv_if_ne (tgt := 48) hx hb dX11_isComplete_36 (by decide) (fun c => ?_) (fun c => ?_)
            · replace h := h.1 c
              refine lv_iconst (v := nI 1) hx hb dX11_isComplete_48 kc_1 ?_
              refine lv_goto (tgt := 53) hx hb dX11_isComplete_49 (by decide) ?_
              refine lv_istore_n (lv' := [(2, .int (nI 1)), (0, .ref h0), (1, .int x1), (3, .int v3)]) hx hb dX11_isComplete_53 rfl hl (by decide) rfl (fun ls hl => ?_)
              refine lv_iinc (v := v3 + nI 1) (lv' := [(3, .int (v3 + nI 1)), (2, .int (nI 1)), (0, .ref h0), (1, .int x1)]) hx hb dX11_isComplete_54 hl (k := 3) rfl (congrArg (fun q => v3 + q) kc_1) (by decide) rfl (fun ls hl => ?_)
              refine lv_goto (tgt := 8) hx hb dX11_isComplete_57 (by decide) ?_
              exact ih (nI 1) (v3 + nI 1) h _ _ _ (hP.sub [2, 3, 0, 1] rfl) (hD.sub [2, 3, 0, 1] (by decide) rfl) hS (lv_sub hl [2, 3, 1, 0] rfl)
            · replace h := h.2 c
              refine lv_aload_n hx hb dX11_isComplete_39 rfl (lv_at hl 0 rfl) ?_
              refine lv_iload_n hx hb dX11_isComplete_40 rfl (lv_at hl 1 rfl) ?_
              refine lv_iload_n hx hb dX11_isComplete_41 rfl (lv_at hl 3 rfl) ?_
              refine hc_ki (wr := []) (va_runV (As := [.int x1, .int v3]) (rest := []) ⟨hx, hb, hml, hown, hts⟩ (c_X11_keeps l G h0 a_w a_kept a_laid a_refusals a_row a_letters a_hit a_lead a_defeat a_defeater a_order a_is a_was a_depths a_ways H.size s_hasImage s_rows s_lettered s_ins s_outs s_ordered s_reading s_isWell s_z g_w g_defeat g_defeater x1 v3 _ h) (cwV 2 hts gX11_isComplete_X11_keeps rfl rfl rfl (by decide +kernel) ⟨Nat.le_of_ble_eq_true rfl, Nat.le_of_ble_eq_true rfl⟩) (hc_pV hK hP hD [2, 3, 0, 1] rfl rfl (ci := 9) 2 rfl rfl) rfl rfl hl.1 rfl (lv_room (Nat.le_of_ble_eq_true rfl)) dX11_isComplete_42 ⟨Nat.le_refl _, Nat.le_refl _⟩) hP hD hS hA [2, 3, 0, 1] [] rfl rfl rfl (by decide) (fun r42 u H locs h hP hD hS => ?_)
              try dsimp only at h
              have hP : va_P G.1 vwCl [ceX11 h0 a_w a_kept a_laid s_hasImage a_refusals a_row s_rows a_letters s_lettered a_hit a_lead a_defeat a_defeater s_ins s_outs a_order s_ordered a_is a_was s_reading s_isWell a_depths a_ways s_z, caI G a_w 43 g_w, caI G a_defeat 8 g_defeat, caI G a_defeater 8 g_defeater] H := hP
              have hD : va_D A [ceX11 h0 a_w a_kept a_laid s_hasImage a_refusals a_row s_rows a_letters s_lettered a_hit a_lead a_defeat a_defeater s_ins s_outs a_order s_ordered a_is a_was s_reading s_isWell a_depths a_ways s_z, caI G a_w 43 g_w, caI G a_defeat 8 g_defeat, caI G a_defeater 8 g_defeater] := hD
              refine lv_if_ne (tgt := 52) hx hb dX11_isComplete_45 (by decide) (fun c => ?_) (fun c => ?_)
              · replace h := h.1 c
                refine lv_iconst (v := nI 0) hx hb dX11_isComplete_52 kc_0 ?_
                refine lv_istore_n (lv' := [(2, .int (nI 0)), (0, .ref h0), (1, .int x1), (3, .int v3)]) hx hb dX11_isComplete_53 rfl hl (by decide) rfl (fun ls hl => ?_)
                refine lv_iinc (v := v3 + nI 1) (lv' := [(3, .int (v3 + nI 1)), (2, .int (nI 0)), (0, .ref h0), (1, .int x1)]) hx hb dX11_isComplete_54 hl (k := 3) rfl (congrArg (fun q => v3 + q) kc_1) (by decide) rfl (fun ls hl => ?_)
                refine lv_goto (tgt := 8) hx hb dX11_isComplete_57 (by decide) ?_
                exact ih (nI 0) (v3 + nI 1) h _ _ _ hP hD hS (lv_sub hl [2, 3, 1, 0] rfl)
              · replace h := h.2 c
                refine lv_iconst (v := nI 1) hx hb dX11_isComplete_48 kc_1 ?_
                refine lv_goto (tgt := 53) hx hb dX11_isComplete_49 (by decide) ?_
                refine lv_istore_n (lv' := [(2, .int (nI 1)), (0, .ref h0), (1, .int x1), (3, .int v3)]) hx hb dX11_isComplete_53 rfl hl (by decide) rfl (fun ls hl => ?_)
                refine lv_iinc (v := v3 + nI 1) (lv' := [(3, .int (v3 + nI 1)), (2, .int (nI 1)), (0, .ref h0), (1, .int x1)]) hx hb dX11_isComplete_54 hl (k := 3) rfl (congrArg (fun q => v3 + q) kc_1) (by decide) rfl (fun ls hl => ?_)
                refine lv_goto (tgt := 8) hx hb dX11_isComplete_57 (by decide) ?_
                exact ih (nI 1) (v3 + nI 1) h _ _ _ hP hD hS (lv_sub hl [2, 3, 1, 0] rfl)
  unfold wp_X11_isComplete at h
  refine lv_aload_n hx hb dX11_isComplete_0 rfl (lv_at hl 0 rfl) ?_
  refine lv_iload_n hx hb dX11_isComplete_1 rfl (lv_at hl 1 rfl) ?_
  refine hc_ki (wr := []) (va_runV (As := [.int x1]) (rest := []) ⟨hx, hb, hml, hown, hts⟩ (c_X11_isAdmissible l G h0 a_w a_kept a_laid a_refusals a_row a_letters a_hit a_lead a_defeat a_defeater a_order a_is a_was a_depths a_ways s.heap.size s_hasImage s_rows s_lettered s_ins s_outs s_ordered s_reading s_isWell s_z g_w g_defeat g_defeater x1 _ h) (cwV 1 hts gX11_isComplete_X11_isAdmissible rfl rfl rfl (by decide +kernel) ⟨Nat.le_of_ble_eq_true rfl, Nat.le_of_ble_eq_true rfl⟩) (hc_pV hK hP hD [0, 1, 2, 3] rfl rfl (ci := 9) 0 rfl rfl) rfl rfl hl.1 rfl (lv_room (Nat.le_of_ble_eq_true rfl)) dX11_isComplete_2 ⟨Nat.le_refl _, Nat.le_refl _⟩) hP hD hS hA [0, 1, 2, 3] [] rfl rfl rfl (by decide) (fun r2 u H locs h hP hD hS => ?_)
  try dsimp only at h
  have hP : va_P G.1 vwCl [ceX11 h0 a_w a_kept a_laid s_hasImage a_refusals a_row s_rows a_letters s_lettered a_hit a_lead a_defeat a_defeater s_ins s_outs a_order s_ordered a_is a_was s_reading s_isWell a_depths a_ways s_z, caI G a_w 43 g_w, caI G a_defeat 8 g_defeat, caI G a_defeater 8 g_defeater] H := hP
  have hD : va_D A [ceX11 h0 a_w a_kept a_laid s_hasImage a_refusals a_row s_rows a_letters s_lettered a_hit a_lead a_defeat a_defeater s_ins s_outs a_order s_ordered a_is a_was s_reading s_isWell a_depths a_ways s_z, caI G a_w 43 g_w, caI G a_defeat 8 g_defeat, caI G a_defeater 8 g_defeater] := hD
  refine lv_istore_n (lv' := [(2, .int r2), (0, .ref h0), (1, .int x1)]) hx hb dX11_isComplete_5 rfl hl (by decide) rfl (fun ls hl => ?_)
  refine lv_iconst (v := nI 0) hx hb dX11_isComplete_6 kc_0 ?_
  refine lv_istore_n (lv' := [(3, .int (nI 0)), (2, .int r2), (0, .ref h0), (1, .int x1)]) hx hb dX11_isComplete_7 rfl hl (by decide) rfl (fun ls hl => ?_)
  obtain ⟨n8, h⟩ := h
  exact w8  n8 r2 (nI 0) h _ _ _ hP hD hS (lv_sub hl [2, 3, 1, 0] rfl)
set_option maxHeartbeats 4000000 in
set_option maxRecDepth 100000 in
theorem c_X11_isStable (l : Launch) (G : hcG) (h0 : Nat) (a_w : Nat) (a_kept : Nat) (a_laid : Nat) (a_refusals : Nat) (a_row : Nat) (a_letters : Nat) (a_hit : Nat) (a_lead : Nat) (a_defeat : Nat) (a_defeater : Nat) (a_order : Nat) (a_is : Nat) (a_was : Nat) (a_depths : Nat) (a_ways : Nat) (sz : Nat) (s_hasImage : Int32) (s_rows : Int32) (s_lettered : Int32) (s_ins : Int32) (s_outs : Int32) (s_ordered : Int32) (s_reading : Int32) (s_isWell : Int32) (s_z : Int32) (g_w : Nat → Int32) (g_defeat : Nat → Int32) (x1 : Int32) (post : Int32 → Prop) (h : wp_X11_isStable post g_w g_defeat x1) : Met l yX11_isStable wsX11_isStable ({ frames := 3, cells := 0, slots := 0, locals := 65 }) (hcPc G [.ref h0, .int x1] [ceX11 h0 a_w a_kept a_laid s_hasImage a_refusals a_row s_rows a_letters s_lettered a_hit a_lead a_defeat a_defeater s_ins s_outs a_order s_ordered a_is a_was s_reading s_isWell a_depths a_ways s_z, caI G a_w 43 g_w, caI G a_defeat 8 g_defeat] sz) (va_Qi (fun (r : Int32) (u : Unit) => post r) (hcB G (va_A [ceX11 h0 a_w a_kept a_laid s_hasImage a_refusals a_row s_rows a_letters s_lettered a_hit a_lead a_defeat a_defeater s_ins s_outs a_order s_ordered a_is a_was s_reading s_isWell a_depths a_ways s_z, caI G a_w 43 g_w, caI G a_defeat 8 g_defeat] sz) (fun u : Unit => [ceX11 h0 a_w a_kept a_laid s_hasImage a_refusals a_row s_rows a_letters s_lettered a_hit a_lead a_defeat a_defeater s_ins s_outs a_order s_ordered a_is a_was s_reading s_isWell a_depths a_ways s_z, caI G a_w 43 g_w, caI G a_defeat 8 g_defeat])) (va_A [ceX11 h0 a_w a_kept a_laid s_hasImage a_refusals a_row s_rows a_letters s_lettered a_hit a_lead a_defeat a_defeater s_ins s_outs a_order s_ordered a_is a_was s_reading s_isWell a_depths a_ways s_z, caI G a_w 43 g_w, caI G a_defeat 8 g_defeat] sz)) 0 0 (va_A [ceX11 h0 a_w a_kept a_laid s_hasImage a_refusals a_row s_rows a_letters s_lettered a_hit a_lead a_defeat a_defeater s_ins s_outs a_order s_ordered a_is a_was s_reading s_isWell a_depths a_ways s_z, caI G a_w 43 g_w, caI G a_defeat 8 g_defeat] sz) := by
  refine Met.ofW (cc := cX11_isStable) (maxL := 2) (ret := (some .boolean)) (by decide) rfl ?_
  intro p e s m args below meth c s₁ B hml hv
  obtain ⟨rfl, hsz, hP, hK, hD0⟩ := hv
  have hx := B.exec
  have hb := B.bytes
  have hr := B.returns
  have hts := atoms_spec (ws := wsX11_isStable) B.pre
  have hown : s.vm.findClass RX11 = some m.cls := findClass_of_methodNamed B.named
  have hlocks := B.notSynchronized
  subst hsz
  have hD := hD0.self (sz := s.heap.size)
  generalize hAe : va_A [ceX11 h0 a_w a_kept a_laid s_hasImage a_refusals a_row s_rows a_letters s_lettered a_hit a_lead a_defeat a_defeater s_ins s_outs a_order s_ordered a_is a_was s_reading s_isWell a_depths a_ways s_z, caI G a_w 43 g_w, caI G a_defeat 8 g_defeat] s.heap.size = A at hD ⊢
  have hA : ∀ q : Nat, s.heap.size ≤ q → A q := fun q h => by rw [← hAe]; exact Or.inr h
  have hS : va_S A s.heap s.heap [] := va_S.rf
  have hP : va_P G.1 vwCl [ceX11 h0 a_w a_kept a_laid s_hasImage a_refusals a_row s_rows a_letters s_lettered a_hit a_lead a_defeat a_defeater s_ins s_outs a_order s_ordered a_is a_was s_reading s_isWell a_depths a_ways s_z, caI G a_w 43 g_w, caI G a_defeat 8 g_defeat] s.heap := hP
  have hl := lv_entry ([.ref h0, .int x1]) (n := 2) (Nat.le_of_ble_eq_true rfl)
  rw [lg_entry_eq]
  generalize (lg_sl ([.ref h0, .int x1]) ++ List.replicate (2 - (lg_sl ([.ref h0, .int x1])).length) Slot.unset).toArray = ls at hl ⊢
  have hl : lv_has ls 2 [(0, .ref h0), (1, .int x1)] := hl
  have kf0 := hts (.fieldLink RX11 9 "HallOfClaimsModel" "w" "[I") (List.mem_of_getElem? (i := 1) (by decide +kernel))
  have ki_X11 : ∀ w ∈ u_ws RX11 TX11 24, w ∈ wsX11_isStable := by decide +kernel
  unfold wp_X11_isStable at h
  refine lv_aload_n hx hb dX11_isStable_0 rfl (lv_at hl 0 rfl) ?_
  refine lv_iload_n hx hb dX11_isStable_1 rfl (lv_at hl 1 rfl) ?_
  refine hc_ki (wr := []) (va_runV (As := [.int x1]) (rest := []) ⟨hx, hb, hml, hown, hts⟩ (c_X11_isFree l G h0 a_w a_kept a_laid a_refusals a_row a_letters a_hit a_lead a_defeat a_defeater a_order a_is a_was a_depths a_ways s.heap.size s_hasImage s_rows s_lettered s_ins s_outs s_ordered s_reading s_isWell s_z g_w g_defeat x1 _ h) (cwV 1 hts gX11_isStable_X11_isFree rfl rfl rfl (by decide +kernel) ⟨Nat.le_of_ble_eq_true rfl, Nat.le_of_ble_eq_true rfl⟩) (hc_pV hK hP hD [0, 1, 2] rfl rfl (ci := 9) 0 rfl rfl) rfl rfl hl.1 rfl (lv_room (Nat.le_of_ble_eq_true rfl)) dX11_isStable_2 ⟨Nat.le_refl _, Nat.le_refl _⟩) hP hD hS hA [0, 1, 2] [] rfl rfl rfl (by decide) (fun r2 u H locs h hP hD hS => ?_)
  try dsimp only at h
  have hP : va_P G.1 vwCl [ceX11 h0 a_w a_kept a_laid s_hasImage a_refusals a_row s_rows a_letters s_lettered a_hit a_lead a_defeat a_defeater s_ins s_outs a_order s_ordered a_is a_was s_reading s_isWell a_depths a_ways s_z, caI G a_w 43 g_w, caI G a_defeat 8 g_defeat] H := hP
  have hD : va_D A [ceX11 h0 a_w a_kept a_laid s_hasImage a_refusals a_row s_rows a_letters s_lettered a_hit a_lead a_defeat a_defeater s_ins s_outs a_order s_ordered a_is a_was s_reading s_isWell a_depths a_ways s_z, caI G a_w 43 g_w, caI G a_defeat 8 g_defeat] := hD
  refine lv_if_eq (tgt := 34) hx hb dX11_isStable_5 (by decide) (fun c => ?_) (fun c => ?_)
  · replace h := h.1 c
    refine lv_iconst (v := nI 0) hx hb dX11_isStable_34 kc_0 ?_
    exact W.zret (v := nI 0) hx hb hr rfl (fun t ht hW => ⟨⟨_, (), rfl, h, ⟨by rw [ht]; exact hP, hD⟩⟩, hS.F ht⟩) hS.2.2 dX11_isStable_35
  · replace h := h.2 c
    refine lv_aload_n hx hb dX11_isStable_8 rfl (lv_at hl 0 rfl) ?_
    refine va_get (D := G.1) (ci := 9) (v := .ref a_w) (C := RX11) (T := TX11) (N := 24) hx hb hts ki_X11 hown hK.1 hP 0 rfl rfl 0 (by decide) kf0 (fun _ h9 => h9) rfl dX11_isStable_9 ?_
    refine lv_bipush (v := nI 40) hx hb dX11_isStable_12 kb_40 ?_
    have hin := h.1
    replace h := h.2
    refine va_iald hx hb hK.1 hP 1 0 rfl rfl hin dX11_isStable_14 ?_
    refine lv_iload_n hx hb dX11_isStable_15 rfl (lv_at hl 1 rfl) ?_
    refine lv_iconst (v := (-1 : Int32)) hx hb dX11_isStable_16 kc_m1 ?_
    refine lv_ixor hx hb dX11_isStable_17 ?_
    refine lv_iand hx hb dX11_isStable_18 ?_
    refine lv_aload_n hx hb dX11_isStable_19 rfl (lv_at hl 0 rfl) ?_
    refine lv_iload_n hx hb dX11_isStable_20 rfl (lv_at hl 1 rfl) ?_
    refine hc_ki (wr := []) (va_runV (As := [.int x1]) (rest := [.int ((g_w (nI 40).toNatClampNeg) &&& (x1 ^^^ ((-1 : Int32))))]) ⟨hx, hb, hml, hown, hts⟩ (c_X11_defeatedBy l G h0 a_w a_kept a_laid a_refusals a_row a_letters a_hit a_lead a_defeat a_defeater a_order a_is a_was a_depths a_ways H.size s_hasImage s_rows s_lettered s_ins s_outs s_ordered s_reading s_isWell s_z g_w g_defeat x1 _ h) (cwV 1 hts gX11_isStable_X11_defeatedBy rfl rfl rfl (by decide +kernel) ⟨Nat.le_of_ble_eq_true rfl, Nat.le_of_ble_eq_true rfl⟩) (hc_pV hK hP hD [0, 1, 2] rfl rfl (ci := 9) 0 rfl rfl) rfl rfl hl.1 rfl (lv_room (Nat.le_of_ble_eq_true rfl)) dX11_isStable_21 ⟨Nat.le_refl _, Nat.le_refl _⟩) hP hD hS hA [0, 1, 2] [] rfl rfl rfl (by decide) (fun r21 u H locs h hP hD hS => ?_)
    try dsimp only at h
    have hP : va_P G.1 vwCl [ceX11 h0 a_w a_kept a_laid s_hasImage a_refusals a_row s_rows a_letters s_lettered a_hit a_lead a_defeat a_defeater s_ins s_outs a_order s_ordered a_is a_was s_reading s_isWell a_depths a_ways s_z, caI G a_w 43 g_w, caI G a_defeat 8 g_defeat] H := hP
    have hD : va_D A [ceX11 h0 a_w a_kept a_laid s_hasImage a_refusals a_row s_rows a_letters s_lettered a_hit a_lead a_defeat a_defeater s_ins s_outs a_order s_ordered a_is a_was s_reading s_isWell a_depths a_ways s_z, caI G a_w 43 g_w, caI G a_defeat 8 g_defeat] := hD
    refine lv_iconst (v := (-1 : Int32)) hx hb dX11_isStable_24 kc_m1 ?_
    refine lv_ixor hx hb dX11_isStable_25 ?_
    refine lv_iand hx hb dX11_isStable_26 ?_
    refine lv_if_ne (tgt := 34) hx hb dX11_isStable_27 (by decide) (fun c => ?_) (fun c => ?_)
    · replace h := h.1 c
      refine lv_iconst (v := nI 0) hx hb dX11_isStable_34 kc_0 ?_
      exact W.zret (v := nI 0) hx hb hr rfl (fun t ht hW => ⟨⟨_, (), rfl, h, ⟨by rw [ht]; exact hP, hD⟩⟩, hS.F ht⟩) hS.2.2 dX11_isStable_35
    · replace h := h.2 c
      refine lv_iconst (v := nI 1) hx hb dX11_isStable_30 kc_1 ?_
      refine lv_goto (tgt := 35) hx hb dX11_isStable_31 (by decide) ?_
      exact W.zret (v := nI 1) hx hb hr rfl (fun t ht hW => ⟨⟨_, (), rfl, h, ⟨by rw [ht]; exact hP, hD⟩⟩, hS.F ht⟩) hS.2.2 dX11_isStable_35
