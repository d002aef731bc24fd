set_option maxHeartbeats 4000000 in
set_option maxRecDepth 100000 in
theorem c_X11_changes (l : Launch) (G : hcG) (h0 : Nat) (a_w : Nat) (a_kept : Nat) (a_laid : Nat) (a_refusals : Nat) (a_row : Nat) (a_letters : Nat) (a_hit : Nat) (a_lead : Nat) (a_defeat : Nat) (a_defeater : Nat) (a_order : Nat) (a_is : Nat) (a_was : Nat) (a_depths : Nat) (a_ways : Nat) (sz : Nat) (s_hasImage : Int32) (s_rows : Int32) (s_lettered : Int32) (s_ins : Int32) (s_outs : Int32) (s_ordered : Int32) (s_reading : Int32) (s_isWell : Int32) (s_z : Int32) (g_w : Nat → Int32) (g_refusals : Nat → Int32) (g_hit : Nat → Int32) (g_lead : Nat → Int32) (g_defeat : Nat → Int32) (g_defeater : Nat → Int32) (g_order : Nat → Int32) (x1 : Int32) (x2 : Int32) (post : Int32 → (Nat → Int32) → (Nat → Int32) → (Nat → Int32) → (Nat → Int32) → (Nat → Int32) → (Nat → Int32) → Int32 → Int32 → (Nat → Int32) → Int32 → Prop) (h : wp_X11_changes post g_w g_refusals g_hit g_lead g_defeat g_defeater s_ins s_outs g_order s_ordered x1 x2) : Met l yX11_changes wsX11_changes ({ frames := 6, cells := 0, slots := 0, locals := 128 }) (hcPc G [.ref h0, .int x1, .int x2] [ceX11 h0 a_w a_kept a_laid s_hasImage a_refusals a_row s_rows a_letters s_lettered a_hit a_lead a_defeat a_defeater s_ins s_outs a_order s_ordered a_is a_was s_reading s_isWell a_depths a_ways s_z, caI G a_w 43 g_w, caI G a_refusals 7 g_refusals, caI G a_hit 8 g_hit, caI G a_lead 8 g_lead, caI G a_defeat 8 g_defeat, caI G a_defeater 8 g_defeater, caI G a_order 8 g_order] sz) (va_Qi (fun (r : Int32) (u : (Nat → Int32) × (Nat → Int32) × (Nat → Int32) × (Nat → Int32) × (Nat → Int32) × (Nat → Int32) × Int32 × Int32 × (Nat → Int32) × Int32) => post r u.1 u.2.1 u.2.2.1 u.2.2.2.1 u.2.2.2.2.1 u.2.2.2.2.2.1 u.2.2.2.2.2.2.1 u.2.2.2.2.2.2.2.1 u.2.2.2.2.2.2.2.2.1 u.2.2.2.2.2.2.2.2.2) (hcB G (va_A [ceX11 h0 a_w a_kept a_laid s_hasImage a_refusals a_row s_rows a_letters s_lettered a_hit a_lead a_defeat a_defeater s_ins s_outs a_order s_ordered a_is a_was s_reading s_isWell a_depths a_ways s_z, caI G a_w 43 g_w, caI G a_refusals 7 g_refusals, caI G a_hit 8 g_hit, caI G a_lead 8 g_lead, caI G a_defeat 8 g_defeat, caI G a_defeater 8 g_defeater, caI G a_order 8 g_order] sz) (fun u : (Nat → Int32) × (Nat → Int32) × (Nat → Int32) × (Nat → Int32) × (Nat → Int32) × (Nat → Int32) × Int32 × Int32 × (Nat → Int32) × Int32 => [ceX11 h0 a_w a_kept a_laid s_hasImage a_refusals a_row s_rows a_letters s_lettered a_hit a_lead a_defeat a_defeater u.2.2.2.2.2.2.1 u.2.2.2.2.2.2.2.1 a_order u.2.2.2.2.2.2.2.2.2 a_is a_was s_reading s_isWell a_depths a_ways s_z, caI G a_w 43 u.1, caI G a_refusals 7 u.2.1, caI G a_hit 8 u.2.2.1, caI G a_lead 8 u.2.2.2.1, caI G a_defeat 8 u.2.2.2.2.1, caI G a_defeater 8 u.2.2.2.2.2.1, caI G a_order 8 u.2.2.2.2.2.2.2.2.1])) (va_A [ceX11 h0 a_w a_kept a_laid s_hasImage a_refusals a_row s_rows a_letters s_lettered a_hit a_lead a_defeat a_defeater s_ins s_outs a_order s_ordered a_is a_was s_reading s_isWell a_depths a_ways s_z, caI G a_w 43 g_w, caI G a_refusals 7 g_refusals, caI G a_hit 8 g_hit, caI G a_lead 8 g_lead, caI G a_defeat 8 g_defeat, caI G a_defeater 8 g_defeater, caI G a_order 8 g_order] sz)) 0 0 (va_A [ceX11 h0 a_w a_kept a_laid s_hasImage a_refusals a_row s_rows a_letters s_lettered a_hit a_lead a_defeat a_defeater s_ins s_outs a_order s_ordered a_is a_was s_reading s_isWell a_depths a_ways s_z, caI G a_w 43 g_w, caI G a_refusals 7 g_refusals, caI G a_hit 8 g_hit, caI G a_lead 8 g_lead, caI G a_defeat 8 g_defeat, caI G a_defeater 8 g_defeater, caI G a_order 8 g_order] sz) := by
  refine Met.ofW (cc := cX11_changes) (maxL := 9) (ret := (some .int)) (by decide) rfl ?_
  intro p e s m args below meth c s₁ B hml hv
  obtain ⟨rfl, hsz, hP, hK, hD0⟩ := hv
  have hx := B.exec
  have hb := B.bytes
  have hr := B.returns
  have hts := atoms_spec (ws := wsX11_changes) B.pre
  have hown : s.vm.findClass RX11 = some m.cls := findClass_of_methodNamed B.named
  have hlocks := B.notSynchronized
  subst hsz
  have hD := hD0.self (sz := s.heap.size)
  generalize hAe : va_A [ceX11 h0 a_w a_kept a_laid s_hasImage a_refusals a_row s_rows a_letters s_lettered a_hit a_lead a_defeat a_defeater s_ins s_outs a_order s_ordered a_is a_was s_reading s_isWell a_depths a_ways s_z, caI G a_w 43 g_w, caI G a_refusals 7 g_refusals, caI G a_hit 8 g_hit, caI G a_lead 8 g_lead, caI G a_defeat 8 g_defeat, caI G a_defeater 8 g_defeater, caI G a_order 8 g_order] s.heap.size = A at hD ⊢
  have hA : ∀ q : Nat, s.heap.size ≤ q → A q := fun q h => by rw [← hAe]; exact Or.inr h
  have hS : va_S A s.heap s.heap [] := va_S.rf
  have hP : va_P G.1 vwCl [ceX11 h0 a_w a_kept a_laid s_hasImage a_refusals a_row s_rows a_letters s_lettered a_hit a_lead a_defeat a_defeater s_ins s_outs a_order s_ordered a_is a_was s_reading s_isWell a_depths a_ways s_z, caI G a_w 43 g_w, caI G a_refusals 7 g_refusals, caI G a_hit 8 g_hit, caI G a_lead 8 g_lead, caI G a_defeat 8 g_defeat, caI G a_defeater 8 g_defeater, caI G a_order 8 g_order] s.heap := hP
  have hl := lv_entry ([.ref h0, .int x1, .int x2]) (n := 9) (Nat.le_of_ble_eq_true rfl)
  rw [lg_entry_eq]
  generalize (lg_sl ([.ref h0, .int x1, .int x2]) ++ List.replicate (9 - (lg_sl ([.ref h0, .int x1, .int x2])).length) Slot.unset).toArray = ls at hl ⊢
  have hl : lv_has ls 9 [(0, .ref h0), (1, .int x1), (2, .int x2)] := hl
  have kf0 := hts (.fieldLink RX11 9 "HallOfClaimsModel" "w" "[I") (List.mem_of_getElem? (i := 1) (by decide +kernel))
  have ki_X11 : ∀ w ∈ u_ws RX11 TX11 24, w ∈ wsX11_changes := by decide +kernel
  have w168 : ∀ (K62 : Int32 → Int32 → Int32 → Int32 → (Nat → Int32) → (Nat → Int32) → (Nat → Int32) → (Nat → Int32) → (Nat → Int32) → (Nat → Int32) → Int32 → Int32 → (Nat → Int32) → Int32 → Prop), (∀ (v3 : Int32) (v4 : Int32) (v5 : Int32) (v6 : Int32) (g_w : Nat → Int32) (g_refusals : Nat → Int32) (g_hit : Nat → Int32) (g_lead : Nat → Int32) (g_defeat : Nat → Int32) (g_defeater : Nat → Int32) (s_ins : Int32) (s_outs : Int32) (g_order : Nat → Int32) (s_ordered : Int32) , K62 v3 v4 v5 v6 g_w g_refusals g_hit g_lead g_defeat g_defeater s_ins s_outs g_order s_ordered → ∀ (H : Heap) (locs : List Loc) (ls : Array Slot), va_P G.1 vwCl [ceX11 h0 a_w a_kept a_laid s_hasImage a_refusals a_row s_rows a_letters s_lettered a_hit a_lead a_defeat a_defeater s_ins s_outs a_order s_ordered a_is a_was s_reading s_isWell a_depths a_ways s_z, caI G a_w 43 g_w, caI G a_refusals 7 g_refusals, caI G a_hit 8 g_hit, caI G a_lead 8 g_lead, caI G a_defeat 8 g_defeat, caI G a_defeater 8 g_defeater, caI G a_order 8 g_order] H → va_D A [ceX11 h0 a_w a_kept a_laid s_hasImage a_refusals a_row s_rows a_letters s_lettered a_hit a_lead a_defeat a_defeater s_ins s_outs a_order s_ordered a_is a_was s_reading s_isWell a_depths a_ways s_z, caI G a_w 43 g_w, caI G a_refusals 7 g_refusals, caI G a_hit 8 g_hit, caI G a_lead 8 g_lead, caI G a_defeat 8 g_defeat, caI G a_defeater 8 g_defeater, caI G a_order 8 g_order] → va_S A s.heap H locs → lv_has ls 9 [(0, .ref h0), (1, .int x1), (2, .int x2), (3, .int v3), (4, .int v4), (5, .int v5), (6, .int v6)] → W p l e (headSpec wsX11_changes ({ frames := 6, cells := 0, slots := 0, locals := 128 })).room s m ([.ref h0, .int x1, .int x2] : List Value).toArray below meth c H locs 0 0 (MQ below (va_Qi (fun (r : Int32) (u : (Nat → Int32) × (Nat → Int32) × (Nat → Int32) × (Nat → Int32) × (Nat → Int32) × (Nat → Int32) × Int32 × Int32 × (Nat → Int32) × Int32) => post r u.1 u.2.1 u.2.2.1 u.2.2.2.1 u.2.2.2.2.1 u.2.2.2.2.2.1 u.2.2.2.2.2.2.1 u.2.2.2.2.2.2.2.1 u.2.2.2.2.2.2.2.2.1 u.2.2.2.2.2.2.2.2.2) (hcB G A (fun u : (Nat → Int32) × (Nat → Int32) × (Nat → Int32) × (Nat → Int32) × (Nat → Int32) × (Nat → Int32) × Int32 × Int32 × (Nat → Int32) × Int32 => [ceX11 h0 a_w a_kept a_laid s_hasImage a_refusals a_row s_rows a_letters s_lettered a_hit a_lead a_defeat a_defeater u.2.2.2.2.2.2.1 u.2.2.2.2.2.2.2.1 a_order u.2.2.2.2.2.2.2.2.2 a_is a_was s_reading s_isWell a_depths a_ways s_z, caI G a_w 43 u.1, caI G a_refusals 7 u.2.1, caI G a_hit 8 u.2.2.1, caI G a_lead 8 u.2.2.2.1, caI G a_defeat 8 u.2.2.2.2.1, caI G a_defeater 8 u.2.2.2.2.2.1, caI G a_order 8 u.2.2.2.2.2.2.2.2.1])) A) ([.ref h0, .int x1, .int x2] : List Value).toArray s 0 0 A) (F0 m 62 ls [])) → ∀ (K77 : Int32 → Int32 → Int32 → Int32 → Int32 → (Nat → Int32) → (Nat → Int32) → (Nat → Int32) → (Nat → Int32) → (Nat → Int32) → (Nat → Int32) → Int32 → Int32 → (Nat → Int32) → Int32 → Prop), (∀ (v3 : Int32) (v4 : Int32) (v5 : Int32) (v6 : Int32) (v7 : Int32) (g_w : Nat → Int32) (g_refusals : Nat → Int32) (g_hit : Nat → Int32) (g_lead : Nat → Int32) (g_defeat : Nat → Int32) (g_defeater : Nat → Int32) (s_ins : Int32) (s_outs : Int32) (g_order : Nat → Int32) (s_ordered : Int32) , K77 v3 v4 v5 v6 v7 g_w g_refusals g_hit g_lead g_defeat g_defeater s_ins s_outs g_order s_ordered → ∀ (H : Heap) (locs : List Loc) (ls : Array Slot), va_P G.1 vwCl [ceX11 h0 a_w a_kept a_laid s_hasImage a_refusals a_row s_rows a_letters s_lettered a_hit a_lead a_defeat a_defeater s_ins s_outs a_order s_ordered a_is a_was s_reading s_isWell a_depths a_ways s_z, caI G a_w 43 g_w, caI G a_refusals 7 g_refusals, caI G a_hit 8 g_hit, caI G a_lead 8 g_lead, caI G a_defeat 8 g_defeat, caI G a_defeater 8 g_defeater, caI G a_order 8 g_order] H → va_D A [ceX11 h0 a_w a_kept a_laid s_hasImage a_refusals a_row s_rows a_letters s_lettered a_hit a_lead a_defeat a_defeater s_ins s_outs a_order s_ordered a_is a_was s_reading s_isWell a_depths a_ways s_z, caI G a_w 43 g_w, caI G a_refusals 7 g_refusals, caI G a_hit 8 g_hit, caI G a_lead 8 g_lead, caI G a_defeat 8 g_defeat, caI G a_defeater 8 g_defeater, caI G a_order 8 g_order] → va_S A s.heap H locs → lv_has ls 9 [(0, .ref h0), (1, .int x1), (2, .int x2), (3, .int v3), (4, .int v4), (5, .int v5), (6, .int v6), (7, .int v7)] → W p l e (headSpec wsX11_changes ({ frames := 6, cells := 0, slots := 0, locals := 128 })).room s m ([.ref h0, .int x1, .int x2] : List Value).toArray below meth c H locs 0 0 (MQ below (va_Qi (fun (r : Int32) (u : (Nat → Int32) × (Nat → Int32) × (Nat → Int32) × (Nat → Int32) × (Nat → Int32) × (Nat → Int32) × Int32 × Int32 × (Nat → Int32) × Int32) => post r u.1 u.2.1 u.2.2.1 u.2.2.2.1 u.2.2.2.2.1 u.2.2.2.2.2.1 u.2.2.2.2.2.2.1 u.2.2.2.2.2.2.2.1 u.2.2.2.2.2.2.2.2.1 u.2.2.2.2.2.2.2.2.2) (hcB G A (fun u : (Nat → Int32) × (Nat → Int32) × (Nat → Int32) × (Nat → Int32) × (Nat → Int32) × (Nat → Int32) × Int32 × Int32 × (Nat → Int32) × Int32 => [ceX11 h0 a_w a_kept a_laid s_hasImage a_refusals a_row s_rows a_letters s_lettered a_hit a_lead a_defeat a_defeater u.2.2.2.2.2.2.1 u.2.2.2.2.2.2.2.1 a_order u.2.2.2.2.2.2.2.2.2 a_is a_was s_reading s_isWell a_depths a_ways s_z, caI G a_w 43 u.1, caI G a_refusals 7 u.2.1, caI G a_hit 8 u.2.2.1, caI G a_lead 8 u.2.2.2.1, caI G a_defeat 8 u.2.2.2.2.1, caI G a_defeater 8 u.2.2.2.2.2.1, caI G a_order 8 u.2.2.2.2.2.2.2.2.1])) A) ([.ref h0, .int x1, .int x2] : List Value).toArray s 0 0 A) (F0 m 77 ls [])) → ∀ (v3 : Int32) (v5 : Int32) (v6 : Int32) (v7 : Int32) (v8 : Int32) (g_w : Nat → Int32) (g_refusals : Nat → Int32) (g_hit : Nat → Int32) (g_lead : Nat → Int32) (g_defeat : Nat → Int32) (g_defeater : Nat → Int32) (s_ins : Int32) (s_outs : Int32) (g_order : Nat → Int32) (s_ordered : Int32) (t0 : Int32) (t1 : Int32) , wp_X11_changes_168 post x1 x2 K62 K77 v3 v5 v6 v7 v8 g_w g_refusals g_hit g_lead g_defeat g_defeater s_ins s_outs g_order s_ordered t0 t1 → ∀ (H : Heap) (locs : List Loc) (ls : Array Slot), va_P G.1 vwCl [ceX11 h0 a_w a_kept a_laid s_hasImage a_refusals a_row s_rows a_letters s_lettered a_hit a_lead a_defeat a_defeater s_ins s_outs a_order s_ordered a_is a_was s_reading s_isWell a_depths a_ways s_z, caI G a_w 43 g_w, caI G a_refusals 7 g_refusals, caI G a_hit 8 g_hit, caI G a_lead 8 g_lead, caI G a_defeat 8 g_defeat, caI G a_defeater 8 g_defeater, caI G a_order 8 g_order] H → va_D A [ceX11 h0 a_w a_kept a_laid s_hasImage a_refusals a_row s_rows a_letters s_lettered a_hit a_lead a_defeat a_defeater s_ins s_outs a_order s_ordered a_is a_was s_reading s_isWell a_depths a_ways s_z, caI G a_w 43 g_w, caI G a_refusals 7 g_refusals, caI G a_hit 8 g_hit, caI G a_lead 8 g_lead, caI G a_defeat 8 g_defeat, caI G a_defeater 8 g_defeater, caI G a_order 8 g_order] → va_S A s.heap H locs → lv_has ls 9 [(0, .ref h0), (1, .int x1), (2, .int x2), (3, .int v3), (5, .int v5), (6, .int v6), (7, .int v7), (8, .int v8)] → W p l e (headSpec wsX11_changes ({ frames := 6, cells := 0, slots := 0, locals := 128 })).room s m ([.ref h0, .int x1, .int x2] : List Value).toArray below meth c H locs 0 0 (MQ below (va_Qi (fun (r : Int32) (u : (Nat → Int32) × (Nat → Int32) × (Nat → Int32) × (Nat → Int32) × (Nat → Int32) × (Nat → Int32) × Int32 × Int32 × (Nat → Int32) × Int32) => post r u.1 u.2.1 u.2.2.1 u.2.2.2.1 u.2.2.2.2.1 u.2.2.2.2.2.1 u.2.2.2.2.2.2.1 u.2.2.2.2.2.2.2.1 u.2.2.2.2.2.2.2.2.1 u.2.2.2.2.2.2.2.2.2) (hcB G A (fun u : (Nat → Int32) × (Nat → Int32) × (Nat → Int32) × (Nat → Int32) × (Nat → Int32) × (Nat → Int32) × Int32 × Int32 × (Nat → Int32) × Int32 => [ceX11 h0 a_w a_kept a_laid s_hasImage a_refusals a_row s_rows a_letters s_lettered a_hit a_lead a_defeat a_defeater u.2.2.2.2.2.2.1 u.2.2.2.2.2.2.2.1 a_order u.2.2.2.2.2.2.2.2.2 a_is a_was s_reading s_isWell a_depths a_ways s_z, caI G a_w 43 u.1, caI G a_refusals 7 u.2.1, caI G a_hit 8 u.2.2.1, caI G a_lead 8 u.2.2.2.1, caI G a_defeat 8 u.2.2.2.2.1, caI G a_defeater 8 u.2.2.2.2.2.1, caI G a_order 8 u.2.2.2.2.2.2.2.2.1])) A) ([.ref h0, .int x1, .int x2] : List Value).toArray s 0 0 A) (F0 m 168 ls [.int t0, .int t1]) := by
    intro K62 hK62 K77 hK77 v3 v5 v6 v7 v8 g_w g_refusals g_hit g_lead g_defeat g_defeater s_ins s_outs g_order s_ordered t0 t1 h H locs ls hP hD hS hl
    unfold wp_X11_changes_168 at h
    refine lv_iadd hx hb dX11_changes_168 ?_
    refine lv_istore (lv' := [(4, .int (t1 + t0)), (0, .ref h0), (1, .int x1), (2, .int x2), (3, .int v3), (5, .int v5), (6, .int v6), (7, .int v7), (8, .int v8)]) hx hb dX11_changes_169 hl (by decide) rfl (fun ls hl => ?_)
    refine lv_iload hx hb dX11_changes_171 (lv_at hl 8 rfl) ?_
    refine lv_iload_n hx hb dX11_changes_173 rfl (lv_at hl 4 rfl) ?_
    refine lv_icmp_eq (tgt := 193) hx hb dX11_changes_174 (by decide) (fun c => ?_) (fun c => ?_)
    · replace h := h.1 c
      refine lv_iload hx hb dX11_changes_193 (lv_at hl 5 rfl) ?_
      refine lv_istore (lv' := [(5, .int v5), (4, .int (t1 + t0)), (0, .ref h0), (1, .int x1), (2, .int x2), (3, .int v3), (6, .int v6), (7, .int v7), (8, .int v8)]) hx hb dX11_changes_195 hl (by decide) rfl (fun ls hl => ?_)
      refine lv_iinc (v := v7 + nI 1) (lv' := [(7, .int (v7 + nI 1)), (5, .int v5), (4, .int (t1 + t0)), (0, .ref h0), (1, .int x1), (2, .int x2), (3, .int v3), (6, .int v6), (8, .int v8)]) hx hb dX11_changes_197 hl (k := 7) rfl (congrArg (fun q => v7 + q) kc_1) (by decide) rfl (fun ls hl => ?_)
      refine lv_goto (tgt := 77) hx hb dX11_changes_200 (by decide) ?_
      exact hK77 v3 (t1 + t0) v5 v6 (v7 + nI 1) g_w g_refusals g_hit g_lead g_defeat g_defeater s_ins s_outs g_order s_ordered h _ _ _ hP hD hS (lv_sub hl [3, 4, 5, 6, 2, 1, 7, 0] rfl)
    · replace h := h.2 c
      refine lv_iload hx hb dX11_changes_177 (lv_at hl 5 rfl) ?_
      refine lv_if_ge (tgt := 193) hx hb dX11_changes_179 (by decide) (fun c => ?_) (fun c => ?_)
      · replace h := h.1 c
        refine lv_iload hx hb dX11_changes_193 (lv_at hl 5 rfl) ?_
        refine lv_istore (lv' := [(5, .int v5), (4, .int (t1 + t0)), (0, .ref h0), (1, .int x1), (2, .int x2), (3, .int v3), (6, .int v6), (7, .int v7), (8, .int v8)]) hx hb dX11_changes_195 hl (by decide) rfl (fun ls hl => ?_)
        refine lv_iinc (v := v7 + nI 1) (lv' := [(7, .int (v7 + nI 1)), (5, .int v5), (4, .int (t1 + t0)), (0, .ref h0), (1, .int x1), (2, .int x2), (3, .int v3), (6, .int v6), (8, .int v8)]) hx hb dX11_changes_197 hl (k := 7) rfl (congrArg (fun q => v7 + q) kc_1) (by decide) rfl (fun ls hl => ?_)
        refine lv_goto (tgt := 77) hx hb dX11_changes_200 (by decide) ?_
        exact hK77 v3 (t1 + t0) v5 v6 (v7 + nI 1) g_w g_refusals g_hit g_lead g_defeat g_defeater s_ins s_outs g_order s_ordered h _ _ _ hP hD hS (lv_sub hl [3, 4, 5, 6, 2, 1, 7, 0] rfl)
      · replace h := h.2 c
        refine lv_bipush (v := nI 10) hx hb dX11_changes_182 kb_10 ?_
        refine lv_iload hx hb dX11_changes_184 (lv_at hl 6 rfl) ?_
        refine lv_imul hx hb dX11_changes_186 ?_
        refine lv_iload hx hb dX11_changes_187 (lv_at hl 7 rfl) ?_
        refine lv_iadd hx hb dX11_changes_189 ?_
        refine lv_goto (tgt := 195) hx hb dX11_changes_190 (by decide) ?_
        refine lv_istore (lv' := [(5, .int (((nI 10) * v6) + v7)), (4, .int (t1 + t0)), (0, .ref h0), (1, .int x1), (2, .int x2), (3, .int v3), (6, .int v6), (7, .int v7), (8, .int v8)]) hx hb dX11_changes_195 hl (by decide) rfl (fun ls hl => ?_)
        refine lv_iinc (v := v7 + nI 1) (lv' := [(7, .int (v7 + nI 1)), (5, .int (((nI 10) * v6) + v7)), (4, .int (t1 + t0)), (0, .ref h0), (1, .int x1), (2, .int x2), (3, .int v3), (6, .int v6), (8, .int v8)]) hx hb dX11_changes_197 hl (k := 7) rfl (congrArg (fun q => v7 + q) kc_1) (by decide) rfl (fun ls hl => ?_)
        refine lv_goto (tgt := 77) hx hb dX11_changes_200 (by decide) ?_
        exact hK77 v3 (t1 + t0) (((nI 10) * v6) + v7) v6 (v7 + nI 1) g_w g_refusals g_hit g_lead g_defeat g_defeater s_ins s_outs g_order s_ordered h _ _ _ hP hD hS (lv_sub hl [3, 4, 5, 6, 2, 1, 7, 0] rfl)
  have w77 : ∀ (K62 : Int32 → Int32 → Int32 → Int32 → (Nat → Int32) → (Nat → Int32) → (Nat → Int32) → (Nat → Int32) → (Nat → Int32) → (Nat → Int32) → Int32 → Int32 → (Nat → Int32) → Int32 → Prop), (∀ (v3 : Int32) (v4 : Int32) (v5 : Int32) (v6 : Int32) (g_w : Nat → Int32) (g_refusals : Nat → Int32) (g_hit : Nat → Int32) (g_lead : Nat → Int32) (g_defeat : Nat → Int32) (g_defeater : Nat → Int32) (s_ins : Int32) (s_outs : Int32) (g_order : Nat → Int32) (s_ordered : Int32) , K62 v3 v4 v5 v6 g_w g_refusals g_hit g_lead g_defeat g_defeater s_ins s_outs g_order s_ordered → ∀ (H : Heap) (locs : List Loc) (ls : Array Slot), va_P G.1 vwCl [ceX11 h0 a_w a_kept a_laid s_hasImage a_refusals a_row s_rows a_letters s_lettered a_hit a_lead a_defeat a_defeater s_ins s_outs a_order s_ordered a_is a_was s_reading s_isWell a_depths a_ways s_z, caI G a_w 43 g_w, caI G a_refusals 7 g_refusals, caI G a_hit 8 g_hit, caI G a_lead 8 g_lead, caI G a_defeat 8 g_defeat, caI G a_defeater 8 g_defeater, caI G a_order 8 g_order] H → va_D A [ceX11 h0 a_w a_kept a_laid s_hasImage a_refusals a_row s_rows a_letters s_lettered a_hit a_lead a_defeat a_defeater s_ins s_outs a_order s_ordered a_is a_was s_reading s_isWell a_depths a_ways s_z, caI G a_w 43 g_w, caI G a_refusals 7 g_refusals, caI G a_hit 8 g_hit, caI G a_lead 8 g_lead, caI G a_defeat 8 g_defeat, caI G a_defeater 8 g_defeater, caI G a_order 8 g_order] → va_S A s.heap H locs → lv_has ls 9 [(0, .ref h0), (1, .int x1), (2, .int x2), (3, .int v3), (4, .int v4), (5, .int v5), (6, .int v6)] → W p l e (headSpec wsX11_changes ({ frames := 6, cells := 0, slots := 0, locals := 128 })).room s m ([.ref h0, .int x1, .int x2] : List Value).toArray below meth c H locs 0 0 (MQ below (va_Qi (fun (r : Int32) (u : (Nat → Int32) × (Nat → Int32) × (Nat → Int32) × (Nat → Int32) × (Nat → Int32) × (Nat → Int32) × Int32 × Int32 × (Nat → Int32) × Int32) => post r u.1 u.2.1 u.2.2.1 u.2.2.2.1 u.2.2.2.2.1 u.2.2.2.2.2.1 u.2.2.2.2.2.2.1 u.2.2.2.2.2.2.2.1 u.2.2.2.2.2.2.2.2.1 u.2.2.2.2.2.2.2.2.2) (hcB G A (fun u : (Nat → Int32) × (Nat → Int32) × (Nat → Int32) × (Nat → Int32) × (Nat → Int32) × (Nat → Int32) × Int32 × Int32 × (Nat → Int32) × Int32 => [ceX11 h0 a_w a_kept a_laid s_hasImage a_refusals a_row s_rows a_letters s_lettered a_hit a_lead a_defeat a_defeater u.2.2.2.2.2.2.1 u.2.2.2.2.2.2.2.1 a_order u.2.2.2.2.2.2.2.2.2 a_is a_was s_reading s_isWell a_depths a_ways s_z, caI G a_w 43 u.1, caI G a_refusals 7 u.2.1, caI G a_hit 8 u.2.2.1, caI G a_lead 8 u.2.2.2.1, caI G a_defeat 8 u.2.2.2.2.1, caI G a_defeater 8 u.2.2.2.2.2.1, caI G a_order 8 u.2.2.2.2.2.2.2.2.1])) A) ([.ref h0, .int x1, .int x2] : List Value).toArray s 0 0 A) (F0 m 62 ls [])) → ∀ (n : Nat) (v3 : Int32) (v4 : Int32) (v5 : Int32) (v6 : Int32) (v7 : Int32) (g_w : Nat → Int32) (g_refusals : Nat → Int32) (g_hit : Nat → Int32) (g_lead : Nat → Int32) (g_defeat : Nat → Int32) (g_defeater : Nat → Int32) (s_ins : Int32) (s_outs : Int32) (g_order : Nat → Int32) (s_ordered : Int32) , wp_X11_changes_77 post x1 x2 K62 n v3 v4 v5 v6 v7 g_w g_refusals g_hit g_lead g_defeat g_defeater s_ins s_outs g_order s_ordered → ∀ (H : Heap) (locs : List Loc) (ls : Array Slot), va_P G.1 vwCl [ceX11 h0 a_w a_kept a_laid s_hasImage a_refusals a_row s_rows a_letters s_lettered a_hit a_lead a_defeat a_defeater s_ins s_outs a_order s_ordered a_is a_was s_reading s_isWell a_depths a_ways s_z, caI G a_w 43 g_w, caI G a_refusals 7 g_refusals, caI G a_hit 8 g_hit, caI G a_lead 8 g_lead, caI G a_defeat 8 g_defeat, caI G a_defeater 8 g_defeater, caI G a_order 8 g_order] H → va_D A [ceX11 h0 a_w a_kept a_laid s_hasImage a_refusals a_row s_rows a_letters s_lettered a_hit a_lead a_defeat a_defeater s_ins s_outs a_order s_ordered a_is a_was s_reading s_isWell a_depths a_ways s_z, caI G a_w 43 g_w, caI G a_refusals 7 g_refusals, caI G a_hit 8 g_hit, caI G a_lead 8 g_lead, caI G a_defeat 8 g_defeat, caI G a_defeater 8 g_defeater, caI G a_order 8 g_order] → va_S A s.heap H locs → lv_has ls 9 [(0, .ref h0), (1, .int x1), (2, .int x2), (3, .int v3), (4, .int v4), (5, .int v5), (6, .int v6), (7, .int v7)] → W p l e (headSpec wsX11_changes ({ frames := 6, cells := 0, slots := 0, locals := 128 })).room s m ([.ref h0, .int x1, .int x2] : List Value).toArray below meth c H locs 0 0 (MQ below (va_Qi (fun (r : Int32) (u : (Nat → Int32) × (Nat → Int32) × (Nat → Int32) × (Nat → Int32) × (Nat → Int32) × (Nat → Int32) × Int32 × Int32 × (Nat → Int32) × Int32) => post r u.1 u.2.1 u.2.2.1 u.2.2.2.1 u.2.2.2.2.1 u.2.2.2.2.2.1 u.2.2.2.2.2.2.1 u.2.2.2.2.2.2.2.1 u.2.2.2.2.2.2.2.2.1 u.2.2.2.2.2.2.2.2.2) (hcB G A (fun u : (Nat → Int32) × (Nat → Int32) × (Nat → Int32) × (Nat → Int32) × (Nat → Int32) × (Nat → Int32) × Int32 × Int32 × (Nat → Int32) × Int32 => [ceX11 h0 a_w a_kept a_laid s_hasImage a_refusals a_row s_rows a_letters s_lettered a_hit a_lead a_defeat a_defeater u.2.2.2.2.2.2.1 u.2.2.2.2.2.2.2.1 a_order u.2.2.2.2.2.2.2.2.2 a_is a_was s_reading s_isWell a_depths a_ways s_z, caI G a_w 43 u.1, caI G a_refusals 7 u.2.1, caI G a_hit 8 u.2.2.1, caI G a_lead 8 u.2.2.2.1, caI G a_defeat 8 u.2.2.2.2.1, caI G a_defeater 8 u.2.2.2.2.2.1, caI G a_order 8 u.2.2.2.2.2.2.2.2.1])) A) ([.ref h0, .int x1, .int x2] : List Value).toArray s 0 0 A) (F0 m 77 ls []) := by
    intro K62 hK62 n
    induction n with
    | zero => intro v3 v4 v5 v6 v7 g_w g_refusals g_hit g_lead g_defeat g_defeater s_ins s_outs g_order s_ordered h; exact h.elim
    | succ n ih =>
      intro v3 v4 v5 v6 v7 g_w g_refusals g_hit g_lead g_defeat g_defeater s_ins s_outs g_order s_ordered h H locs ls hP hD hS hl
      unfold wp_X11_changes_77 at h
      refine lv_iload hx hb dX11_changes_77 (lv_at hl 7 rfl) ?_
      refine lv_aload_n hx hb dX11_changes_79 rfl (lv_at hl 0 rfl) ?_
      refine va_get (D := G.1) (ci := 9) (v := .ref a_w) (C := RX11) (T := TX11) (N := 24) hx hb hts ki_X11 hown hK.1 hP 0 rfl rfl 0 (by decide) kf0 (fun _ h9 => h9) rfl dX11_changes_80 ?_
      refine lv_bipush (v := nI 42) hx hb dX11_changes_83 kb_42 ?_
      have hin := h.1
      replace h := h.2
      refine va_iald hx hb hK.1 hP 1 0 rfl rfl hin dX11_changes_85 ?_
      refine lv_icmp_ge (tgt := 203) hx hb dX11_changes_86 (by decide) (fun c => ?_) (fun c => ?_)
      · replace h := h.1 c
        refine lv_iinc (v := v6 + nI 1) (lv' := [(6, .int (v6 + nI 1)), (0, .ref h0), (1, .int x1), (2, .int x2), (3, .int v3), (4, .int v4), (5, .int v5), (7, .int v7)]) hx hb dX11_changes_203 hl (k := 6) rfl (congrArg (fun q => v6 + q) kc_1) (by decide) rfl (fun ls hl => ?_)
        refine lv_goto (tgt := 62) hx hb dX11_changes_206 (by decide) ?_
        exact hK62 v3 v4 v5 (v6 + nI 1) g_w g_refusals g_hit g_lead g_defeat g_defeater s_ins s_outs g_order s_ordered h _ _ _ hP hD hS (lv_sub hl [1, 2, 3, 4, 5, 6, 0] rfl)
      · replace h := h.2 c
        refine lv_iload hx hb dX11_changes_89 (lv_at hl 6 rfl) ?_
        refine lv_iload hx hb dX11_changes_91 (lv_at hl 7 rfl) ?_
        refine lv_icmp_eq (tgt := 197) hx hb dX11_changes_93 (by decide) (fun c => ?_) (fun c => ?_)
        · replace h := h.1 c
          refine lv_iinc (v := v7 + nI 1) (lv' := [(7, .int (v7 + nI 1)), (0, .ref h0), (1, .int x1), (2, .int x2), (3, .int v3), (4, .int v4), (5, .int v5), (6, .int v6)]) hx hb dX11_changes_197 hl (k := 7) rfl (congrArg (fun q => v7 + q) kc_1) (by decide) rfl (fun ls hl => ?_)
          refine lv_goto (tgt := 77) hx hb dX11_changes_200 (by decide) ?_
          exact ih v3 v4 v5 v6 (v7 + nI 1) g_w g_refusals g_hit g_lead g_defeat g_defeater s_ins s_outs g_order s_ordered h _ _ _ hP hD hS (lv_sub hl [1, 2, 3, 4, 5, 6, 7, 0] rfl)
        · replace h := h.2 c
          refine lv_aload_n hx hb dX11_changes_96 rfl (lv_at hl 0 rfl) ?_
          refine lv_iload hx hb dX11_changes_97 (lv_at hl 6 rfl) ?_
          refine hc_ki (wr := [caI G a_refusals 7 g_refusals, caI G a_hit 8 g_hit, caI G a_lead 8 g_lead, caI G a_defeat 8 g_defeat, caI G a_defeater 8 g_defeater, caI G a_order 8 g_order]) (va_runV (As := [.int v6]) (rest := []) ⟨hx, hb, hml, hown, hts⟩ (c_X11_isHeard l G h0 a_w a_kept a_laid a_refusals a_row a_letters a_hit a_lead a_defeat a_defeater a_order a_is a_was a_depths a_ways H.size s_hasImage s_rows s_lettered s_ins s_outs s_ordered s_reading s_isWell s_z g_w v6 _ h) (cwV 1 hts gX11_changes_X11_isHeard rfl rfl rfl (by decide +kernel) ⟨Nat.le_of_ble_eq_true rfl, Nat.le_of_ble_eq_true rfl⟩) (hc_pV hK hP hD [0, 1] rfl rfl (ci := 9) 0 rfl rfl) rfl rfl hl.1 rfl (lv_room (Nat.le_of_ble_eq_true rfl)) dX11_changes_99 ⟨Nat.le_refl _, Nat.le_refl _⟩) hP hD hS hA [0, 1] [2, 3, 4, 5, 6, 7] rfl rfl rfl (by decide) (fun r99 u H locs h hP hD hS => ?_)
          try dsimp only at h
          have hP : va_P G.1 vwCl [caI G a_refusals 7 g_refusals, caI G a_hit 8 g_hit, caI G a_lead 8 g_lead, caI G a_defeat 8 g_defeat, caI G a_defeater 8 g_defeater, caI G a_order 8 g_order, ceX11 h0 a_w a_kept a_laid s_hasImage a_refusals a_row s_rows a_letters s_lettered a_hit a_lead a_defeat a_defeater s_ins s_outs a_order s_ordered a_is a_was s_reading s_isWell a_depths a_ways s_z, caI G a_w 43 g_w] H := hP
          have hD : va_D A [caI G a_refusals 7 g_refusals, caI G a_hit 8 g_hit, caI G a_lead 8 g_lead, caI G a_defeat 8 g_defeat, caI G a_defeater 8 g_defeater, caI G a_order 8 g_order, ceX11 h0 a_w a_kept a_laid s_hasImage a_refusals a_row s_rows a_letters s_lettered a_hit a_lead a_defeat a_defeater s_ins s_outs a_order s_ordered a_is a_was s_reading s_isWell a_depths a_ways s_z, caI G a_w 43 g_w] := hD
          refine lv_if_eq (tgt := 197) hx hb dX11_changes_102 (by decide) (fun c => ?_) (fun c => ?_)
          · replace h := h.1 c
            refine lv_iinc (v := v7 + nI 1) (lv' := [(7, .int (v7 + nI 1)), (0, .ref h0), (1, .int x1), (2, .int x2), (3, .int v3), (4, .int v4), (5, .int v5), (6, .int v6)]) hx hb dX11_changes_197 hl (k := 7) rfl (congrArg (fun q => v7 + q) kc_1) (by decide) rfl (fun ls hl => ?_)
            refine lv_goto (tgt := 77) hx hb dX11_changes_200 (by decide) ?_
            exact ih v3 v4 v5 v6 (v7 + nI 1) g_w g_refusals g_hit g_lead g_defeat g_defeater s_ins s_outs g_order s_ordered h _ _ _ (hP.sub [6, 7, 0, 1, 2, 3, 4, 5] rfl) (hD.sub [6, 7, 0, 1, 2, 3, 4, 5] (by decide) rfl) hS (lv_sub hl [1, 2, 3, 4, 5, 6, 7, 0] rfl)
          · replace h := h.2 c
            refine lv_aload_n hx hb dX11_changes_105 rfl (lv_at hl 0 rfl) ?_
            refine lv_iload hx hb dX11_changes_106 (lv_at hl 7 rfl) ?_
            refine hc_ki (wr := [caI G a_refusals 7 g_refusals, caI G a_hit 8 g_hit, caI G a_lead 8 g_lead, caI G a_defeat 8 g_defeat, caI G a_defeater 8 g_defeater, caI G a_order 8 g_order]) (va_runV (As := [.int v7]) (rest := []) ⟨hx, hb, hml, hown, hts⟩ (c_X11_isHeard l G h0 a_w a_kept a_laid a_refusals a_row a_letters a_hit a_lead a_defeat a_defeater a_order a_is a_was a_depths a_ways H.size s_hasImage s_rows s_lettered s_ins s_outs s_ordered s_reading s_isWell s_z g_w v7 _ h) (cwV 1 hts gX11_changes_X11_isHeard rfl rfl rfl (by decide +kernel) ⟨Nat.le_of_ble_eq_true rfl, Nat.le_of_ble_eq_true rfl⟩) (hc_pV hK hP hD [6, 7] rfl rfl (ci := 9) 6 rfl rfl) rfl rfl hl.1 rfl (lv_room (Nat.le_of_ble_eq_true rfl)) dX11_changes_108 ⟨Nat.le_refl _, Nat.le_refl _⟩) hP hD hS hA [6, 7] [0, 1, 2, 3, 4, 5] rfl rfl rfl (by decide) (fun r108 u H locs h hP hD hS => ?_)
            try dsimp only at h
            have hP : va_P G.1 vwCl [caI G a_refusals 7 g_refusals, caI G a_hit 8 g_hit, caI G a_lead 8 g_lead, caI G a_defeat 8 g_defeat, caI G a_defeater 8 g_defeater, caI G a_order 8 g_order, ceX11 h0 a_w a_kept a_laid s_hasImage a_refusals a_row s_rows a_letters s_lettered a_hit a_lead a_defeat a_defeater s_ins s_outs a_order s_ordered a_is a_was s_reading s_isWell a_depths a_ways s_z, caI G a_w 43 g_w] H := hP
            have hD : va_D A [caI G a_refusals 7 g_refusals, caI G a_hit 8 g_hit, caI G a_lead 8 g_lead, caI G a_defeat 8 g_defeat, caI G a_defeater 8 g_defeater, caI G a_order 8 g_order, ceX11 h0 a_w a_kept a_laid s_hasImage a_refusals a_row s_rows a_letters s_lettered a_hit a_lead a_defeat a_defeater s_ins s_outs a_order s_ordered a_is a_was s_reading s_isWell a_depths a_ways s_z, caI G a_w 43 g_w] := hD
            refine lv_if_eq (tgt := 197) hx hb dX11_changes_111 (by decide) (fun c => ?_) (fun c => ?_)
            · replace h := h.1 c
              refine lv_iinc (v := v7 + nI 1) (lv' := [(7, .int (v7 + nI 1)), (0, .ref h0), (1, .int x1), (2, .int x2), (3, .int v3), (4, .int v4), (5, .int v5), (6, .int v6)]) hx hb dX11_changes_197 hl (k := 7) rfl (congrArg (fun q => v7 + q) kc_1) (by decide) rfl (fun ls hl => ?_)
              refine lv_goto (tgt := 77) hx hb dX11_changes_200 (by decide) ?_
              exact ih v3 v4 v5 v6 (v7 + nI 1) g_w g_refusals g_hit g_lead g_defeat g_defeater s_ins s_outs g_order s_ordered h _ _ _ (hP.sub [6, 7, 0, 1, 2, 3, 4, 5] rfl) (hD.sub [6, 7, 0, 1, 2, 3, 4, 5] (by decide) rfl) hS (lv_sub hl [1, 2, 3, 4, 5, 6, 7, 0] rfl)
            · replace h := h.2 c
              refine lv_aload_n hx hb dX11_changes_114 rfl (lv_at hl 0 rfl) ?_
              refine va_get (D := G.1) (ci := 9) (v := .ref a_w) (C := RX11) (T := TX11) (N := 24) hx hb hts ki_X11 hown hK.1 hP 6 rfl rfl 0 (by decide) kf0 (fun _ h9 => h9) rfl dX11_changes_115 ?_
              refine lv_bipush (v := nI 24) hx hb dX11_changes_118 kb_24 ?_
              refine lv_iload hx hb dX11_changes_120 (lv_at hl 6 rfl) ?_
              refine lv_iadd hx hb dX11_changes_122 ?_
              refine lv_dup2_11 hx hb dX11_changes_123 rfl rfl ?_
              have hin := h.1
              replace h := h.2
              refine va_iald hx hb hK.1 hP 7 0 rfl rfl hin dX11_changes_124 ?_
              refine lv_iconst (v := nI 1) hx hb dX11_changes_125 kc_1 ?_
              refine lv_iload hx hb dX11_changes_126 (lv_at hl 7 rfl) ?_
              refine lv_ishl hx hb dX11_changes_128 ?_
              refine lv_ixor hx hb dX11_changes_129 ?_
              have hin := h.1
              replace h := h.2
              refine va_iast hx hb hK.1 hP hD hS 7 0 rfl rfl hin dX11_changes_130 (fun H locs hP hD hS => ?_)
              have hP : va_P G.1 vwCl [caI G a_refusals 7 g_refusals, caI G a_hit 8 g_hit, caI G a_lead 8 g_lead, caI G a_defeat 8 g_defeat, caI G a_defeater 8 g_defeater, caI G a_order 8 g_order, ceX11 h0 a_w a_kept a_laid s_hasImage a_refusals a_row s_rows a_letters s_lettered a_hit a_lead a_defeat a_defeater s_ins s_outs a_order s_ordered a_is a_was s_reading s_isWell a_depths a_ways s_z, caI G a_w 43 (upd g_w ((nI 24) + v6).toNatClampNeg ((g_w ((nI 24) + v6).toNatClampNeg) ^^^ ((nI 1) <<< (v7 &&& 31))))] H := hP
              have hD : va_D A [caI G a_refusals 7 g_refusals, caI G a_hit 8 g_hit, caI G a_lead 8 g_lead, caI G a_defeat 8 g_defeat, caI G a_defeater 8 g_defeater, caI G a_order 8 g_order, ceX11 h0 a_w a_kept a_laid s_hasImage a_refusals a_row s_rows a_letters s_lettered a_hit a_lead a_defeat a_defeater s_ins s_outs a_order s_ordered a_is a_was s_reading s_isWell a_depths a_ways s_z, caI G a_w 43 (upd g_w ((nI 24) + v6).toNatClampNeg ((g_w ((nI 24) + v6).toNatClampNeg) ^^^ ((nI 1) <<< (v7 &&& 31))))] := hD
              refine lv_aload_n hx hb dX11_changes_131 rfl (lv_at hl 0 rfl) ?_
              refine lv_iload_n hx hb dX11_changes_132 rfl (lv_at hl 1 rfl) ?_
              refine hc_ki (wr := [caI G a_refusals 7 g_refusals]) (va_runV (As := [.int x1]) (rest := []) ⟨hx, hb, hml, hown, hts⟩ (c_X11_isIn l G h0 a_w a_kept a_laid a_refusals a_row a_letters a_hit a_lead a_defeat a_defeater a_order a_is a_was a_depths a_ways H.size s_hasImage s_rows s_lettered s_ins s_outs s_ordered s_reading s_isWell s_z (upd g_w ((nI 24) + v6).toNatClampNeg ((g_w ((nI 24) + v6).toNatClampNeg) ^^^ ((nI 1) <<< (v7 &&& 31)))) g_hit g_lead g_defeat g_defeater g_order x1 _ h) (cwV 1 hts gX11_changes_X11_isIn rfl rfl rfl (by decide +kernel) ⟨Nat.le_of_ble_eq_true rfl, Nat.le_of_ble_eq_true rfl⟩) (hc_pV hK hP hD [6, 7, 1, 2, 3, 4, 5] rfl rfl (ci := 9) 6 rfl rfl) rfl rfl hl.1 rfl (lv_room (Nat.le_of_ble_eq_true rfl)) dX11_changes_133 ⟨Nat.le_refl _, Nat.le_refl _⟩) hP hD hS hA [6, 7, 1, 2, 3, 4, 5] [0] rfl rfl rfl (by decide) (fun r133 u H locs h hP hD hS => ?_)
              obtain ⟨g_hit_133, g_lead_133, g_defeat_133, g_defeater_133, s_ins_133, s_outs_133, g_order_133, s_ordered_133⟩ := u
              try dsimp only at h
              have hP : va_P G.1 vwCl [caI G a_refusals 7 g_refusals, ceX11 h0 a_w a_kept a_laid s_hasImage a_refusals a_row s_rows a_letters s_lettered a_hit a_lead a_defeat a_defeater s_ins_133 s_outs_133 a_order s_ordered_133 a_is a_was s_reading s_isWell a_depths a_ways s_z, caI G a_w 43 (upd g_w ((nI 24) + v6).toNatClampNeg ((g_w ((nI 24) + v6).toNatClampNeg) ^^^ ((nI 1) <<< (v7 &&& 31)))), caI G a_hit 8 g_hit_133, caI G a_lead 8 g_lead_133, caI G a_defeat 8 g_defeat_133, caI G a_defeater 8 g_defeater_133, caI G a_order 8 g_order_133] H := hP
              have hD : va_D A [caI G a_refusals 7 g_refusals, ceX11 h0 a_w a_kept a_laid s_hasImage a_refusals a_row s_rows a_letters s_lettered a_hit a_lead a_defeat a_defeater s_ins_133 s_outs_133 a_order s_ordered_133 a_is a_was s_reading s_isWell a_depths a_ways s_z, caI G a_w 43 (upd g_w ((nI 24) + v6).toNatClampNeg ((g_w ((nI 24) + v6).toNatClampNeg) ^^^ ((nI 1) <<< (v7 &&& 31)))), caI G a_hit 8 g_hit_133, caI G a_lead 8 g_lead_133, caI G a_defeat 8 g_defeat_133, caI G a_defeater 8 g_defeater_133, caI G a_order 8 g_order_133] := hD
              refine lv_istore (lv' := [(8, .int r133), (0, .ref h0), (1, .int x1), (2, .int x2), (3, .int v3), (4, .int v4), (5, .int v5), (6, .int v6), (7, .int v7)]) hx hb dX11_changes_136 hl (by decide) rfl (fun ls hl => ?_)
              refine lv_aload_n hx hb dX11_changes_138 rfl (lv_at hl 1 rfl) ?_
              refine va_get (D := G.1) (ci := 9) (v := .ref a_w) (C := RX11) (T := TX11) (N := 24) hx hb hts ki_X11 hown hK.1 hP 1 rfl rfl 0 (by decide) kf0 (fun _ h9 => h9) rfl dX11_changes_139 ?_
              refine lv_bipush (v := nI 24) hx hb dX11_changes_142 kb_24 ?_
              refine lv_iload hx hb dX11_changes_144 (lv_at hl 7 rfl) ?_
              refine lv_iadd hx hb dX11_changes_146 ?_
              refine lv_dup2_11 hx hb dX11_changes_147 rfl rfl ?_
              have hin := h.1
              replace h := h.2
              refine va_iald hx hb hK.1 hP 2 0 rfl rfl hin dX11_changes_148 ?_
              refine lv_iconst (v := nI 1) hx hb dX11_changes_149 kc_1 ?_
              refine lv_iload hx hb dX11_changes_150 (lv_at hl 8 rfl) ?_
              refine lv_ishl hx hb dX11_changes_152 ?_
              refine lv_ixor hx hb dX11_changes_153 ?_
              have hin := h.1
              replace h := h.2
              refine va_iast hx hb hK.1 hP hD hS 2 0 rfl rfl hin dX11_changes_154 (fun H locs hP hD hS => ?_)
              have hP : va_P G.1 vwCl [caI G a_refusals 7 g_refusals, ceX11 h0 a_w a_kept a_laid s_hasImage a_refusals a_row s_rows a_letters s_lettered a_hit a_lead a_defeat a_defeater s_ins_133 s_outs_133 a_order s_ordered_133 a_is a_was s_reading s_isWell a_depths a_ways s_z, caI G a_w 43 (upd (upd g_w ((nI 24) + v6).toNatClampNeg ((g_w ((nI 24) + v6).toNatClampNeg) ^^^ ((nI 1) <<< (v7 &&& 31)))) ((nI 24) + v6).toNatClampNeg (((upd g_w ((nI 24) + v6).toNatClampNeg ((g_w ((nI 24) + v6).toNatClampNeg) ^^^ ((nI 1) <<< (v7 &&& 31)))) ((nI 24) + v6).toNatClampNeg) ^^^ ((nI 1) <<< (v7 &&& 31)))), caI G a_hit 8 g_hit_133, caI G a_lead 8 g_lead_133, caI G a_defeat 8 g_defeat_133, caI G a_defeater 8 g_defeater_133, caI G a_order 8 g_order_133] H := hP
              have hD : va_D A [caI G a_refusals 7 g_refusals, ceX11 h0 a_w a_kept a_laid s_hasImage a_refusals a_row s_rows a_letters s_lettered a_hit a_lead a_defeat a_defeater s_ins_133 s_outs_133 a_order s_ordered_133 a_is a_was s_reading s_isWell a_depths a_ways s_z, caI G a_w 43 (upd (upd g_w ((nI 24) + v6).toNatClampNeg ((g_w ((nI 24) + v6).toNatClampNeg) ^^^ ((nI 1) <<< (v7 &&& 31)))) ((nI 24) + v6).toNatClampNeg (((upd g_w ((nI 24) + v6).toNatClampNeg ((g_w ((nI 24) + v6).toNatClampNeg) ^^^ ((nI 1) <<< (v7 &&& 31)))) ((nI 24) + v6).toNatClampNeg) ^^^ ((nI 1) <<< (v7 &&& 31)))), caI G a_hit 8 g_hit_133, caI G a_lead 8 g_lead_133, caI G a_defeat 8 g_defeat_133, caI G a_defeater 8 g_defeater_133, caI G a_order 8 g_order_133] := hD
              refine lv_iload hx hb dX11_changes_155 (lv_at hl 5 rfl) ?_
              refine lv_iload hx hb dX11_changes_157 (lv_at hl 0 rfl) ?_
              refine lv_iload_n hx hb dX11_changes_159 rfl (lv_at hl 4 rfl) ?_
              refine lv_icmp_eq (tgt := 167) hx hb dX11_changes_160 (by decide) (fun c => ?_) (fun c => ?_)
              · replace h := h.1 c
                refine lv_iconst (v := nI 0) hx hb dX11_changes_167 kc_0 ?_
                exact w168 K62 hK62 ((wp_X11_changes_77 post x1 x2 K62 n)) ih v3 v5 v6 v7 r133 (upd (upd g_w ((nI 24) + v6).toNatClampNeg ((g_w ((nI 24) + v6).toNatClampNeg) ^^^ ((nI 1) <<< (v7 &&& 31)))) ((nI 24) + v6).toNatClampNeg (((upd g_w ((nI 24) + v6).toNatClampNeg ((g_w ((nI 24) + v6).toNatClampNeg) ^^^ ((nI 1) <<< (v7 &&& 31)))) ((nI 24) + v6).toNatClampNeg) ^^^ ((nI 1) <<< (v7 &&& 31)))) g_refusals g_hit_133 g_lead_133 g_defeat_133 g_defeater_133 s_ins_133 s_outs_133 g_order_133 s_ordered_133 (nI 0) v4 h _ _ _ (hP.sub [1, 2, 0, 3, 4, 5, 6, 7] rfl) (hD.sub [1, 2, 0, 3, 4, 5, 6, 7] (by decide) rfl) hS (lv_sub hl [1, 2, 3, 4, 6, 7, 8, 0] rfl)
              · replace h := h.2 c
                refine lv_iconst (v := nI 1) hx hb dX11_changes_163 kc_1 ?_
                refine lv_goto (tgt := 168) hx hb dX11_changes_164 (by decide) ?_
                exact w168 K62 hK62 ((wp_X11_changes_77 post x1 x2 K62 n)) ih v3 v5 v6 v7 r133 (upd (upd g_w ((nI 24) + v6).toNatClampNeg ((g_w ((nI 24) + v6).toNatClampNeg) ^^^ ((nI 1) <<< (v7 &&& 31)))) ((nI 24) + v6).toNatClampNeg (((upd g_w ((nI 24) + v6).toNatClampNeg ((g_w ((nI 24) + v6).toNatClampNeg) ^^^ ((nI 1) <<< (v7 &&& 31)))) ((nI 24) + v6).toNatClampNeg) ^^^ ((nI 1) <<< (v7 &&& 31)))) g_refusals g_hit_133 g_lead_133 g_defeat_133 g_defeater_133 s_ins_133 s_outs_133 g_order_133 s_ordered_133 (nI 1) v4 h _ _ _ (hP.sub [1, 2, 0, 3, 4, 5, 6, 7] rfl) (hD.sub [1, 2, 0, 3, 4, 5, 6, 7] (by decide) rfl) hS (lv_sub hl [1, 2, 3, 4, 6, 7, 8, 0] rfl)
  have w62 : ∀ (n : Nat) (v3 : Int32) (v4 : Int32) (v5 : Int32) (v6 : Int32) (g_w : Nat → Int32) (g_refusals : Nat → Int32) (g_hit : Nat → Int32) (g_lead : Nat → Int32) (g_defeat : Nat → Int32) (g_defeater : Nat → Int32) (s_ins : Int32) (s_outs : Int32) (g_order : Nat → Int32) (s_ordered : Int32) , wp_X11_changes_62 post x1 x2 n v3 v4 v5 v6 g_w g_refusals g_hit g_lead g_defeat g_defeater s_ins s_outs g_order s_ordered → ∀ (H : Heap) (locs : List Loc) (ls : Array Slot), va_P G.1 vwCl [ceX11 h0 a_w a_kept a_laid s_hasImage a_refusals a_row s_rows a_letters s_lettered a_hit a_lead a_defeat a_defeater s_ins s_outs a_order s_ordered a_is a_was s_reading s_isWell a_depths a_ways s_z, caI G a_w 43 g_w, caI G a_refusals 7 g_refusals, caI G a_hit 8 g_hit, caI G a_lead 8 g_lead, caI G a_defeat 8 g_defeat, caI G a_defeater 8 g_defeater, caI G a_order 8 g_order] H → va_D A [ceX11 h0 a_w a_kept a_laid s_hasImage a_refusals a_row s_rows a_letters s_lettered a_hit a_lead a_defeat a_defeater s_ins s_outs a_order s_ordered a_is a_was s_reading s_isWell a_depths a_ways s_z, caI G a_w 43 g_w, caI G a_refusals 7 g_refusals, caI G a_hit 8 g_hit, caI G a_lead 8 g_lead, caI G a_defeat 8 g_defeat, caI G a_defeater 8 g_defeater, caI G a_order 8 g_order] → va_S A s.heap H locs → lv_has ls 9 [(0, .ref h0), (1, .int x1), (2, .int x2), (3, .int v3), (4, .int v4), (5, .int v5), (6, .int v6)] → W p l e (headSpec wsX11_changes ({ frames := 6, cells := 0, slots := 0, locals := 128 })).room s m ([.ref h0, .int x1, .int x2] : List Value).toArray below meth c H locs 0 0 (MQ below (va_Qi (fun (r : Int32) (u : (Nat → Int32) × (Nat → Int32) × (Nat → Int32) × (Nat → Int32) × (Nat → Int32) × (Nat → Int32) × Int32 × Int32 × (Nat → Int32) × Int32) => post r u.1 u.2.1 u.2.2.1 u.2.2.2.1 u.2.2.2.2.1 u.2.2.2.2.2.1 u.2.2.2.2.2.2.1 u.2.2.2.2.2.2.2.1 u.2.2.2.2.2.2.2.2.1 u.2.2.2.2.2.2.2.2.2) (hcB G A (fun u : (Nat → Int32) × (Nat → Int32) × (Nat → Int32) × (Nat → Int32) × (Nat → Int32) × (Nat → Int32) × Int32 × Int32 × (Nat → Int32) × Int32 => [ceX11 h0 a_w a_kept a_laid s_hasImage a_refusals a_row s_rows a_letters s_lettered a_hit a_lead a_defeat a_defeater u.2.2.2.2.2.2.1 u.2.2.2.2.2.2.2.1 a_order u.2.2.2.2.2.2.2.2.2 a_is a_was s_reading s_isWell a_depths a_ways s_z, caI G a_w 43 u.1, caI G a_refusals 7 u.2.1, caI G a_hit 8 u.2.2.1, caI G a_lead 8 u.2.2.2.1, caI G a_defeat 8 u.2.2.2.2.1, caI G a_defeater 8 u.2.2.2.2.2.1, caI G a_order 8 u.2.2.2.2.2.2.2.2.1])) A) ([.ref h0, .int x1, .int x2] : List Value).toArray s 0 0 A) (F0 m 62 ls []) := by
    intro n
    induction n with
    | zero => intro v3 v4 v5 v6 g_w g_refusals g_hit g_lead g_defeat g_defeater s_ins s_outs g_order s_ordered h; exact h.elim
    | succ n ih =>
      intro v3 v4 v5 v6 g_w g_refusals g_hit g_lead g_defeat g_defeater s_ins s_outs g_order s_ordered h H locs ls hP hD hS hl
      unfold wp_X11_changes_62 at h
      refine lv_iload hx hb dX11_changes_62 (lv_at hl 6 rfl) ?_
      refine lv_aload_n hx hb dX11_changes_64 rfl (lv_at hl 0 rfl) ?_
      refine va_get (D := G.1) (ci := 9) (v := .ref a_w) (C := RX11) (T := TX11) (N := 24) hx hb hts ki_X11 hown hK.1 hP 0 rfl rfl 0 (by decide) kf0 (fun _ h9 => h9) rfl dX11_changes_65 ?_
      refine lv_bipush (v := nI 42) hx hb dX11_changes_68 kb_42 ?_
      have hin := h.1
      replace h := h.2
      refine va_iald hx hb hK.1 hP 1 0 rfl rfl hin dX11_changes_70 ?_
      refine lv_icmp_ge (tgt := 209) hx hb dX11_changes_71 (by decide) (fun c => ?_) (fun c => ?_)
      · replace h := h.1 c
        refine lv_iload_n hx hb dX11_changes_209 rfl (lv_at hl 2 rfl) ?_
        refine lv_if_ne (tgt := 218) hx hb dX11_changes_210 (by decide) (fun c => ?_) (fun c => ?_)
        · replace h := h.1 c
          refine lv_iload hx hb dX11_changes_218 (lv_at hl 5 rfl) ?_
          exact W.iret (v := v5) hx hb hr (fun t ht hW => ⟨⟨_, ⟨g_w, g_refusals, g_hit, g_lead, g_defeat, g_defeater, s_ins, s_outs, g_order, s_ordered⟩, rfl, h, ⟨by rw [ht]; exact hP, hD⟩⟩, hS.F ht⟩) hS.2.2 dX11_changes_220
        · replace h := h.2 c
          refine lv_iload hx hb dX11_changes_213 (lv_at hl 4 rfl) ?_
          refine lv_goto (tgt := 220) hx hb dX11_changes_215 (by decide) ?_
          exact W.iret (v := v4) hx hb hr (fun t ht hW => ⟨⟨_, ⟨g_w, g_refusals, g_hit, g_lead, g_defeat, g_defeater, s_ins, s_outs, g_order, s_ordered⟩, rfl, h, ⟨by rw [ht]; exact hP, hD⟩⟩, hS.F ht⟩) hS.2.2 dX11_changes_220
      · replace h := h.2 c
        refine lv_iconst (v := nI 0) hx hb dX11_changes_74 kc_0 ?_
        refine lv_istore (lv' := [(7, .int (nI 0)), (0, .ref h0), (1, .int x1), (2, .int x2), (3, .int v3), (4, .int v4), (5, .int v5), (6, .int v6)]) hx hb dX11_changes_75 hl (by decide) rfl (fun ls hl => ?_)
        obtain ⟨n77, h⟩ := h
        exact w77 ((wp_X11_changes_62 post x1 x2 n)) ih n77 v3 v4 v5 v6 (nI 0) g_w g_refusals g_hit g_lead g_defeat g_defeater s_ins s_outs g_order s_ordered h _ _ _ hP hD hS (lv_sub hl [1, 2, 3, 4, 5, 6, 7, 0] rfl)
  unfold wp_X11_changes at h
  refine lv_aload_n hx hb dX11_changes_0 rfl (lv_at hl 0 rfl) ?_
  refine lv_iload_n hx hb dX11_changes_1 rfl (lv_at hl 1 rfl) ?_
  refine hc_ki (wr := [caI G a_refusals 7 g_refusals, caI G a_hit 8 g_hit, caI G a_lead 8 g_lead, caI G a_defeat 8 g_defeat, caI G a_defeater 8 g_defeater, caI G a_order 8 g_order]) (va_runV (As := [.int x1]) (rest := []) ⟨hx, hb, hml, hown, hts⟩ (c_X11_isClaim l G h0 a_w a_kept a_laid a_refusals a_row a_letters a_hit a_lead a_defeat a_defeater a_order a_is a_was a_depths a_ways s.heap.size s_hasImage s_rows s_lettered s_ins s_outs s_ordered s_reading s_isWell s_z g_w x1 _ h) (cwV 1 hts gX11_changes_X11_isClaim rfl rfl rfl (by decide +kernel) ⟨Nat.le_of_ble_eq_true rfl, Nat.le_of_ble_eq_true rfl⟩) (hc_pV hK hP hD [0, 1] rfl rfl (ci := 9) 0 rfl rfl) rfl rfl hl.1 rfl (lv_room (Nat.le_of_ble_eq_true rfl)) dX11_changes_2 ⟨Nat.le_refl _, Nat.le_refl _⟩) hP hD hS hA [0, 1] [2, 3, 4, 5, 6, 7] rfl rfl rfl (by decide) (fun r2 u H locs h hP hD hS => ?_)
  try dsimp only at h
  have hP : va_P G.1 vwCl [caI G a_refusals 7 g_refusals, caI G a_hit 8 g_hit, caI G a_lead 8 g_lead, caI G a_defeat 8 g_defeat, caI G a_defeater 8 g_defeater, caI G a_order 8 g_order, ceX11 h0 a_w a_kept a_laid s_hasImage a_refusals a_row s_rows a_letters s_lettered a_hit a_lead a_defeat a_defeater s_ins s_outs a_order s_ordered a_is a_was s_reading s_isWell a_depths a_ways s_z, caI G a_w 43 g_w] H := hP
  have hD : va_D A [caI G a_refusals 7 g_refusals, caI G a_hit 8 g_hit, caI G a_lead 8 g_lead, caI G a_defeat 8 g_defeat, caI G a_defeater 8 g_defeater, caI G a_order 8 g_order, ceX11 h0 a_w a_kept a_laid s_hasImage a_refusals a_row s_rows a_letters s_lettered a_hit a_lead a_defeat a_defeater s_ins s_outs a_order s_ordered a_is a_was s_reading s_isWell a_depths a_ways s_z, caI G a_w 43 g_w] := hD
  refine lv_if_ne (tgt := 14) hx hb dX11_changes_5 (by decide) (fun c => ?_) (fun c => ?_)
  · replace h := h.1 c
    refine lv_aload_n hx hb dX11_changes_14 rfl (lv_at hl 0 rfl) ?_
    refine lv_iload_n hx hb dX11_changes_15 rfl (lv_at hl 1 rfl) ?_
    refine hc_ki (wr := [caI G a_refusals 7 g_refusals, caI G a_hit 8 g_hit, caI G a_lead 8 g_lead, caI G a_defeat 8 g_defeat, caI G a_defeater 8 g_defeater, caI G a_order 8 g_order]) (va_runV (As := [.int x1]) (rest := []) ⟨hx, hb, hml, hown, hts⟩ (c_X11_isHeard l G h0 a_w a_kept a_laid a_refusals a_row a_letters a_hit a_lead a_defeat a_defeater a_order a_is a_was a_depths a_ways H.size s_hasImage s_rows s_lettered s_ins s_outs s_ordered s_reading s_isWell s_z g_w x1 _ h) (cwV 1 hts gX11_changes_X11_isHeard rfl rfl rfl (by decide +kernel) ⟨Nat.le_of_ble_eq_true rfl, Nat.le_of_ble_eq_true rfl⟩) (hc_pV hK hP hD [6, 7] rfl rfl (ci := 9) 6 rfl rfl) rfl rfl hl.1 rfl (lv_room (Nat.le_of_ble_eq_true rfl)) dX11_changes_16 ⟨Nat.le_refl _, Nat.le_refl _⟩) hP hD hS hA [6, 7] [0, 1, 2, 3, 4, 5] rfl rfl rfl (by decide) (fun r16 u H locs h hP hD hS => ?_)
    try dsimp only at h
    have hP : va_P G.1 vwCl [caI G a_refusals 7 g_refusals, caI G a_hit 8 g_hit, caI G a_lead 8 g_lead, caI G a_defeat 8 g_defeat, caI G a_defeater 8 g_defeater, caI G a_order 8 g_order, ceX11 h0 a_w a_kept a_laid s_hasImage a_refusals a_row s_rows a_letters s_lettered a_hit a_lead a_defeat a_defeater s_ins s_outs a_order s_ordered a_is a_was s_reading s_isWell a_depths a_ways s_z, caI G a_w 43 g_w] H := hP
    have hD : va_D A [caI G a_refusals 7 g_refusals, caI G a_hit 8 g_hit, caI G a_lead 8 g_lead, caI G a_defeat 8 g_defeat, caI G a_defeater 8 g_defeater, caI G a_order 8 g_order, ceX11 h0 a_w a_kept a_laid s_hasImage a_refusals a_row s_rows a_letters s_lettered a_hit a_lead a_defeat a_defeater s_ins s_outs a_order s_ordered a_is a_was s_reading s_isWell a_depths a_ways s_z, caI G a_w 43 g_w] := hD
    refine lv_if_ne (tgt := 29) hx hb dX11_changes_19 (by decide) (fun c => ?_) (fun c => ?_)
    · replace h := h.1 c
      refine lv_iload_n hx hb dX11_changes_29 rfl (lv_at hl 2 rfl) ?_
      refine lv_i2l (v := x2.toInt64) hx hb dX11_changes_30 rfl ?_
      refine lv_lconst (v := lN 0) hx hb dX11_changes_31 kl_0 ?_
      refine lv_lconst (v := lN 1) hx hb dX11_changes_32 kl_1 ?_
      refine hc_ki (wr := [caI G a_refusals 7 g_refusals, caI G a_hit 8 g_hit, caI G a_lead 8 g_lead, caI G a_defeat 8 g_defeat, caI G a_defeater 8 g_defeater, caI G a_order 8 g_order, ceX11 h0 a_w a_kept a_laid s_hasImage a_refusals a_row s_rows a_letters s_lettered a_hit a_lead a_defeat a_defeater s_ins s_outs a_order s_ordered a_is a_was s_reading s_isWell a_depths a_ways s_z, caI G a_w 43 g_w]) (va_runS (As := [.long x2.toInt64, .long (lN 0), .long (lN 1)]) (rest := []) ⟨hx, hb, hml, hown, hts⟩ (c_X11_in l G H.size x2.toInt64 (lN 0) (lN 1) _ h) (va_cwS 3 hts gX11_changes_X11_in rfl rfl rfl (by decide +kernel) ⟨Nat.le_of_ble_eq_true rfl, Nat.le_of_ble_eq_true rfl⟩) (hc_pS hK hP hD [] rfl rfl) rfl rfl hl.1 rfl (lv_room (Nat.le_of_ble_eq_true rfl)) dX11_changes_33 ⟨Nat.le_refl _, Nat.le_refl _⟩) hP hD hS hA [] [0, 1, 2, 3, 4, 5, 6, 7] rfl rfl rfl (by decide) (fun r33 u H locs h hP hD hS => ?_)
      try dsimp only at h
      have hP : va_P G.1 vwCl [caI G a_refusals 7 g_refusals, caI G a_hit 8 g_hit, caI G a_lead 8 g_lead, caI G a_defeat 8 g_defeat, caI G a_defeater 8 g_defeater, caI G a_order 8 g_order, ceX11 h0 a_w a_kept a_laid s_hasImage a_refusals a_row s_rows a_letters s_lettered a_hit a_lead a_defeat a_defeater s_ins s_outs a_order s_ordered a_is a_was s_reading s_isWell a_depths a_ways s_z, caI G a_w 43 g_w] H := hP
      have hD : va_D A [caI G a_refusals 7 g_refusals, caI G a_hit 8 g_hit, caI G a_lead 8 g_lead, caI G a_defeat 8 g_defeat, caI G a_defeater 8 g_defeater, caI G a_order 8 g_order, ceX11 h0 a_w a_kept a_laid s_hasImage a_refusals a_row s_rows a_letters s_lettered a_hit a_lead a_defeat a_defeater s_ins s_outs a_order s_ordered a_is a_was s_reading s_isWell a_depths a_ways s_z, caI G a_w 43 g_w] := hD
      refine lv_if_ne (tgt := 46) hx hb dX11_changes_36 (by decide) (fun c => ?_) (fun c => ?_)
      · replace h := h.1 c
        refine lv_aload_n hx hb dX11_changes_46 rfl (lv_at hl 0 rfl) ?_
        refine lv_iload_n hx hb dX11_changes_47 rfl (lv_at hl 1 rfl) ?_
        refine hc_ki (wr := [caI G a_refusals 7 g_refusals]) (va_runV (As := [.int x1]) (rest := []) ⟨hx, hb, hml, hown, hts⟩ (c_X11_isIn l G h0 a_w a_kept a_laid a_refusals a_row a_letters a_hit a_lead a_defeat a_defeater a_order a_is a_was a_depths a_ways H.size s_hasImage s_rows s_lettered s_ins s_outs s_ordered s_reading s_isWell s_z g_w g_hit g_lead g_defeat g_defeater g_order x1 _ h) (cwV 1 hts gX11_changes_X11_isIn rfl rfl rfl (by decide +kernel) ⟨Nat.le_of_ble_eq_true rfl, Nat.le_of_ble_eq_true rfl⟩) (hc_pV hK hP hD [6, 7, 1, 2, 3, 4, 5] rfl rfl (ci := 9) 6 rfl rfl) rfl rfl hl.1 rfl (lv_room (Nat.le_of_ble_eq_true rfl)) dX11_changes_48 ⟨Nat.le_refl _, Nat.le_refl _⟩) hP hD hS hA [6, 7, 1, 2, 3, 4, 5] [0] rfl rfl rfl (by decide) (fun r48 u H locs h hP hD hS => ?_)
        obtain ⟨g_hit_48, g_lead_48, g_defeat_48, g_defeater_48, s_ins_48, s_outs_48, g_order_48, s_ordered_48⟩ := u
        try dsimp only at h
        have hP : va_P G.1 vwCl [caI G a_refusals 7 g_refusals, ceX11 h0 a_w a_kept a_laid s_hasImage a_refusals a_row s_rows a_letters s_lettered a_hit a_lead a_defeat a_defeater s_ins_48 s_outs_48 a_order s_ordered_48 a_is a_was s_reading s_isWell a_depths a_ways s_z, caI G a_w 43 g_w, caI G a_hit 8 g_hit_48, caI G a_lead 8 g_lead_48, caI G a_defeat 8 g_defeat_48, caI G a_defeater 8 g_defeater_48, caI G a_order 8 g_order_48] H := hP
        have hD : va_D A [caI G a_refusals 7 g_refusals, ceX11 h0 a_w a_kept a_laid s_hasImage a_refusals a_row s_rows a_letters s_lettered a_hit a_lead a_defeat a_defeater s_ins_48 s_outs_48 a_order s_ordered_48 a_is a_was s_reading s_isWell a_depths a_ways s_z, caI G a_w 43 g_w, caI G a_hit 8 g_hit_48, caI G a_lead 8 g_lead_48, caI G a_defeat 8 g_defeat_48, caI G a_defeater 8 g_defeater_48, caI G a_order 8 g_order_48] := hD
        refine lv_istore_n (lv' := [(3, .int r48), (0, .ref h0), (1, .int x1), (2, .int x2)]) hx hb dX11_changes_51 rfl hl (by decide) rfl (fun ls hl => ?_)
        refine lv_iconst (v := nI 0) hx hb dX11_changes_52 kc_0 ?_
        refine lv_istore (lv' := [(4, .int (nI 0)), (3, .int r48), (0, .ref h0), (1, .int x1), (2, .int x2)]) hx hb dX11_changes_53 hl (by decide) rfl (fun ls hl => ?_)
        refine lv_bipush (v := (-9 : Int32)) hx hb dX11_changes_55 kb_m9 ?_
        refine lv_istore (lv' := [(5, .int ((-9 : Int32))), (4, .int (nI 0)), (3, .int r48), (0, .ref h0), (1, .int x1), (2, .int x2)]) hx hb dX11_changes_57 hl (by decide) rfl (fun ls hl => ?_)
        refine lv_iconst (v := nI 0) hx hb dX11_changes_59 kc_0 ?_
        refine lv_istore (lv' := [(6, .int (nI 0)), (5, .int ((-9 : Int32))), (4, .int (nI 0)), (3, .int r48), (0, .ref h0), (1, .int x1), (2, .int x2)]) hx hb dX11_changes_60 hl (by decide) rfl (fun ls hl => ?_)
        obtain ⟨n62, h⟩ := h
        exact w62  n62 r48 (nI 0) ((-9 : Int32)) (nI 0) g_w g_refusals g_hit_48 g_lead_48 g_defeat_48 g_defeater_48 s_ins_48 s_outs_48 g_order_48 s_ordered_48 h _ _ _ (hP.sub [1, 2, 0, 3, 4, 5, 6, 7] rfl) (hD.sub [1, 2, 0, 3, 4, 5, 6, 7] (by decide) rfl) hS (lv_sub hl [4, 5, 6, 3, 2, 1, 0] rfl)
      · replace h := h.2 c
        refine lv_aload_n hx hb dX11_changes_39 rfl (lv_at hl 0 rfl) ?_
        refine lv_bipush (v := (-2 : Int32)) hx hb dX11_changes_40 kb_m2 ?_
        refine hc_ki (wr := [caI G a_hit 8 g_hit, caI G a_lead 8 g_lead, caI G a_defeat 8 g_defeat, caI G a_defeater 8 g_defeater, caI G a_order 8 g_order, caI G a_w 43 g_w]) (va_runV (As := [.int ((-2 : Int32))]) (rest := []) ⟨hx, hb, hml, hown, hts⟩ (c_X11_refused l G h0 a_w a_kept a_laid a_refusals a_row a_letters a_hit a_lead a_defeat a_defeater a_order a_is a_was a_depths a_ways H.size s_hasImage s_rows s_lettered s_ins s_outs s_ordered s_reading s_isWell s_z g_refusals ((-2 : Int32)) _ h) (cwV 1 hts gX11_changes_X11_refused rfl rfl rfl (by decide +kernel) ⟨Nat.le_of_ble_eq_true rfl, Nat.le_of_ble_eq_true rfl⟩) (hc_pV hK hP hD [6, 0] rfl rfl (ci := 9) 6 rfl rfl) rfl rfl hl.1 rfl (lv_room (Nat.le_of_ble_eq_true rfl)) dX11_changes_42 ⟨Nat.le_refl _, Nat.le_refl _⟩) hP hD hS hA [6, 0] [1, 2, 3, 4, 5, 7] rfl rfl rfl (by decide) (fun r42 u H locs h hP hD hS => ?_)
        obtain ⟨g_refusals_42, rfl⟩ : ∃ z, z = u := ⟨_, rfl⟩
        try dsimp only at h
        have hP : va_P G.1 vwCl [caI G a_hit 8 g_hit, caI G a_lead 8 g_lead, caI G a_defeat 8 g_defeat, caI G a_defeater 8 g_defeater, caI G a_order 8 g_order, caI G a_w 43 g_w, ceX11 h0 a_w a_kept a_laid s_hasImage a_refusals a_row s_rows a_letters s_lettered a_hit a_lead a_defeat a_defeater s_ins s_outs a_order s_ordered a_is a_was s_reading s_isWell a_depths a_ways s_z, caI G a_refusals 7 g_refusals_42] H := hP
        have hD : va_D A [caI G a_hit 8 g_hit, caI G a_lead 8 g_lead, caI G a_defeat 8 g_defeat, caI G a_defeater 8 g_defeater, caI G a_order 8 g_order, caI G a_w 43 g_w, ceX11 h0 a_w a_kept a_laid s_hasImage a_refusals a_row s_rows a_letters s_lettered a_hit a_lead a_defeat a_defeater s_ins s_outs a_order s_ordered a_is a_was s_reading s_isWell a_depths a_ways s_z, caI G a_refusals 7 g_refusals_42] := hD
        exact W.iret (v := r42) hx hb hr (fun t ht hW => ⟨⟨_, ⟨g_w, g_refusals_42, g_hit, g_lead, g_defeat, g_defeater, s_ins, s_outs, g_order, s_ordered⟩, rfl, h, ⟨by rw [ht]; exact (hP.sub [6, 5, 7, 0, 1, 2, 3, 4] rfl), (hD.sub [6, 5, 7, 0, 1, 2, 3, 4] (by decide) rfl)⟩⟩, hS.F ht⟩) hS.2.2 dX11_changes_45
    · replace h := h.2 c
      refine lv_aload_n hx hb dX11_changes_22 rfl (lv_at hl 0 rfl) ?_
      refine lv_bipush (v := (-3 : Int32)) hx hb dX11_changes_23 kb_m3 ?_
      refine hc_ki (wr := [caI G a_hit 8 g_hit, caI G a_lead 8 g_lead, caI G a_defeat 8 g_defeat, caI G a_defeater 8 g_defeater, caI G a_order 8 g_order, caI G a_w 43 g_w]) (va_runV (As := [.int ((-3 : Int32))]) (rest := []) ⟨hx, hb, hml, hown, hts⟩ (c_X11_refused l G h0 a_w a_kept a_laid a_refusals a_row a_letters a_hit a_lead a_defeat a_defeater a_order a_is a_was a_depths a_ways H.size s_hasImage s_rows s_lettered s_ins s_outs s_ordered s_reading s_isWell s_z g_refusals ((-3 : Int32)) _ h) (cwV 1 hts gX11_changes_X11_refused rfl rfl rfl (by decide +kernel) ⟨Nat.le_of_ble_eq_true rfl, Nat.le_of_ble_eq_true rfl⟩) (hc_pV hK hP hD [6, 0] rfl rfl (ci := 9) 6 rfl rfl) rfl rfl hl.1 rfl (lv_room (Nat.le_of_ble_eq_true rfl)) dX11_changes_25 ⟨Nat.le_refl _, Nat.le_refl _⟩) hP hD hS hA [6, 0] [1, 2, 3, 4, 5, 7] rfl rfl rfl (by decide) (fun r25 u H locs h hP hD hS => ?_)
      obtain ⟨g_refusals_25, rfl⟩ : ∃ z, z = u := ⟨_, rfl⟩
      try dsimp only at h
      have hP : va_P G.1 vwCl [caI G a_hit 8 g_hit, caI G a_lead 8 g_lead, caI G a_defeat 8 g_defeat, caI G a_defeater 8 g_defeater, caI G a_order 8 g_order, caI G a_w 43 g_w, ceX11 h0 a_w a_kept a_laid s_hasImage a_refusals a_row s_rows a_letters s_lettered a_hit a_lead a_defeat a_defeater s_ins s_outs a_order s_ordered a_is a_was s_reading s_isWell a_depths a_ways s_z, caI G a_refusals 7 g_refusals_25] H := hP
      have hD : va_D A [caI G a_hit 8 g_hit, caI G a_lead 8 g_lead, caI G a_defeat 8 g_defeat, caI G a_defeater 8 g_defeater, caI G a_order 8 g_order, caI G a_w 43 g_w, ceX11 h0 a_w a_kept a_laid s_hasImage a_refusals a_row s_rows a_letters s_lettered a_hit a_lead a_defeat a_defeater s_ins s_outs a_order s_ordered a_is a_was s_reading s_isWell a_depths a_ways s_z, caI G a_refusals 7 g_refusals_25] := hD
      exact W.iret (v := r25) hx hb hr (fun t ht hW => ⟨⟨_, ⟨g_w, g_refusals_25, g_hit, g_lead, g_defeat, g_defeater, s_ins, s_outs, g_order, s_ordered⟩, rfl, h, ⟨by rw [ht]; exact (hP.sub [6, 5, 7, 0, 1, 2, 3, 4] rfl), (hD.sub [6, 5, 7, 0, 1, 2, 3, 4] (by decide) rfl)⟩⟩, hS.F ht⟩) hS.2.2 dX11_changes_28
  · replace h := h.2 c
    refine lv_aload_n hx hb dX11_changes_8 rfl (lv_at hl 0 rfl) ?_
    refine lv_iconst (v := (-1 : Int32)) hx hb dX11_changes_9 kc_m1 ?_
    refine hc_ki (wr := [caI G a_hit 8 g_hit, caI G a_lead 8 g_lead, caI G a_defeat 8 g_defeat, caI G a_defeater 8 g_defeater, caI G a_order 8 g_order, caI G a_w 43 g_w]) (va_runV (As := [.int ((-1 : Int32))]) (rest := []) ⟨hx, hb, hml, hown, hts⟩ (c_X11_refused l G h0 a_w a_kept a_laid a_refusals a_row a_letters a_hit a_lead a_defeat a_defeater a_order a_is a_was a_depths a_ways H.size s_hasImage s_rows s_lettered s_ins s_outs s_ordered s_reading s_isWell s_z g_refusals ((-1 : Int32)) _ h) (cwV 1 hts gX11_changes_X11_refused rfl rfl rfl (by decide +kernel) ⟨Nat.le_of_ble_eq_true rfl, Nat.le_of_ble_eq_true rfl⟩) (hc_pV hK hP hD [6, 0] rfl rfl (ci := 9) 6 rfl rfl) rfl rfl hl.1 rfl (lv_room (Nat.le_of_ble_eq_true rfl)) dX11_changes_10 ⟨Nat.le_refl _, Nat.le_refl _⟩) hP hD hS hA [6, 0] [1, 2, 3, 4, 5, 7] rfl rfl rfl (by decide) (fun r10 u H locs h hP hD hS => ?_)
    obtain ⟨g_refusals_10, rfl⟩ : ∃ z, z = u := ⟨_, rfl⟩
    try dsimp only at h
    have hP : va_P G.1 vwCl [caI G a_hit 8 g_hit, caI G a_lead 8 g_lead, caI G a_defeat 8 g_defeat, caI G a_defeater 8 g_defeater, caI G a_order 8 g_order, caI G a_w 43 g_w, ceX11 h0 a_w a_kept a_laid s_hasImage a_refusals a_row s_rows a_letters s_lettered a_hit a_lead a_defeat a_defeater s_ins s_outs a_order s_ordered a_is a_was s_reading s_isWell a_depths a_ways s_z, caI G a_refusals 7 g_refusals_10] H := hP
    have hD : va_D A [caI G a_hit 8 g_hit, caI G a_lead 8 g_lead, caI G a_defeat 8 g_defeat, caI G a_defeater 8 g_defeater, caI G a_order 8 g_order, caI G a_w 43 g_w, ceX11 h0 a_w a_kept a_laid s_hasImage a_refusals a_row s_rows a_letters s_lettered a_hit a_lead a_defeat a_defeater s_ins s_outs a_order s_ordered a_is a_was s_reading s_isWell a_depths a_ways s_z, caI G a_refusals 7 g_refusals_10] := hD
    exact W.iret (v := r10) hx hb hr (fun t ht hW => ⟨⟨_, ⟨g_w, g_refusals_10, g_hit, g_lead, g_defeat, g_defeater, s_ins, s_outs, g_order, s_ordered⟩, rfl, h, ⟨by rw [ht]; exact (hP.sub [6, 5, 7, 0, 1, 2, 3, 4] rfl), (hD.sub [6, 5, 7, 0, 1, 2, 3, 4] (by decide) rfl)⟩⟩, hS.F ht⟩) hS.2.2 dX11_changes_13
set_option maxHeartbeats 4000000 in
set_option maxRecDepth 100000 in
theorem c_X11_without (l : Launch) (G : hcG) (h0 : Nat) (a_w : Nat) (a_kept : Nat) (a_laid : Nat) (a_refusals : Nat) (a_row : Nat) (a_letters : Nat) (a_hit : Nat) (a_lead : Nat) (a_defeat : Nat) (a_defeater : Nat) (a_order : Nat) (a_is : Nat) (a_was : Nat) (a_depths : Nat) (a_ways : Nat) (sz : Nat) (s_hasImage : Int32) (s_rows : Int32) (s_lettered : Int32) (s_ins : Int32) (s_outs : Int32) (s_ordered : Int32) (s_reading : Int32) (s_isWell : Int32) (s_z : Int32) (g_w : Nat → Int32) (g_refusals : Nat → Int32) (g_hit : Nat → Int32) (g_lead : Nat → Int32) (g_defeat : Nat → Int32) (g_defeater : Nat → Int32) (g_order : Nat → Int32) (x1 : Int32) (post : Int32 → (Nat → Int32) → (Nat → Int32) → (Nat → Int32) → (Nat → Int32) → (Nat → Int32) → (Nat → Int32) → Int32 → Int32 → (Nat → Int32) → Int32 → Prop) (h : wp_X11_without post g_w g_refusals g_hit g_lead g_defeat g_defeater s_ins s_outs g_order s_ordered x1) : Met l yX11_without wsX11_without ({ frames := 5, cells := 0, slots := 0, locals := 107 }) (hcPc G [.ref h0, .int x1] [ceX11 h0 a_w a_kept a_laid s_hasImage a_refusals a_row s_rows a_letters s_lettered a_hit a_lead a_defeat a_defeater s_ins s_outs a_order s_ordered a_is a_was s_reading s_isWell a_depths a_ways s_z, caI G a_w 43 g_w, caI G a_refusals 7 g_refusals, caI G a_hit 8 g_hit, caI G a_lead 8 g_lead, caI G a_defeat 8 g_defeat, caI G a_defeater 8 g_defeater, caI G a_order 8 g_order] sz) (va_Qi (fun (r : Int32) (u : (Nat → Int32) × (Nat → Int32) × (Nat → Int32) × (Nat → Int32) × (Nat → Int32) × (Nat → Int32) × Int32 × Int32 × (Nat → Int32) × Int32) => post r u.1 u.2.1 u.2.2.1 u.2.2.2.1 u.2.2.2.2.1 u.2.2.2.2.2.1 u.2.2.2.2.2.2.1 u.2.2.2.2.2.2.2.1 u.2.2.2.2.2.2.2.2.1 u.2.2.2.2.2.2.2.2.2) (hcB G (va_A [ceX11 h0 a_w a_kept a_laid s_hasImage a_refusals a_row s_rows a_letters s_lettered a_hit a_lead a_defeat a_defeater s_ins s_outs a_order s_ordered a_is a_was s_reading s_isWell a_depths a_ways s_z, caI G a_w 43 g_w, caI G a_refusals 7 g_refusals, caI G a_hit 8 g_hit, caI G a_lead 8 g_lead, caI G a_defeat 8 g_defeat, caI G a_defeater 8 g_defeater, caI G a_order 8 g_order] sz) (fun u : (Nat → Int32) × (Nat → Int32) × (Nat → Int32) × (Nat → Int32) × (Nat → Int32) × (Nat → Int32) × Int32 × Int32 × (Nat → Int32) × Int32 => [ceX11 h0 a_w a_kept a_laid s_hasImage a_refusals a_row s_rows a_letters s_lettered a_hit a_lead a_defeat a_defeater u.2.2.2.2.2.2.1 u.2.2.2.2.2.2.2.1 a_order u.2.2.2.2.2.2.2.2.2 a_is a_was s_reading s_isWell a_depths a_ways s_z, caI G a_w 43 u.1, caI G a_refusals 7 u.2.1, caI G a_hit 8 u.2.2.1, caI G a_lead 8 u.2.2.2.1, caI G a_defeat 8 u.2.2.2.2.1, caI G a_defeater 8 u.2.2.2.2.2.1, caI G a_order 8 u.2.2.2.2.2.2.2.2.1])) (va_A [ceX11 h0 a_w a_kept a_laid s_hasImage a_refusals a_row s_rows a_letters s_lettered a_hit a_lead a_defeat a_defeater s_ins s_outs a_order s_ordered a_is a_was s_reading s_isWell a_depths a_ways s_z, caI G a_w 43 g_w, caI G a_refusals 7 g_refusals, caI G a_hit 8 g_hit, caI G a_lead 8 g_lead, caI G a_defeat 8 g_defeat, caI G a_defeater 8 g_defeater, caI G a_order 8 g_order] sz)) 0 0 (va_A [ceX11 h0 a_w a_kept a_laid s_hasImage a_refusals a_row s_rows a_letters s_lettered a_hit a_lead a_defeat a_defeater s_ins s_outs a_order s_ordered a_is a_was s_reading s_isWell a_depths a_ways s_z, caI G a_w 43 g_w, caI G a_refusals 7 g_refusals, caI G a_hit 8 g_hit, caI G a_lead 8 g_lead, caI G a_defeat 8 g_defeat, caI G a_defeater 8 g_defeater, caI G a_order 8 g_order] sz) := by
  refine Met.ofW (cc := cX11_without) (maxL := 3) (ret := (some .int)) (by decide) rfl ?_
  intro p e s m args below meth c s₁ B hml hv
  obtain ⟨rfl, hsz, hP, hK, hD0⟩ := hv
  have hx := B.exec
  have hb := B.bytes
  have hr := B.returns
  have hts := atoms_spec (ws := wsX11_without) B.pre
  have hown : s.vm.findClass RX11 = some m.cls := findClass_of_methodNamed B.named
  have hlocks := B.notSynchronized
  subst hsz
  have hD := hD0.self (sz := s.heap.size)
  generalize hAe : va_A [ceX11 h0 a_w a_kept a_laid s_hasImage a_refusals a_row s_rows a_letters s_lettered a_hit a_lead a_defeat a_defeater s_ins s_outs a_order s_ordered a_is a_was s_reading s_isWell a_depths a_ways s_z, caI G a_w 43 g_w, caI G a_refusals 7 g_refusals, caI G a_hit 8 g_hit, caI G a_lead 8 g_lead, caI G a_defeat 8 g_defeat, caI G a_defeater 8 g_defeater, caI G a_order 8 g_order] s.heap.size = A at hD ⊢
  have hA : ∀ q : Nat, s.heap.size ≤ q → A q := fun q h => by rw [← hAe]; exact Or.inr h
  have hS : va_S A s.heap s.heap [] := va_S.rf
  have hP : va_P G.1 vwCl [ceX11 h0 a_w a_kept a_laid s_hasImage a_refusals a_row s_rows a_letters s_lettered a_hit a_lead a_defeat a_defeater s_ins s_outs a_order s_ordered a_is a_was s_reading s_isWell a_depths a_ways s_z, caI G a_w 43 g_w, caI G a_refusals 7 g_refusals, caI G a_hit 8 g_hit, caI G a_lead 8 g_lead, caI G a_defeat 8 g_defeat, caI G a_defeater 8 g_defeater, caI G a_order 8 g_order] s.heap := hP
  have hl := lv_entry ([.ref h0, .int x1]) (n := 3) (Nat.le_of_ble_eq_true rfl)
  rw [lg_entry_eq]
  generalize (lg_sl ([.ref h0, .int x1]) ++ List.replicate (3 - (lg_sl ([.ref h0, .int x1])).length) Slot.unset).toArray = ls at hl ⊢
  have hl : lv_has ls 3 [(0, .ref h0), (1, .int x1)] := hl
  have kf0 := hts (.fieldLink RX11 9 "HallOfClaimsModel" "w" "[I") (List.mem_of_getElem? (i := 1) (by decide +kernel))
  have kf1 := hts (.fieldLink RX11 79 "HallOfClaimsModel" "ins" "I") (List.mem_of_getElem? (i := 2) (by decide +kernel))
  have ki_X11 : ∀ w ∈ u_ws RX11 TX11 24, w ∈ wsX11_without := by decide +kernel
  unfold wp_X11_without at h
  refine lv_aload_n hx hb dX11_without_0 rfl (lv_at hl 0 rfl) ?_
  refine lv_iload_n hx hb dX11_without_1 rfl (lv_at hl 1 rfl) ?_
  refine hc_ki (wr := [caI G a_refusals 7 g_refusals, caI G a_hit 8 g_hit, caI G a_lead 8 g_lead, caI G a_defeat 8 g_defeat, caI G a_defeater 8 g_defeater, caI G a_order 8 g_order]) (va_runV (As := [.int x1]) (rest := []) ⟨hx, hb, hml, hown, hts⟩ (c_X11_isClaim l G h0 a_w a_kept a_laid a_refusals a_row a_letters a_hit a_lead a_defeat a_defeater a_order a_is a_was a_depths a_ways s.heap.size s_hasImage s_rows s_lettered s_ins s_outs s_ordered s_reading s_isWell s_z g_w x1 _ h) (cwV 1 hts gX11_without_X11_isClaim rfl rfl rfl (by decide +kernel) ⟨Nat.le_of_ble_eq_true rfl, Nat.le_of_ble_eq_true rfl⟩) (hc_pV hK hP hD [0, 1] rfl rfl (ci := 9) 0 rfl rfl) rfl rfl hl.1 rfl (lv_room (Nat.le_of_ble_eq_true rfl)) dX11_without_2 ⟨Nat.le_refl _, Nat.le_refl _⟩) hP hD hS hA [0, 1] [2, 3, 4, 5, 6, 7] rfl rfl rfl (by decide) (fun r2 u H locs h hP hD hS => ?_)
  try dsimp only at h
  have hP : va_P G.1 vwCl [caI G a_refusals 7 g_refusals, caI G a_hit 8 g_hit, caI G a_lead 8 g_lead, caI G a_defeat 8 g_defeat, caI G a_defeater 8 g_defeater, caI G a_order 8 g_order, ceX11 h0 a_w a_kept a_laid s_hasImage a_refusals a_row s_rows a_letters s_lettered a_hit a_lead a_defeat a_defeater s_ins s_outs a_order s_ordered a_is a_was s_reading s_isWell a_depths a_ways s_z, caI G a_w 43 g_w] H := hP
  have hD : va_D A [caI G a_refusals 7 g_refusals, caI G a_hit 8 g_hit, caI G a_lead 8 g_lead, caI G a_defeat 8 g_defeat, caI G a_defeater 8 g_defeater, caI G a_order 8 g_order, ceX11 h0 a_w a_kept a_laid s_hasImage a_refusals a_row s_rows a_letters s_lettered a_hit a_lead a_defeat a_defeater s_ins s_outs a_order s_ordered a_is a_was s_reading s_isWell a_depths a_ways s_z, caI G a_w 43 g_w] := hD
  refine lv_if_ne (tgt := 14) hx hb dX11_without_5 (by decide) (fun c => ?_) (fun c => ?_)
  · replace h := h.1 c
    refine lv_aload_n hx hb dX11_without_14 rfl (lv_at hl 0 rfl) ?_
    refine va_get (D := G.1) (ci := 9) (v := .ref a_w) (C := RX11) (T := TX11) (N := 24) hx hb hts ki_X11 hown hK.1 hP 6 rfl rfl 0 (by decide) kf0 (fun _ h9 => h9) rfl dX11_without_15 ?_
    refine lv_bipush (v := nI 40) hx hb dX11_without_18 kb_40 ?_
    have hin := h.1
    replace h := h.2
    refine va_iald hx hb hK.1 hP 7 0 rfl rfl hin dX11_without_20 ?_
    refine lv_istore_n (lv' := [(2, .int (g_w (nI 40).toNatClampNeg)), (0, .ref h0), (1, .int x1)]) hx hb dX11_without_21 rfl hl (by decide) rfl (fun ls hl => ?_)
    refine lv_aload_n hx hb dX11_without_22 rfl (lv_at hl 1 rfl) ?_
    refine va_get (D := G.1) (ci := 9) (v := .ref a_w) (C := RX11) (T := TX11) (N := 24) hx hb hts ki_X11 hown hK.1 hP 6 rfl rfl 0 (by decide) kf0 (fun _ h9 => h9) rfl dX11_without_23 ?_
    refine lv_bipush (v := nI 40) hx hb dX11_without_26 kb_40 ?_
    refine lv_dup2_11 hx hb dX11_without_28 rfl rfl ?_
    have hin := h.1
    replace h := h.2
    refine va_iald hx hb hK.1 hP 7 0 rfl rfl hin dX11_without_29 ?_
    refine lv_iconst (v := nI 1) hx hb dX11_without_30 kc_1 ?_
    refine lv_iload_n hx hb dX11_without_31 rfl (lv_at hl 2 rfl) ?_
    refine lv_ishl hx hb dX11_without_32 ?_
    refine lv_iconst (v := (-1 : Int32)) hx hb dX11_without_33 kc_m1 ?_
    refine lv_ixor hx hb dX11_without_34 ?_
    refine lv_iand hx hb dX11_without_35 ?_
    have hin := h.1
    replace h := h.2
    refine va_iast hx hb hK.1 hP hD hS 7 0 rfl rfl hin dX11_without_36 (fun H locs hP hD hS => ?_)
    have hP : va_P G.1 vwCl [caI G a_refusals 7 g_refusals, caI G a_hit 8 g_hit, caI G a_lead 8 g_lead, caI G a_defeat 8 g_defeat, caI G a_defeater 8 g_defeater, caI G a_order 8 g_order, ceX11 h0 a_w a_kept a_laid s_hasImage a_refusals a_row s_rows a_letters s_lettered a_hit a_lead a_defeat a_defeater s_ins s_outs a_order s_ordered a_is a_was s_reading s_isWell a_depths a_ways s_z, caI G a_w 43 (upd g_w (nI 40).toNatClampNeg ((g_w (nI 40).toNatClampNeg) &&& (((nI 1) <<< (x1 &&& 31)) ^^^ ((-1 : Int32)))))] H := hP
    have hD : va_D A [caI G a_refusals 7 g_refusals, caI G a_hit 8 g_hit, caI G a_lead 8 g_lead, caI G a_defeat 8 g_defeat, caI G a_defeater 8 g_defeater, caI G a_order 8 g_order, ceX11 h0 a_w a_kept a_laid s_hasImage a_refusals a_row s_rows a_letters s_lettered a_hit a_lead a_defeat a_defeater s_ins s_outs a_order s_ordered a_is a_was s_reading s_isWell a_depths a_ways s_z, caI G a_w 43 (upd g_w (nI 40).toNatClampNeg ((g_w (nI 40).toNatClampNeg) &&& (((nI 1) <<< (x1 &&& 31)) ^^^ ((-1 : Int32)))))] := hD
    refine lv_aload_n hx hb dX11_without_37 rfl (lv_at hl 1 rfl) ?_
    refine hc_kv (wr := [caI G a_refusals 7 g_refusals]) (va_runV (As := []) (rest := []) ⟨hx, hb, hml, hown, hts⟩ (c_X11_turnsAll l G h0 a_w a_kept a_laid a_refusals a_row a_letters a_hit a_lead a_defeat a_defeater a_order a_is a_was a_depths a_ways H.size s_hasImage s_rows s_lettered s_ins s_outs s_ordered s_reading s_isWell s_z (upd g_w (nI 40).toNatClampNeg ((g_w (nI 40).toNatClampNeg) &&& (((nI 1) <<< (x1 &&& 31)) ^^^ ((-1 : Int32))))) g_hit g_lead g_defeat g_defeater g_order _ h) (cwV 0 hts gX11_without_X11_turnsAll rfl rfl rfl (by decide +kernel) ⟨Nat.le_of_ble_eq_true rfl, Nat.le_of_ble_eq_true rfl⟩) (hc_pV hK hP hD [6, 7, 1, 2, 3, 4, 5] rfl rfl (ci := 9) 6 rfl rfl) rfl rfl hl.1 rfl (lv_room (Nat.le_of_ble_eq_true rfl)) dX11_without_38 ⟨Nat.le_refl _, Nat.le_refl _⟩) hP hD hS hA [6, 7, 1, 2, 3, 4, 5] [0] rfl rfl rfl (by decide) (fun u H locs h hP hD hS => ?_)
    obtain ⟨g_hit_38, g_lead_38, g_defeat_38, g_defeater_38, s_ins_38, s_outs_38, g_order_38, s_ordered_38⟩ := u
    try dsimp only at h
    have hP : va_P G.1 vwCl [caI G a_refusals 7 g_refusals, ceX11 h0 a_w a_kept a_laid s_hasImage a_refusals a_row s_rows a_letters s_lettered a_hit a_lead a_defeat a_defeater s_ins_38 s_outs_38 a_order s_ordered_38 a_is a_was s_reading s_isWell a_depths a_ways s_z, caI G a_w 43 (upd g_w (nI 40).toNatClampNeg ((g_w (nI 40).toNatClampNeg) &&& (((nI 1) <<< (x1 &&& 31)) ^^^ ((-1 : Int32))))), caI G a_hit 8 g_hit_38, caI G a_lead 8 g_lead_38, caI G a_defeat 8 g_defeat_38, caI G a_defeater 8 g_defeater_38, caI G a_order 8 g_order_38] H := hP
    have hD : va_D A [caI G a_refusals 7 g_refusals, ceX11 h0 a_w a_kept a_laid s_hasImage a_refusals a_row s_rows a_letters s_lettered a_hit a_lead a_defeat a_defeater s_ins_38 s_outs_38 a_order s_ordered_38 a_is a_was s_reading s_isWell a_depths a_ways s_z, caI G a_w 43 (upd g_w (nI 40).toNatClampNeg ((g_w (nI 40).toNatClampNeg) &&& (((nI 1) <<< (x1 &&& 31)) ^^^ ((-1 : Int32))))), caI G a_hit 8 g_hit_38, caI G a_lead 8 g_lead_38, caI G a_defeat 8 g_defeat_38, caI G a_defeater 8 g_defeater_38, caI G a_order 8 g_order_38] := hD
    refine lv_aload_n hx hb dX11_without_41 rfl (lv_at hl 1 rfl) ?_
    refine va_get (D := G.1) (ci := 9) (v := .ref a_w) (C := RX11) (T := TX11) (N := 24) hx hb hts ki_X11 hown hK.1 hP 1 rfl rfl 0 (by decide) kf0 (fun _ h9 => h9) rfl dX11_without_42 ?_
    refine lv_bipush (v := nI 40) hx hb dX11_without_45 kb_40 ?_
    refine lv_iload_n hx hb dX11_without_47 rfl (lv_at hl 0 rfl) ?_
    have hin := h.1
    replace h := h.2
    refine va_iast hx hb hK.1 hP hD hS 2 0 rfl rfl hin dX11_without_48 (fun H locs hP hD hS => ?_)
    have hP : va_P G.1 vwCl [caI G a_refusals 7 g_refusals, ceX11 h0 a_w a_kept a_laid s_hasImage a_refusals a_row s_rows a_letters s_lettered a_hit a_lead a_defeat a_defeater s_ins_38 s_outs_38 a_order s_ordered_38 a_is a_was s_reading s_isWell a_depths a_ways s_z, caI G a_w 43 (upd (upd g_w (nI 40).toNatClampNeg ((g_w (nI 40).toNatClampNeg) &&& (((nI 1) <<< (x1 &&& 31)) ^^^ ((-1 : Int32))))) (nI 40).toNatClampNeg (g_w (nI 40).toNatClampNeg)), caI G a_hit 8 g_hit_38, caI G a_lead 8 g_lead_38, caI G a_defeat 8 g_defeat_38, caI G a_defeater 8 g_defeater_38, caI G a_order 8 g_order_38] H := hP
    have hD : va_D A [caI G a_refusals 7 g_refusals, ceX11 h0 a_w a_kept a_laid s_hasImage a_refusals a_row s_rows a_letters s_lettered a_hit a_lead a_defeat a_defeater s_ins_38 s_outs_38 a_order s_ordered_38 a_is a_was s_reading s_isWell a_depths a_ways s_z, caI G a_w 43 (upd (upd g_w (nI 40).toNatClampNeg ((g_w (nI 40).toNatClampNeg) &&& (((nI 1) <<< (x1 &&& 31)) ^^^ ((-1 : Int32))))) (nI 40).toNatClampNeg (g_w (nI 40).toNatClampNeg)), caI G a_hit 8 g_hit_38, caI G a_lead 8 g_lead_38, caI G a_defeat 8 g_defeat_38, caI G a_defeater 8 g_defeater_38, caI G a_order 8 g_order_38] := hD
    refine lv_aload_n hx hb dX11_without_49 rfl (lv_at hl 1 rfl) ?_
    refine va_get (D := G.1) (ci := 9) (v := .int s_ins_38) (C := RX11) (T := TX11) (N := 24) hx hb hts ki_X11 hown hK.1 hP 1 rfl rfl 13 (by decide) kf1 (fun _ h9 => h9) rfl dX11_without_50 ?_
    refine hc_ki (wr := [caI G a_refusals 7 g_refusals, ceX11 h0 a_w a_kept a_laid s_hasImage a_refusals a_row s_rows a_letters s_lettered a_hit a_lead a_defeat a_defeater s_ins_38 s_outs_38 a_order s_ordered_38 a_is a_was s_reading s_isWell a_depths a_ways s_z, caI G a_w 43 (upd (upd g_w (nI 40).toNatClampNeg ((g_w (nI 40).toNatClampNeg) &&& (((nI 1) <<< (x1 &&& 31)) ^^^ ((-1 : Int32))))) (nI 40).toNatClampNeg (g_w (nI 40).toNatClampNeg)), caI G a_hit 8 g_hit_38, caI G a_lead 8 g_lead_38, caI G a_defeat 8 g_defeat_38, caI G a_defeater 8 g_defeater_38, caI G a_order 8 g_order_38]) (va_runS (As := [.int s_ins_38]) (rest := []) ⟨hx, hb, hml, hown, hts⟩ (c_X11_ones l G H.size s_ins_38 _ h) (va_cwS 1 hts gX11_without_X11_ones rfl rfl rfl (by decide +kernel) ⟨Nat.le_of_ble_eq_true rfl, Nat.le_of_ble_eq_true rfl⟩) (hc_pS hK hP hD [] rfl rfl) rfl rfl hl.1 rfl (lv_room (Nat.le_of_ble_eq_true rfl)) dX11_without_53 ⟨Nat.le_refl _, Nat.le_refl _⟩) hP hD hS hA [] [0, 1, 2, 3, 4, 5, 6, 7] rfl rfl rfl (by decide) (fun r53 u H locs h hP hD hS => ?_)
    try dsimp only at h
    have hP : va_P G.1 vwCl [caI G a_refusals 7 g_refusals, ceX11 h0 a_w a_kept a_laid s_hasImage a_refusals a_row s_rows a_letters s_lettered a_hit a_lead a_defeat a_defeater s_ins_38 s_outs_38 a_order s_ordered_38 a_is a_was s_reading s_isWell a_depths a_ways s_z, caI G a_w 43 (upd (upd g_w (nI 40).toNatClampNeg ((g_w (nI 40).toNatClampNeg) &&& (((nI 1) <<< (x1 &&& 31)) ^^^ ((-1 : Int32))))) (nI 40).toNatClampNeg (g_w (nI 40).toNatClampNeg)), caI G a_hit 8 g_hit_38, caI G a_lead 8 g_lead_38, caI G a_defeat 8 g_defeat_38, caI G a_defeater 8 g_defeater_38, caI G a_order 8 g_order_38] H := hP
    have hD : va_D A [caI G a_refusals 7 g_refusals, ceX11 h0 a_w a_kept a_laid s_hasImage a_refusals a_row s_rows a_letters s_lettered a_hit a_lead a_defeat a_defeater s_ins_38 s_outs_38 a_order s_ordered_38 a_is a_was s_reading s_isWell a_depths a_ways s_z, caI G a_w 43 (upd (upd g_w (nI 40).toNatClampNeg ((g_w (nI 40).toNatClampNeg) &&& (((nI 1) <<< (x1 &&& 31)) ^^^ ((-1 : Int32))))) (nI 40).toNatClampNeg (g_w (nI 40).toNatClampNeg)), caI G a_hit 8 g_hit_38, caI G a_lead 8 g_lead_38, caI G a_defeat 8 g_defeat_38, caI G a_defeater 8 g_defeater_38, caI G a_order 8 g_order_38] := hD
    exact W.iret (v := r53) hx hb hr (fun t ht hW => ⟨⟨_, ⟨(upd (upd g_w (nI 40).toNatClampNeg ((g_w (nI 40).toNatClampNeg) &&& (((nI 1) <<< (x1 &&& 31)) ^^^ ((-1 : Int32))))) (nI 40).toNatClampNeg (g_w (nI 40).toNatClampNeg)), g_refusals, g_hit_38, g_lead_38, g_defeat_38, g_defeater_38, s_ins_38, s_outs_38, g_order_38, s_ordered_38⟩, rfl, h, ⟨by rw [ht]; exact (hP.sub [1, 2, 0, 3, 4, 5, 6, 7] rfl), (hD.sub [1, 2, 0, 3, 4, 5, 6, 7] (by decide) rfl)⟩⟩, hS.F ht⟩) hS.2.2 dX11_without_56
  · replace h := h.2 c
    refine lv_aload_n hx hb dX11_without_8 rfl (lv_at hl 0 rfl) ?_
    refine lv_iconst (v := (-1 : Int32)) hx hb dX11_without_9 kc_m1 ?_
    refine hc_ki (wr := [caI G a_hit 8 g_hit, caI G a_lead 8 g_lead, caI G a_defeat 8 g_defeat, caI G a_defeater 8 g_defeater, caI G a_order 8 g_order, caI G a_w 43 g_w]) (va_runV (As := [.int ((-1 : Int32))]) (rest := []) ⟨hx, hb, hml, hown, hts⟩ (c_X11_refused l G h0 a_w a_kept a_laid a_refusals a_row a_letters a_hit a_lead a_defeat a_defeater a_order a_is a_was a_depths a_ways H.size s_hasImage s_rows s_lettered s_ins s_outs s_ordered s_reading s_isWell s_z g_refusals ((-1 : Int32)) _ h) (cwV 1 hts gX11_without_X11_refused rfl rfl rfl (by decide +kernel) ⟨Nat.le_of_ble_eq_true rfl, Nat.le_of_ble_eq_true rfl⟩) (hc_pV hK hP hD [6, 0] rfl rfl (ci := 9) 6 rfl rfl) rfl rfl hl.1 rfl (lv_room (Nat.le_of_ble_eq_true rfl)) dX11_without_10 ⟨Nat.le_refl _, Nat.le_refl _⟩) hP hD hS hA [6, 0] [1, 2, 3, 4, 5, 7] rfl rfl rfl (by decide) (fun r10 u H locs h hP hD hS => ?_)
    obtain ⟨g_refusals_10, rfl⟩ : ∃ z, z = u := ⟨_, rfl⟩
    try dsimp only at h
    have hP : va_P G.1 vwCl [caI G a_hit 8 g_hit, caI G a_lead 8 g_lead, caI G a_defeat 8 g_defeat, caI G a_defeater 8 g_defeater, caI G a_order 8 g_order, caI G a_w 43 g_w, ceX11 h0 a_w a_kept a_laid s_hasImage a_refusals a_row s_rows a_letters s_lettered a_hit a_lead a_defeat a_defeater s_ins s_outs a_order s_ordered a_is a_was s_reading s_isWell a_depths a_ways s_z, caI G a_refusals 7 g_refusals_10] H := hP
    have hD : va_D A [caI G a_hit 8 g_hit, caI G a_lead 8 g_lead, caI G a_defeat 8 g_defeat, caI G a_defeater 8 g_defeater, caI G a_order 8 g_order, caI G a_w 43 g_w, ceX11 h0 a_w a_kept a_laid s_hasImage a_refusals a_row s_rows a_letters s_lettered a_hit a_lead a_defeat a_defeater s_ins s_outs a_order s_ordered a_is a_was s_reading s_isWell a_depths a_ways s_z, caI G a_refusals 7 g_refusals_10] := hD
    exact W.iret (v := r10) hx hb hr (fun t ht hW => ⟨⟨_, ⟨g_w, g_refusals_10, g_hit, g_lead, g_defeat, g_defeater, s_ins, s_outs, g_order, s_ordered⟩, rfl, h, ⟨by rw [ht]; exact (hP.sub [6, 5, 7, 0, 1, 2, 3, 4] rfl), (hD.sub [6, 5, 7, 0, 1, 2, 3, 4] (by decide) rfl)⟩⟩, hS.F ht⟩) hS.2.2 dX11_without_13
set_option maxHeartbeats 4000000 in
set_option maxRecDepth 100000 in
theorem c_X11_hasStable (l : Launch) (G : hcG) (h0 : Nat) (a_w : Nat) (a_kept : Nat) (a_laid : Nat) (a_refusals : Nat) (a_row : Nat) (a_letters : Nat) (a_hit : Nat) (a_lead : Nat) (a_defeat : Nat) (a_defeater : Nat) (a_order : Nat) (a_is : Nat) (a_was : Nat) (a_depths : Nat) (a_ways : Nat) (sz : Nat) (s_hasImage : Int32) (s_rows : Int32) (s_lettered : Int32) (s_ins : Int32) (s_outs : Int32) (s_ordered : Int32) (s_reading : Int32) (s_isWell : Int32) (s_z : Int32) (g_w : Nat → Int32) (g_hit : Nat → Int32) (g_lead : Nat → Int32) (g_defeat : Nat → Int32) (g_defeater : Nat → Int32) (post : Int32 → (Nat → Int32) → (Nat → Int32) → (Nat → Int32) → (Nat → Int32) → Prop) (h : wp_X11_hasStable post g_w g_hit g_lead g_defeat g_defeater) : Met l yX11_hasStable wsX11_hasStable ({ frames := 4, cells := 0, slots := 0, locals := 86 }) (hcPc G [.ref h0] [ceX11 h0 a_w a_kept a_laid s_hasImage a_refusals a_row s_rows a_letters s_lettered a_hit a_lead a_defeat a_defeater s_ins s_outs a_order s_ordered a_is a_was s_reading s_isWell a_depths a_ways s_z, caI G a_w 43 g_w, caI G a_hit 8 g_hit, caI G a_lead 8 g_lead, caI G a_defeat 8 g_defeat, caI G a_defeater 8 g_defeater] sz) (va_Qi (fun (r : Int32) (u : (Nat → Int32) × (Nat → Int32) × (Nat → Int32) × (Nat → Int32)) => post r u.1 u.2.1 u.2.2.1 u.2.2.2) (hcB G (va_A [ceX11 h0 a_w a_kept a_laid s_hasImage a_refusals a_row s_rows a_letters s_lettered a_hit a_lead a_defeat a_defeater s_ins s_outs a_order s_ordered a_is a_was s_reading s_isWell a_depths a_ways s_z, caI G a_w 43 g_w, caI G a_hit 8 g_hit, caI G a_lead 8 g_lead, caI G a_defeat 8 g_defeat, caI G a_defeater 8 g_defeater] sz) (fun u : (Nat → Int32) × (Nat → Int32) × (Nat → Int32) × (Nat → Int32) => [ceX11 h0 a_w a_kept a_laid s_hasImage a_refusals a_row s_rows a_letters s_lettered a_hit a_lead a_defeat a_defeater s_ins s_outs a_order s_ordered a_is a_was s_reading s_isWell a_depths a_ways s_z, caI G a_w 43 g_w, caI G a_hit 8 u.1, caI G a_lead 8 u.2.1, caI G a_defeat 8 u.2.2.1, caI G a_defeater 8 u.2.2.2])) (va_A [ceX11 h0 a_w a_kept a_laid s_hasImage a_refusals a_row s_rows a_letters s_lettered a_hit a_lead a_defeat a_defeater s_ins s_outs a_order s_ordered a_is a_was s_reading s_isWell a_depths a_ways s_z, caI G a_w 43 g_w, caI G a_hit 8 g_hit, caI G a_lead 8 g_lead, caI G a_defeat 8 g_defeat, caI G a_defeater 8 g_defeater] sz)) 0 0 (va_A [ceX11 h0 a_w a_kept a_laid s_hasImage a_refusals a_row s_rows a_letters s_lettered a_hit a_lead a_defeat a_defeater s_ins s_outs a_order s_ordered a_is a_was s_reading s_isWell a_depths a_ways s_z, caI G a_w 43 g_w, caI G a_hit 8 g_hit, caI G a_lead 8 g_lead, caI G a_defeat 8 g_defeat, caI G a_defeater 8 g_defeater] sz) := by
  refine Met.ofW (cc := cX11_hasStable) (maxL := 2) (ret := (some .boolean)) (by decide) rfl ?_
  intro p e s m args below meth c s₁ B hml hv
  obtain ⟨rfl, hsz, hP, hK, hD0⟩ := hv
  have hx := B.exec
  have hb := B.bytes
  have hr := B.returns
  have hts := atoms_spec (ws := wsX11_hasStable) B.pre
  have hown : s.vm.findClass RX11 = some m.cls := findClass_of_methodNamed B.named
  have hlocks := B.notSynchronized
  subst hsz
  have hD := hD0.self (sz := s.heap.size)
  generalize hAe : va_A [ceX11 h0 a_w a_kept a_laid s_hasImage a_refusals a_row s_rows a_letters s_lettered a_hit a_lead a_defeat a_defeater s_ins s_outs a_order s_ordered a_is a_was s_reading s_isWell a_depths a_ways s_z, caI G a_w 43 g_w, caI G a_hit 8 g_hit, caI G a_lead 8 g_lead, caI G a_defeat 8 g_defeat, caI G a_defeater 8 g_defeater] s.heap.size = A at hD ⊢
  have hA : ∀ q : Nat, s.heap.size ≤ q → A q := fun q h => by rw [← hAe]; exact Or.inr h
  have hS : va_S A s.heap s.heap [] := va_S.rf
  have hP : va_P G.1 vwCl [ceX11 h0 a_w a_kept a_laid s_hasImage a_refusals a_row s_rows a_letters s_lettered a_hit a_lead a_defeat a_defeater s_ins s_outs a_order s_ordered a_is a_was s_reading s_isWell a_depths a_ways s_z, caI G a_w 43 g_w, caI G a_hit 8 g_hit, caI G a_lead 8 g_lead, caI G a_defeat 8 g_defeat, caI G a_defeater 8 g_defeater] s.heap := hP
  have hl := lv_entry ([.ref h0]) (n := 2) (Nat.le_of_ble_eq_true rfl)
  rw [lg_entry_eq]
  generalize (lg_sl ([.ref h0]) ++ List.replicate (2 - (lg_sl ([.ref h0])).length) Slot.unset).toArray = ls at hl ⊢
  have hl : lv_has ls 2 [(0, .ref h0)] := hl
  have w6 : ∀ (n : Nat) (v1 : Int32) (g_hit : Nat → Int32) (g_lead : Nat → Int32) (g_defeat : Nat → Int32) (g_defeater : Nat → Int32) , wp_X11_hasStable_6 post g_w n v1 g_hit g_lead g_defeat g_defeater → ∀ (H : Heap) (locs : List Loc) (ls : Array Slot), va_P G.1 vwCl [ceX11 h0 a_w a_kept a_laid s_hasImage a_refusals a_row s_rows a_letters s_lettered a_hit a_lead a_defeat a_defeater s_ins s_outs a_order s_ordered a_is a_was s_reading s_isWell a_depths a_ways s_z, caI G a_w 43 g_w, caI G a_hit 8 g_hit, caI G a_lead 8 g_lead, caI G a_defeat 8 g_defeat, caI G a_defeater 8 g_defeater] H → va_D A [ceX11 h0 a_w a_kept a_laid s_hasImage a_refusals a_row s_rows a_letters s_lettered a_hit a_lead a_defeat a_defeater s_ins s_outs a_order s_ordered a_is a_was s_reading s_isWell a_depths a_ways s_z, caI G a_w 43 g_w, caI G a_hit 8 g_hit, caI G a_lead 8 g_lead, caI G a_defeat 8 g_defeat, caI G a_defeater 8 g_defeater] → va_S A s.heap H locs → lv_has ls 2 [(0, .ref h0), (1, .int v1)] → W p l e (headSpec wsX11_hasStable ({ frames := 4, cells := 0, slots := 0, locals := 86 })).room s m ([.ref h0] : List Value).toArray below meth c H locs 0 0 (MQ below (va_Qi (fun (r : Int32) (u : (Nat → Int32) × (Nat → Int32) × (Nat → Int32) × (Nat → Int32)) => post r u.1 u.2.1 u.2.2.1 u.2.2.2) (hcB G A (fun u : (Nat → Int32) × (Nat → Int32) × (Nat → Int32) × (Nat → Int32) => [ceX11 h0 a_w a_kept a_laid s_hasImage a_refusals a_row s_rows a_letters s_lettered a_hit a_lead a_defeat a_defeater s_ins s_outs a_order s_ordered a_is a_was s_reading s_isWell a_depths a_ways s_z, caI G a_w 43 g_w, caI G a_hit 8 u.1, caI G a_lead 8 u.2.1, caI G a_defeat 8 u.2.2.1, caI G a_defeater 8 u.2.2.2])) A) ([.ref h0] : List Value).toArray s 0 0 A) (F0 m 6 ls []) := by
    intro n
    induction n with
    | zero => intro v1 g_hit g_lead g_defeat g_defeater h; exact h.elim
    | succ n ih =>
      intro v1 g_hit g_lead g_defeat g_defeater h H locs ls hP hD hS hl
      unfold wp_X11_hasStable_6 at h
      refine lv_iload_n hx hb dX11_hasStable_6 rfl (lv_at hl 1 rfl) ?_
      refine lv_sipush (v := nI 256) hx hb dX11_hasStable_7 ks_256 ?_
      refine lv_icmp_ge (tgt := 29) hx hb dX11_hasStable_10 (by decide) (fun c => ?_) (fun c => ?_)
      · replace h := h.1 c
        refine lv_iconst (v := nI 0) hx hb dX11_hasStable_29 kc_0 ?_
        exact W.zret (v := nI 0) hx hb hr rfl (fun t ht hW => ⟨⟨_, ⟨g_hit, g_lead, g_defeat, g_defeater⟩, rfl, h, ⟨by rw [ht]; exact hP, hD⟩⟩, hS.F ht⟩) hS.2.2 dX11_hasStable_30
      · replace h := h.2 c
        refine lv_aload_n hx hb dX11_hasStable_13 rfl (lv_at hl 0 rfl) ?_
        refine lv_iload_n hx hb dX11_hasStable_14 rfl (lv_at hl 1 rfl) ?_
        refine hc_ki (wr := [caI G a_hit 8 g_hit, caI G a_lead 8 g_lead, caI G a_defeater 8 g_defeater]) (va_runV (As := [.int v1]) (rest := []) ⟨hx, hb, hml, hown, hts⟩ (c_X11_isStable l G h0 a_w a_kept a_laid a_refusals a_row a_letters a_hit a_lead a_defeat a_defeater a_order a_is a_was a_depths a_ways H.size s_hasImage s_rows s_lettered s_ins s_outs s_ordered s_reading s_isWell s_z g_w g_defeat v1 _ h) (cwV 1 hts gX11_hasStable_X11_isStable rfl rfl rfl (by decide +kernel) ⟨Nat.le_of_ble_eq_true rfl, Nat.le_of_ble_eq_true rfl⟩) (hc_pV hK hP hD [0, 1, 4] rfl rfl (ci := 9) 0 rfl rfl) rfl rfl hl.1 rfl (lv_room (Nat.le_of_ble_eq_true rfl)) dX11_hasStable_15 ⟨Nat.le_refl _, Nat.le_refl _⟩) hP hD hS hA [0, 1, 4] [2, 3, 5] rfl rfl rfl (by decide) (fun r15 u H locs h hP hD hS => ?_)
        try dsimp only at h
        have hP : va_P G.1 vwCl [caI G a_hit 8 g_hit, caI G a_lead 8 g_lead, caI G a_defeater 8 g_defeater, ceX11 h0 a_w a_kept a_laid s_hasImage a_refusals a_row s_rows a_letters s_lettered a_hit a_lead a_defeat a_defeater s_ins s_outs a_order s_ordered a_is a_was s_reading s_isWell a_depths a_ways s_z, caI G a_w 43 g_w, caI G a_defeat 8 g_defeat] H := hP
        have hD : va_D A [caI G a_hit 8 g_hit, caI G a_lead 8 g_lead, caI G a_defeater 8 g_defeater, ceX11 h0 a_w a_kept a_laid s_hasImage a_refusals a_row s_rows a_letters s_lettered a_hit a_lead a_defeat a_defeater s_ins s_outs a_order s_ordered a_is a_was s_reading s_isWell a_depths a_ways s_z, caI G a_w 43 g_w, caI G a_defeat 8 g_defeat] := hD
        refine lv_if_eq (tgt := 23) hx hb dX11_hasStable_18 (by decide) (fun c => ?_) (fun c => ?_)
        · replace h := h.1 c
          refine lv_iinc (v := v1 + nI 1) (lv' := [(1, .int (v1 + nI 1)), (0, .ref h0)]) hx hb dX11_hasStable_23 hl (k := 1) rfl (congrArg (fun q => v1 + q) kc_1) (by decide) rfl (fun ls hl => ?_)
          refine lv_goto (tgt := 6) hx hb dX11_hasStable_26 (by decide) ?_
          exact ih (v1 + nI 1) g_hit g_lead g_defeat g_defeater h _ _ _ (hP.sub [3, 4, 0, 1, 5, 2] rfl) (hD.sub [3, 4, 0, 1, 5, 2] (by decide) rfl) hS (lv_sub hl [1, 0] rfl)
        · replace h := h.2 c
          refine lv_iconst (v := nI 1) hx hb dX11_hasStable_21 kc_1 ?_
          exact W.zret (v := nI 1) hx hb hr rfl (fun t ht hW => ⟨⟨_, ⟨g_hit, g_lead, g_defeat, g_defeater⟩, rfl, h, ⟨by rw [ht]; exact (hP.sub [3, 4, 0, 1, 5, 2] rfl), (hD.sub [3, 4, 0, 1, 5, 2] (by decide) rfl)⟩⟩, hS.F ht⟩) hS.2.2 dX11_hasStable_22
  unfold wp_X11_hasStable at h
  refine lv_aload_n hx hb dX11_hasStable_0 rfl (lv_at hl 0 rfl) ?_
  refine hc_kv (wr := []) (va_runV (As := []) (rest := []) ⟨hx, hb, hml, hown, hts⟩ (c_X11_reckons l G h0 a_w a_kept a_laid a_refusals a_row a_letters a_hit a_lead a_defeat a_defeater a_order a_is a_was a_depths a_ways s.heap.size s_hasImage s_rows s_lettered s_ins s_outs s_ordered s_reading s_isWell s_z g_w g_hit g_lead g_defeat g_defeater _ h) (cwV 0 hts gX11_hasStable_X11_reckons rfl rfl rfl (by decide +kernel) ⟨Nat.le_of_ble_eq_true rfl, Nat.le_of_ble_eq_true rfl⟩) (hc_pV hK hP hD [0, 1, 2, 3, 4, 5] rfl rfl (ci := 9) 0 rfl rfl) rfl rfl hl.1 rfl (lv_room (Nat.le_of_ble_eq_true rfl)) dX11_hasStable_1 ⟨Nat.le_refl _, Nat.le_refl _⟩) hP hD hS hA [0, 1, 2, 3, 4, 5] [] rfl rfl rfl (by decide) (fun u H locs h hP hD hS => ?_)
  obtain ⟨g_hit_1, g_lead_1, g_defeat_1, g_defeater_1⟩ := u
  try dsimp only at h
  have hP : va_P G.1 vwCl [ceX11 h0 a_w a_kept a_laid s_hasImage a_refusals a_row s_rows a_letters s_lettered a_hit a_lead a_defeat a_defeater s_ins s_outs a_order s_ordered a_is a_was s_reading s_isWell a_depths a_ways s_z, caI G a_w 43 g_w, caI G a_hit 8 g_hit_1, caI G a_lead 8 g_lead_1, caI G a_defeat 8 g_defeat_1, caI G a_defeater 8 g_defeater_1] H := hP
  have hD : va_D A [ceX11 h0 a_w a_kept a_laid s_hasImage a_refusals a_row s_rows a_letters s_lettered a_hit a_lead a_defeat a_defeater s_ins s_outs a_order s_ordered a_is a_was s_reading s_isWell a_depths a_ways s_z, caI G a_w 43 g_w, caI G a_hit 8 g_hit_1, caI G a_lead 8 g_lead_1, caI G a_defeat 8 g_defeat_1, caI G a_defeater 8 g_defeater_1] := hD
  refine lv_iconst (v := nI 0) hx hb dX11_hasStable_4 kc_0 ?_
  refine lv_istore_n (lv' := [(1, .int (nI 0)), (0, .ref h0)]) hx hb dX11_hasStable_5 rfl hl (by decide) rfl (fun ls hl => ?_)
  obtain ⟨n6, h⟩ := h
  exact w6  n6 (nI 0) g_hit_1 g_lead_1 g_defeat_1 g_defeater_1 h _ _ _ hP hD hS (lv_sub hl [1, 0] rfl)
set_option maxHeartbeats 4000000 in
set_option maxRecDepth 100000 in
theorem c_X11_spare (l : Launch) (G : hcG) (h0 : Nat) (a_w : Nat) (a_kept : Nat) (a_laid : Nat) (a_refusals : Nat) (a_row : Nat) (a_letters : Nat) (a_hit : Nat) (a_lead : Nat) (a_defeat : Nat) (a_defeater : Nat) (a_order : Nat) (a_is : Nat) (a_was : Nat) (a_depths : Nat) (a_ways : Nat) (sz : Nat) (s_hasImage : Int32) (s_rows : Int32) (s_lettered : Int32) (s_ins : Int32) (s_outs : Int32) (s_ordered : Int32) (s_reading : Int32) (s_isWell : Int32) (s_z : Int32) (g_w : Nat → Int32) (g_refusals : Nat → Int32) (g_hit : Nat → Int32) (g_lead : Nat → Int32) (g_defeat : Nat → Int32) (g_defeater : Nat → Int32) (x1 : Int32) (post : Int32 → (Nat → Int32) → (Nat → Int32) → (Nat → Int32) → (Nat → Int32) → (Nat → Int32) → (Nat → Int32) → Prop) (h : wp_X11_spare post g_w g_refusals g_hit g_lead g_defeat g_defeater x1) : Met l yX11_spare wsX11_spare ({ frames := 5, cells := 0, slots := 0, locals := 107 }) (hcPc G [.ref h0, .int x1] [ceX11 h0 a_w a_kept a_laid s_hasImage a_refusals a_row s_rows a_letters s_lettered a_hit a_lead a_defeat a_defeater s_ins s_outs a_order s_ordered a_is a_was s_reading s_isWell a_depths a_ways s_z, caI G a_w 43 g_w, caI G a_refusals 7 g_refusals, caI G a_hit 8 g_hit, caI G a_lead 8 g_lead, caI G a_defeat 8 g_defeat, caI G a_defeater 8 g_defeater] sz) (va_Qi (fun (r : Int32) (u : (Nat → Int32) × (Nat → Int32) × (Nat → Int32) × (Nat → Int32) × (Nat → Int32) × (Nat → Int32)) => post r u.1 u.2.1 u.2.2.1 u.2.2.2.1 u.2.2.2.2.1 u.2.2.2.2.2) (hcB G (va_A [ceX11 h0 a_w a_kept a_laid s_hasImage a_refusals a_row s_rows a_letters s_lettered a_hit a_lead a_defeat a_defeater s_ins s_outs a_order s_ordered a_is a_was s_reading s_isWell a_depths a_ways s_z, caI G a_w 43 g_w, caI G a_refusals 7 g_refusals, caI G a_hit 8 g_hit, caI G a_lead 8 g_lead, caI G a_defeat 8 g_defeat, caI G a_defeater 8 g_defeater] sz) (fun u : (Nat → Int32) × (Nat → Int32) × (Nat → Int32) × (Nat → Int32) × (Nat → Int32) × (Nat → Int32) => [ceX11 h0 a_w a_kept a_laid s_hasImage a_refusals a_row s_rows a_letters s_lettered a_hit a_lead a_defeat a_defeater s_ins s_outs a_order s_ordered a_is a_was s_reading s_isWell a_depths a_ways s_z, caI G a_w 43 u.1, caI G a_refusals 7 u.2.1, caI G a_hit 8 u.2.2.1, caI G a_lead 8 u.2.2.2.1, caI G a_defeat 8 u.2.2.2.2.1, caI G a_defeater 8 u.2.2.2.2.2])) (va_A [ceX11 h0 a_w a_kept a_laid s_hasImage a_refusals a_row s_rows a_letters s_lettered a_hit a_lead a_defeat a_defeater s_ins s_outs a_order s_ordered a_is a_was s_reading s_isWell a_depths a_ways s_z, caI G a_w 43 g_w, caI G a_refusals 7 g_refusals, caI G a_hit 8 g_hit, caI G a_lead 8 g_lead, caI G a_defeat 8 g_defeat, caI G a_defeater 8 g_defeater] sz)) 0 0 (va_A [ceX11 h0 a_w a_kept a_laid s_hasImage a_refusals a_row s_rows a_letters s_lettered a_hit a_lead a_defeat a_defeater s_ins s_outs a_order s_ordered a_is a_was s_reading s_isWell a_depths a_ways s_z, caI G a_w 43 g_w, caI G a_refusals 7 g_refusals, caI G a_hit 8 g_hit, caI G a_lead 8 g_lead, caI G a_defeat 8 g_defeat, caI G a_defeater 8 g_defeater] sz) := by
  refine Met.ofW (cc := cX11_spare) (maxL := 5) (ret := (some .int)) (by decide) rfl ?_
  intro p e s m args below meth c s₁ B hml hv
  obtain ⟨rfl, hsz, hP, hK, hD0⟩ := hv
  have hx := B.exec
  have hb := B.bytes
  have hr := B.returns
  have hts := atoms_spec (ws := wsX11_spare) B.pre
  have hown : s.vm.findClass RX11 = some m.cls := findClass_of_methodNamed B.named
  have hlocks := B.notSynchronized
  subst hsz
  have hD := hD0.self (sz := s.heap.size)
  generalize hAe : va_A [ceX11 h0 a_w a_kept a_laid s_hasImage a_refusals a_row s_rows a_letters s_lettered a_hit a_lead a_defeat a_defeater s_ins s_outs a_order s_ordered a_is a_was s_reading s_isWell a_depths a_ways s_z, caI G a_w 43 g_w, caI G a_refusals 7 g_refusals, caI G a_hit 8 g_hit, caI G a_lead 8 g_lead, caI G a_defeat 8 g_defeat, caI G a_defeater 8 g_defeater] s.heap.size = A at hD ⊢
  have hA : ∀ q : Nat, s.heap.size ≤ q → A q := fun q h => by rw [← hAe]; exact Or.inr h
  have hS : va_S A s.heap s.heap [] := va_S.rf
  have hP : va_P G.1 vwCl [ceX11 h0 a_w a_kept a_laid s_hasImage a_refusals a_row s_rows a_letters s_lettered a_hit a_lead a_defeat a_defeater s_ins s_outs a_order s_ordered a_is a_was s_reading s_isWell a_depths a_ways s_z, caI G a_w 43 g_w, caI G a_refusals 7 g_refusals, caI G a_hit 8 g_hit, caI G a_lead 8 g_lead, caI G a_defeat 8 g_defeat, caI G a_defeater 8 g_defeater] s.heap := hP
  have hl := lv_entry ([.ref h0, .int x1]) (n := 5) (Nat.le_of_ble_eq_true rfl)
  rw [lg_entry_eq]
  generalize (lg_sl ([.ref h0, .int x1]) ++ List.replicate (5 - (lg_sl ([.ref h0, .int x1])).length) Slot.unset).toArray = ls at hl ⊢
  have hl : lv_has ls 5 [(0, .ref h0), (1, .int x1)] := hl
  have kf0 := hts (.fieldLink RX11 9 "HallOfClaimsModel" "w" "[I") (List.mem_of_getElem? (i := 1) (by decide +kernel))
  have ki_X11 : ∀ w ∈ u_ws RX11 TX11 24, w ∈ wsX11_spare := by decide +kernel
  have w63 : ∀ (K30 : Int32 → Int32 → Int32 → (Nat → Int32) → (Nat → Int32) → (Nat → Int32) → (Nat → Int32) → (Nat → Int32) → (Nat → Int32) → Prop), (∀ (v2 : Int32) (v3 : Int32) (v4 : Int32) (g_w : Nat → Int32) (g_refusals : Nat → Int32) (g_hit : Nat → Int32) (g_lead : Nat → Int32) (g_defeat : Nat → Int32) (g_defeater : Nat → Int32) , K30 v2 v3 v4 g_w g_refusals g_hit g_lead g_defeat g_defeater → ∀ (H : Heap) (locs : List Loc) (ls : Array Slot), va_P G.1 vwCl [ceX11 h0 a_w a_kept a_laid s_hasImage a_refusals a_row s_rows a_letters s_lettered a_hit a_lead a_defeat a_defeater s_ins s_outs a_order s_ordered a_is a_was s_reading s_isWell a_depths a_ways s_z, caI G a_w 43 g_w, caI G a_refusals 7 g_refusals, caI G a_hit 8 g_hit, caI G a_lead 8 g_lead, caI G a_defeat 8 g_defeat, caI G a_defeater 8 g_defeater] H → va_D A [ceX11 h0 a_w a_kept a_laid s_hasImage a_refusals a_row s_rows a_letters s_lettered a_hit a_lead a_defeat a_defeater s_ins s_outs a_order s_ordered a_is a_was s_reading s_isWell a_depths a_ways s_z, caI G a_w 43 g_w, caI G a_refusals 7 g_refusals, caI G a_hit 8 g_hit, caI G a_lead 8 g_lead, caI G a_defeat 8 g_defeat, caI G a_defeater 8 g_defeater] → va_S A s.heap H locs → lv_has ls 5 [(0, .ref h0), (1, .int x1), (2, .int v2), (3, .int v3), (4, .int v4)] → W p l e (headSpec wsX11_spare ({ frames := 5, cells := 0, slots := 0, locals := 107 })).room s m ([.ref h0, .int x1] : List Value).toArray below meth c H locs 0 0 (MQ below (va_Qi (fun (r : Int32) (u : (Nat → Int32) × (Nat → Int32) × (Nat → Int32) × (Nat → Int32) × (Nat → Int32) × (Nat → Int32)) => post r u.1 u.2.1 u.2.2.1 u.2.2.2.1 u.2.2.2.2.1 u.2.2.2.2.2) (hcB G A (fun u : (Nat → Int32) × (Nat → Int32) × (Nat → Int32) × (Nat → Int32) × (Nat → Int32) × (Nat → Int32) => [ceX11 h0 a_w a_kept a_laid s_hasImage a_refusals a_row s_rows a_letters s_lettered a_hit a_lead a_defeat a_defeater s_ins s_outs a_order s_ordered a_is a_was s_reading s_isWell a_depths a_ways s_z, caI G a_w 43 u.1, caI G a_refusals 7 u.2.1, caI G a_hit 8 u.2.2.1, caI G a_lead 8 u.2.2.2.1, caI G a_defeat 8 u.2.2.2.2.1, caI G a_defeater 8 u.2.2.2.2.2])) A) ([.ref h0, .int x1] : List Value).toArray s 0 0 A) (F0 m 30 ls [])) → ∀ (v2 : Int32) (v3 : Int32) (v4 : Int32) (g_w : Nat → Int32) (g_refusals : Nat → Int32) (g_hit : Nat → Int32) (g_lead : Nat → Int32) (g_defeat : Nat → Int32) (g_defeater : Nat → Int32) , wp_X11_spare_63 post x1 K30 v2 v3 v4 g_w g_refusals g_hit g_lead g_defeat g_defeater → ∀ (H : Heap) (locs : List Loc) (ls : Array Slot), va_P G.1 vwCl [ceX11 h0 a_w a_kept a_laid s_hasImage a_refusals a_row s_rows a_letters s_lettered a_hit a_lead a_defeat a_defeater s_ins s_outs a_order s_ordered a_is a_was s_reading s_isWell a_depths a_ways s_z, caI G a_w 43 g_w, caI G a_refusals 7 g_refusals, caI G a_hit 8 g_hit, caI G a_lead 8 g_lead, caI G a_defeat 8 g_defeat, caI G a_defeater 8 g_defeater] H → va_D A [ceX11 h0 a_w a_kept a_laid s_hasImage a_refusals a_row s_rows a_letters s_lettered a_hit a_lead a_defeat a_defeater s_ins s_outs a_order s_ordered a_is a_was s_reading s_isWell a_depths a_ways s_z, caI G a_w 43 g_w, caI G a_refusals 7 g_refusals, caI G a_hit 8 g_hit, caI G a_lead 8 g_lead, caI G a_defeat 8 g_defeat, caI G a_defeater 8 g_defeater] → va_S A s.heap H locs → lv_has ls 5 [(0, .ref h0), (1, .int x1), (2, .int v2), (3, .int v3), (4, .int v4)] → W p l e (headSpec wsX11_spare ({ frames := 5, cells := 0, slots := 0, locals := 107 })).room s m ([.ref h0, .int x1] : List Value).toArray below meth c H locs 0 0 (MQ below (va_Qi (fun (r : Int32) (u : (Nat → Int32) × (Nat → Int32) × (Nat → Int32) × (Nat → Int32) × (Nat → Int32) × (Nat → Int32)) => post r u.1 u.2.1 u.2.2.1 u.2.2.2.1 u.2.2.2.2.1 u.2.2.2.2.2) (hcB G A (fun u : (Nat → Int32) × (Nat → Int32) × (Nat → Int32) × (Nat → Int32) × (Nat → Int32) × (Nat → Int32) => [ceX11 h0 a_w a_kept a_laid s_hasImage a_refusals a_row s_rows a_letters s_lettered a_hit a_lead a_defeat a_defeater s_ins s_outs a_order s_ordered a_is a_was s_reading s_isWell a_depths a_ways s_z, caI G a_w 43 u.1, caI G a_refusals 7 u.2.1, caI G a_hit 8 u.2.2.1, caI G a_lead 8 u.2.2.2.1, caI G a_defeat 8 u.2.2.2.2.1, caI G a_defeater 8 u.2.2.2.2.2])) A) ([.ref h0, .int x1] : List Value).toArray s 0 0 A) (F0 m 63 ls []) := by
    intro K30 hK30 v2 v3 v4 g_w g_refusals g_hit g_lead g_defeat g_defeater h H locs ls hP hD hS hl
    unfold wp_X11_spare_63 at h
    refine lv_aload_n hx hb dX11_spare_63 rfl (lv_at hl 0 rfl) ?_
    refine va_get (D := G.1) (ci := 9) (v := .ref a_w) (C := RX11) (T := TX11) (N := 24) hx hb hts ki_X11 hown hK.1 hP 0 rfl rfl 0 (by decide) kf0 (fun _ h9 => h9) rfl dX11_spare_64 ?_
    refine lv_bipush (v := nI 40) hx hb dX11_spare_67 kb_40 ?_
    refine lv_iload_n hx hb dX11_spare_69 rfl (lv_at hl 2 rfl) ?_
    refine lv_iload hx hb dX11_spare_70 (lv_at hl 4 rfl) ?_
    refine lv_iconst (v := (-1 : Int32)) hx hb dX11_spare_72 kc_m1 ?_
    refine lv_ixor hx hb dX11_spare_73 ?_
    refine lv_iand hx hb dX11_spare_74 ?_
    have hin := h.1
    replace h := h.2
    refine va_iast hx hb hK.1 hP hD hS 1 0 rfl rfl hin dX11_spare_75 (fun H locs hP hD hS => ?_)
    have hP : va_P G.1 vwCl [ceX11 h0 a_w a_kept a_laid s_hasImage a_refusals a_row s_rows a_letters s_lettered a_hit a_lead a_defeat a_defeater s_ins s_outs a_order s_ordered a_is a_was s_reading s_isWell a_depths a_ways s_z, caI G a_w 43 (upd g_w (nI 40).toNatClampNeg (v2 &&& (v4 ^^^ ((-1 : Int32))))), caI G a_refusals 7 g_refusals, caI G a_hit 8 g_hit, caI G a_lead 8 g_lead, caI G a_defeat 8 g_defeat, caI G a_defeater 8 g_defeater] H := hP
    have hD : va_D A [ceX11 h0 a_w a_kept a_laid s_hasImage a_refusals a_row s_rows a_letters s_lettered a_hit a_lead a_defeat a_defeater s_ins s_outs a_order s_ordered a_is a_was s_reading s_isWell a_depths a_ways s_z, caI G a_w 43 (upd g_w (nI 40).toNatClampNeg (v2 &&& (v4 ^^^ ((-1 : Int32))))), caI G a_refusals 7 g_refusals, caI G a_hit 8 g_hit, caI G a_lead 8 g_lead, caI G a_defeat 8 g_defeat, caI G a_defeater 8 g_defeater] := hD
    refine lv_aload_n hx hb dX11_spare_76 rfl (lv_at hl 0 rfl) ?_
    refine hc_ki (wr := [caI G a_refusals 7 g_refusals]) (va_runV (As := []) (rest := []) ⟨hx, hb, hml, hown, hts⟩ (c_X11_hasStable l G h0 a_w a_kept a_laid a_refusals a_row a_letters a_hit a_lead a_defeat a_defeater a_order a_is a_was a_depths a_ways H.size s_hasImage s_rows s_lettered s_ins s_outs s_ordered s_reading s_isWell s_z (upd g_w (nI 40).toNatClampNeg (v2 &&& (v4 ^^^ ((-1 : Int32))))) g_hit g_lead g_defeat g_defeater _ h) (cwV 0 hts gX11_spare_X11_hasStable rfl rfl rfl (by decide +kernel) ⟨Nat.le_of_ble_eq_true rfl, Nat.le_of_ble_eq_true rfl⟩) (hc_pV hK hP hD [0, 1, 3, 4, 5, 6] rfl rfl (ci := 9) 0 rfl rfl) rfl rfl hl.1 rfl (lv_room (Nat.le_of_ble_eq_true rfl)) dX11_spare_77 ⟨Nat.le_refl _, Nat.le_refl _⟩) hP hD hS hA [0, 1, 3, 4, 5, 6] [2] rfl rfl rfl (by decide) (fun r77 u H locs h hP hD hS => ?_)
    obtain ⟨g_hit_77, g_lead_77, g_defeat_77, g_defeater_77⟩ := u
    try dsimp only at h
    have hP : va_P G.1 vwCl [caI G a_refusals 7 g_refusals, ceX11 h0 a_w a_kept a_laid s_hasImage a_refusals a_row s_rows a_letters s_lettered a_hit a_lead a_defeat a_defeater s_ins s_outs a_order s_ordered a_is a_was s_reading s_isWell a_depths a_ways s_z, caI G a_w 43 (upd g_w (nI 40).toNatClampNeg (v2 &&& (v4 ^^^ ((-1 : Int32))))), caI G a_hit 8 g_hit_77, caI G a_lead 8 g_lead_77, caI G a_defeat 8 g_defeat_77, caI G a_defeater 8 g_defeater_77] H := hP
    have hD : va_D A [caI G a_refusals 7 g_refusals, ceX11 h0 a_w a_kept a_laid s_hasImage a_refusals a_row s_rows a_letters s_lettered a_hit a_lead a_defeat a_defeater s_ins s_outs a_order s_ordered a_is a_was s_reading s_isWell a_depths a_ways s_z, caI G a_w 43 (upd g_w (nI 40).toNatClampNeg (v2 &&& (v4 ^^^ ((-1 : Int32))))), caI G a_hit 8 g_hit_77, caI G a_lead 8 g_lead_77, caI G a_defeat 8 g_defeat_77, caI G a_defeater 8 g_defeater_77] := hD
    refine lv_if_eq (tgt := 88) hx hb dX11_spare_80 (by decide) (fun c => ?_) (fun c => ?_)
    · replace h := h.1 c
      refine lv_iload_n hx hb dX11_spare_88 rfl (lv_at hl 3 rfl) ?_
      refine lv_istore_n (lv' := [(3, .int v3), (0, .ref h0), (1, .int x1), (2, .int v2), (4, .int v4)]) hx hb dX11_spare_89 rfl hl (by decide) rfl (fun ls hl => ?_)
      refine lv_iinc (v := v4 + nI 1) (lv' := [(4, .int (v4 + nI 1)), (3, .int v3), (0, .ref h0), (1, .int x1), (2, .int v2)]) hx hb dX11_spare_90 hl (k := 4) rfl (congrArg (fun q => v4 + q) kc_1) (by decide) rfl (fun ls hl => ?_)
      refine lv_goto (tgt := 30) hx hb dX11_spare_93 (by decide) ?_
      exact hK30 v2 v3 (v4 + nI 1) (upd g_w (nI 40).toNatClampNeg (v2 &&& (v4 ^^^ ((-1 : Int32))))) g_refusals g_hit_77 g_lead_77 g_defeat_77 g_defeater_77 h _ _ _ (hP.sub [1, 2, 0, 3, 4, 5, 6] rfl) (hD.sub [1, 2, 0, 3, 4, 5, 6] (by decide) rfl) hS (lv_sub hl [2, 3, 4, 1, 0] rfl)
    · replace h := h.2 c
      refine lv_iload hx hb dX11_spare_83 (lv_at hl 4 rfl) ?_
      refine lv_goto (tgt := 89) hx hb dX11_spare_85 (by decide) ?_
      refine lv_istore_n (lv' := [(3, .int v4), (0, .ref h0), (1, .int x1), (2, .int v2), (4, .int v4)]) hx hb dX11_spare_89 rfl hl (by decide) rfl (fun ls hl => ?_)
      refine lv_iinc (v := v4 + nI 1) (lv' := [(4, .int (v4 + nI 1)), (3, .int v4), (0, .ref h0), (1, .int x1), (2, .int v2)]) hx hb dX11_spare_90 hl (k := 4) rfl (congrArg (fun q => v4 + q) kc_1) (by decide) rfl (fun ls hl => ?_)
      refine lv_goto (tgt := 30) hx hb dX11_spare_93 (by decide) ?_
      exact hK30 v2 v4 (v4 + nI 1) (upd g_w (nI 40).toNatClampNeg (v2 &&& (v4 ^^^ ((-1 : Int32))))) g_refusals g_hit_77 g_lead_77 g_defeat_77 g_defeater_77 h _ _ _ (hP.sub [1, 2, 0, 3, 4, 5, 6] rfl) (hD.sub [1, 2, 0, 3, 4, 5, 6] (by decide) rfl) hS (lv_sub hl [2, 3, 4, 1, 0] rfl)
  have w30 : ∀ (n : Nat) (v2 : Int32) (v3 : Int32) (v4 : Int32) (g_w : Nat → Int32) (g_refusals : Nat → Int32) (g_hit : Nat → Int32) (g_lead : Nat → Int32) (g_defeat : Nat → Int32) (g_defeater : Nat → Int32) , wp_X11_spare_30 post x1 n v2 v3 v4 g_w g_refusals g_hit g_lead g_defeat g_defeater → ∀ (H : Heap) (locs : List Loc) (ls : Array Slot), va_P G.1 vwCl [ceX11 h0 a_w a_kept a_laid s_hasImage a_refusals a_row s_rows a_letters s_lettered a_hit a_lead a_defeat a_defeater s_ins s_outs a_order s_ordered a_is a_was s_reading s_isWell a_depths a_ways s_z, caI G a_w 43 g_w, caI G a_refusals 7 g_refusals, caI G a_hit 8 g_hit, caI G a_lead 8 g_lead, caI G a_defeat 8 g_defeat, caI G a_defeater 8 g_defeater] H → va_D A [ceX11 h0 a_w a_kept a_laid s_hasImage a_refusals a_row s_rows a_letters s_lettered a_hit a_lead a_defeat a_defeater s_ins s_outs a_order s_ordered a_is a_was s_reading s_isWell a_depths a_ways s_z, caI G a_w 43 g_w, caI G a_refusals 7 g_refusals, caI G a_hit 8 g_hit, caI G a_lead 8 g_lead, caI G a_defeat 8 g_defeat, caI G a_defeater 8 g_defeater] → va_S A s.heap H locs → lv_has ls 5 [(0, .ref h0), (1, .int x1), (2, .int v2), (3, .int v3), (4, .int v4)] → W p l e (headSpec wsX11_spare ({ frames := 5, cells := 0, slots := 0, locals := 107 })).room s m ([.ref h0, .int x1] : List Value).toArray below meth c H locs 0 0 (MQ below (va_Qi (fun (r : Int32) (u : (Nat → Int32) × (Nat → Int32) × (Nat → Int32) × (Nat → Int32) × (Nat → Int32) × (Nat → Int32)) => post r u.1 u.2.1 u.2.2.1 u.2.2.2.1 u.2.2.2.2.1 u.2.2.2.2.2) (hcB G A (fun u : (Nat → Int32) × (Nat → Int32) × (Nat → Int32) × (Nat → Int32) × (Nat → Int32) × (Nat → Int32) => [ceX11 h0 a_w a_kept a_laid s_hasImage a_refusals a_row s_rows a_letters s_lettered a_hit a_lead a_defeat a_defeater s_ins s_outs a_order s_ordered a_is a_was s_reading s_isWell a_depths a_ways s_z, caI G a_w 43 u.1, caI G a_refusals 7 u.2.1, caI G a_hit 8 u.2.2.1, caI G a_lead 8 u.2.2.2.1, caI G a_defeat 8 u.2.2.2.2.1, caI G a_defeater 8 u.2.2.2.2.2])) A) ([.ref h0, .int x1] : List Value).toArray s 0 0 A) (F0 m 30 ls []) := by
    intro n
    induction n with
    | zero => intro v2 v3 v4 g_w g_refusals g_hit g_lead g_defeat g_defeater h; exact h.elim
    | succ n ih =>
      intro v2 v3 v4 g_w g_refusals g_hit g_lead g_defeat g_defeater h H locs ls hP hD hS hl
      unfold wp_X11_spare_30 at h
      refine lv_iload hx hb dX11_spare_30 (lv_at hl 4 rfl) ?_
      refine lv_sipush (v := nI 256) hx hb dX11_spare_32 ks_256 ?_
      refine lv_icmp_ge (tgt := 96) hx hb dX11_spare_35 (by decide) (fun c => ?_) (fun c => ?_)
      · replace h := h.1 c
        refine lv_aload_n hx hb dX11_spare_96 rfl (lv_at hl 0 rfl) ?_
        refine va_get (D := G.1) (ci := 9) (v := .ref a_w) (C := RX11) (T := TX11) (N := 24) hx hb hts ki_X11 hown hK.1 hP 0 rfl rfl 0 (by decide) kf0 (fun _ h9 => h9) rfl dX11_spare_97 ?_
        refine lv_bipush (v := nI 40) hx hb dX11_spare_100 kb_40 ?_
        refine lv_iload_n hx hb dX11_spare_102 rfl (lv_at hl 2 rfl) ?_
        have hin := h.1
        replace h := h.2
        refine va_iast hx hb hK.1 hP hD hS 1 0 rfl rfl hin dX11_spare_103 (fun H locs hP hD hS => ?_)
        have hP : va_P G.1 vwCl [ceX11 h0 a_w a_kept a_laid s_hasImage a_refusals a_row s_rows a_letters s_lettered a_hit a_lead a_defeat a_defeater s_ins s_outs a_order s_ordered a_is a_was s_reading s_isWell a_depths a_ways s_z, caI G a_w 43 (upd g_w (nI 40).toNatClampNeg v2), caI G a_refusals 7 g_refusals, caI G a_hit 8 g_hit, caI G a_lead 8 g_lead, caI G a_defeat 8 g_defeat, caI G a_defeater 8 g_defeater] H := hP
        have hD : va_D A [ceX11 h0 a_w a_kept a_laid s_hasImage a_refusals a_row s_rows a_letters s_lettered a_hit a_lead a_defeat a_defeater s_ins s_outs a_order s_ordered a_is a_was s_reading s_isWell a_depths a_ways s_z, caI G a_w 43 (upd g_w (nI 40).toNatClampNeg v2), caI G a_refusals 7 g_refusals, caI G a_hit 8 g_hit, caI G a_lead 8 g_lead, caI G a_defeat 8 g_defeat, caI G a_defeater 8 g_defeater] := hD
        refine lv_iload_n hx hb dX11_spare_104 rfl (lv_at hl 1 rfl) ?_
        refine lv_if_ne (tgt := 115) hx hb dX11_spare_105 (by decide) (fun c => ?_) (fun c => ?_)
        · replace h := h.1 c
          refine lv_iload_n hx hb dX11_spare_115 rfl (lv_at hl 3 rfl) ?_
          exact W.iret (v := v3) hx hb hr (fun t ht hW => ⟨⟨_, ⟨(upd g_w (nI 40).toNatClampNeg v2), g_refusals, g_hit, g_lead, g_defeat, g_defeater⟩, rfl, h, ⟨by rw [ht]; exact hP, hD⟩⟩, hS.F ht⟩) hS.2.2 dX11_spare_116
        · replace h := h.2 c
          refine lv_iload_n hx hb dX11_spare_108 rfl (lv_at hl 3 rfl) ?_
          refine hc_ki (wr := [ceX11 h0 a_w a_kept a_laid s_hasImage a_refusals a_row s_rows a_letters s_lettered a_hit a_lead a_defeat a_defeater s_ins s_outs a_order s_ordered a_is a_was s_reading s_isWell a_depths a_ways s_z, caI G a_w 43 (upd g_w (nI 40).toNatClampNeg v2), caI G a_refusals 7 g_refusals, caI G a_hit 8 g_hit, caI G a_lead 8 g_lead, caI G a_defeat 8 g_defeat, caI G a_defeater 8 g_defeater]) (va_runS (As := [.int v3]) (rest := []) ⟨hx, hb, hml, hown, hts⟩ (c_X11_ones l G H.size v3 _ h) (va_cwS 1 hts gX11_spare_X11_ones rfl rfl rfl (by decide +kernel) ⟨Nat.le_of_ble_eq_true rfl, Nat.le_of_ble_eq_true rfl⟩) (hc_pS hK hP hD [] rfl rfl) rfl rfl hl.1 rfl (lv_room (Nat.le_of_ble_eq_true rfl)) dX11_spare_109 ⟨Nat.le_refl _, Nat.le_refl _⟩) hP hD hS hA [] [0, 1, 2, 3, 4, 5, 6] rfl rfl rfl (by decide) (fun r109 u H locs h hP hD hS => ?_)
          try dsimp only at h
          have hP : va_P G.1 vwCl [ceX11 h0 a_w a_kept a_laid s_hasImage a_refusals a_row s_rows a_letters s_lettered a_hit a_lead a_defeat a_defeater s_ins s_outs a_order s_ordered a_is a_was s_reading s_isWell a_depths a_ways s_z, caI G a_w 43 (upd g_w (nI 40).toNatClampNeg v2), caI G a_refusals 7 g_refusals, caI G a_hit 8 g_hit, caI G a_lead 8 g_lead, caI G a_defeat 8 g_defeat, caI G a_defeater 8 g_defeater] H := hP
          have hD : va_D A [ceX11 h0 a_w a_kept a_laid s_hasImage a_refusals a_row s_rows a_letters s_lettered a_hit a_lead a_defeat a_defeater s_ins s_outs a_order s_ordered a_is a_was s_reading s_isWell a_depths a_ways s_z, caI G a_w 43 (upd g_w (nI 40).toNatClampNeg v2), caI G a_refusals 7 g_refusals, caI G a_hit 8 g_hit, caI G a_lead 8 g_lead, caI G a_defeat 8 g_defeat, caI G a_defeater 8 g_defeater] := hD
          refine lv_goto (tgt := 116) hx hb dX11_spare_112 (by decide) ?_
          exact W.iret (v := r109) hx hb hr (fun t ht hW => ⟨⟨_, ⟨(upd g_w (nI 40).toNatClampNeg v2), g_refusals, g_hit, g_lead, g_defeat, g_defeater⟩, rfl, h, ⟨by rw [ht]; exact hP, hD⟩⟩, hS.F ht⟩) hS.2.2 dX11_spare_116
      · replace h := h.2 c
        refine lv_iload hx hb dX11_spare_38 (lv_at hl 4 rfl) ?_
        refine lv_iload_n hx hb dX11_spare_40 rfl (lv_at hl 2 rfl) ?_
        refine lv_iconst (v := (-1 : Int32)) hx hb dX11_spare_41 kc_m1 ?_
        refine lv_ixor hx hb dX11_spare_42 ?_
        refine lv_iand hx hb dX11_spare_43 ?_
        refine lv_if_ne (tgt := 90) hx hb dX11_spare_44 (by decide) (fun c => ?_) (fun c => ?_)
        · replace h := h.1 c
          refine lv_iinc (v := v4 + nI 1) (lv' := [(4, .int (v4 + nI 1)), (0, .ref h0), (1, .int x1), (2, .int v2), (3, .int v3)]) hx hb dX11_spare_90 hl (k := 4) rfl (congrArg (fun q => v4 + q) kc_1) (by decide) rfl (fun ls hl => ?_)
          refine lv_goto (tgt := 30) hx hb dX11_spare_93 (by decide) ?_
          exact ih v2 v3 (v4 + nI 1) g_w g_refusals g_hit g_lead g_defeat g_defeater h _ _ _ hP hD hS (lv_sub hl [1, 2, 3, 4, 0] rfl)
        · replace h := h.2 c
          refine lv_iload_n hx hb dX11_spare_47 rfl (lv_at hl 3 rfl) ?_
          refine lv_if_lt (tgt := 63) hx hb dX11_spare_48 (by decide) (fun c => ?_) (fun c => ?_)
          · replace h := h.1 c
            exact w63 ((wp_X11_spare_30 post x1 n)) ih v2 v3 v4 g_w g_refusals g_hit g_lead g_defeat g_defeater h _ _ _ hP hD hS (lv_sub hl [0, 1, 2, 3, 4] rfl)
          · replace h := h.2 c
            refine lv_iload hx hb dX11_spare_51 (lv_at hl 4 rfl) ?_
            refine hc_ki (wr := [ceX11 h0 a_w a_kept a_laid s_hasImage a_refusals a_row s_rows a_letters s_lettered a_hit a_lead a_defeat a_defeater s_ins s_outs a_order s_ordered a_is a_was s_reading s_isWell a_depths a_ways s_z, caI G a_w 43 g_w, caI G a_refusals 7 g_refusals, caI G a_hit 8 g_hit, caI G a_lead 8 g_lead, caI G a_defeat 8 g_defeat, caI G a_defeater 8 g_defeater]) (va_runS (As := [.int v4]) (rest := []) ⟨hx, hb, hml, hown, hts⟩ (c_X11_ones l G H.size v4 _ h) (va_cwS 1 hts gX11_spare_X11_ones rfl rfl rfl (by decide +kernel) ⟨Nat.le_of_ble_eq_true rfl, Nat.le_of_ble_eq_true rfl⟩) (hc_pS hK hP hD [] rfl rfl) rfl rfl hl.1 rfl (lv_room (Nat.le_of_ble_eq_true rfl)) dX11_spare_53 ⟨Nat.le_refl _, Nat.le_refl _⟩) hP hD hS hA [] [0, 1, 2, 3, 4, 5, 6] rfl rfl rfl (by decide) (fun r53 u H locs h hP hD hS => ?_)
            try dsimp only at h
            have hP : va_P G.1 vwCl [ceX11 h0 a_w a_kept a_laid s_hasImage a_refusals a_row s_rows a_letters s_lettered a_hit a_lead a_defeat a_defeater s_ins s_outs a_order s_ordered a_is a_was s_reading s_isWell a_depths a_ways s_z, caI G a_w 43 g_w, caI G a_refusals 7 g_refusals, caI G a_hit 8 g_hit, caI G a_lead 8 g_lead, caI G a_defeat 8 g_defeat, caI G a_defeater 8 g_defeater] H := hP
            have hD : va_D A [ceX11 h0 a_w a_kept a_laid s_hasImage a_refusals a_row s_rows a_letters s_lettered a_hit a_lead a_defeat a_defeater s_ins s_outs a_order s_ordered a_is a_was s_reading s_isWell a_depths a_ways s_z, caI G a_w 43 g_w, caI G a_refusals 7 g_refusals, caI G a_hit 8 g_hit, caI G a_lead 8 g_lead, caI G a_defeat 8 g_defeat, caI G a_defeater 8 g_defeater] := hD
            refine lv_iload_n hx hb dX11_spare_56 rfl (lv_at hl 3 rfl) ?_
            refine hc_ki (wr := [ceX11 h0 a_w a_kept a_laid s_hasImage a_refusals a_row s_rows a_letters s_lettered a_hit a_lead a_defeat a_defeater s_ins s_outs a_order s_ordered a_is a_was s_reading s_isWell a_depths a_ways s_z, caI G a_w 43 g_w, caI G a_refusals 7 g_refusals, caI G a_hit 8 g_hit, caI G a_lead 8 g_lead, caI G a_defeat 8 g_defeat, caI G a_defeater 8 g_defeater]) (va_runS (As := [.int v3]) (rest := [.int r53]) ⟨hx, hb, hml, hown, hts⟩ (c_X11_ones l G H.size v3 _ h) (va_cwS 1 hts gX11_spare_X11_ones rfl rfl rfl (by decide +kernel) ⟨Nat.le_of_ble_eq_true rfl, Nat.le_of_ble_eq_true rfl⟩) (hc_pS hK hP hD [] rfl rfl) rfl rfl hl.1 rfl (lv_room (Nat.le_of_ble_eq_true rfl)) dX11_spare_57 ⟨Nat.le_refl _, Nat.le_refl _⟩) hP hD hS hA [] [0, 1, 2, 3, 4, 5, 6] rfl rfl rfl (by decide) (fun r57 u H locs h hP hD hS => ?_)
            try dsimp only at h
            have hP : va_P G.1 vwCl [ceX11 h0 a_w a_kept a_laid s_hasImage a_refusals a_row s_rows a_letters s_lettered a_hit a_lead a_defeat a_defeater s_ins s_outs a_order s_ordered a_is a_was s_reading s_isWell a_depths a_ways s_z, caI G a_w 43 g_w, caI G a_refusals 7 g_refusals, caI G a_hit 8 g_hit, caI G a_lead 8 g_lead, caI G a_defeat 8 g_defeat, caI G a_defeater 8 g_defeater] H := hP
            have hD : va_D A [ceX11 h0 a_w a_kept a_laid s_hasImage a_refusals a_row s_rows a_letters s_lettered a_hit a_lead a_defeat a_defeater s_ins s_outs a_order s_ordered a_is a_was s_reading s_isWell a_depths a_ways s_z, caI G a_w 43 g_w, caI G a_refusals 7 g_refusals, caI G a_hit 8 g_hit, caI G a_lead 8 g_lead, caI G a_defeat 8 g_defeat, caI G a_defeater 8 g_defeater] := hD
            refine lv_icmp_ge (tgt := 90) hx hb dX11_spare_60 (by decide) (fun c => ?_) (fun c => ?_)
            · replace h := h.1 c
              refine lv_iinc (v := v4 + nI 1) (lv' := [(4, .int (v4 + nI 1)), (0, .ref h0), (1, .int x1), (2, .int v2), (3, .int v3)]) hx hb dX11_spare_90 hl (k := 4) rfl (congrArg (fun q => v4 + q) kc_1) (by decide) rfl (fun ls hl => ?_)
              refine lv_goto (tgt := 30) hx hb dX11_spare_93 (by decide) ?_
              exact ih v2 v3 (v4 + nI 1) g_w g_refusals g_hit g_lead g_defeat g_defeater h _ _ _ hP hD hS (lv_sub hl [1, 2, 3, 4, 0] rfl)
            · replace h := h.2 c
              exact w63 ((wp_X11_spare_30 post x1 n)) ih v2 v3 v4 g_w g_refusals g_hit g_lead g_defeat g_defeater h _ _ _ hP hD hS (lv_sub hl [0, 1, 2, 3, 4] rfl)
  unfold wp_X11_spare at h
  refine lv_iload_n hx hb dX11_spare_0 rfl (lv_at hl 1 rfl) ?_
  refine lv_i2l (v := x1.toInt64) hx hb dX11_spare_1 rfl ?_
  refine lv_lconst (v := lN 0) hx hb dX11_spare_2 kl_0 ?_
  refine lv_lconst (v := lN 1) hx hb dX11_spare_3 kl_1 ?_
  refine hc_ki (wr := [ceX11 h0 a_w a_kept a_laid s_hasImage a_refusals a_row s_rows a_letters s_lettered a_hit a_lead a_defeat a_defeater s_ins s_outs a_order s_ordered a_is a_was s_reading s_isWell a_depths a_ways s_z, caI G a_w 43 g_w, caI G a_refusals 7 g_refusals, caI G a_hit 8 g_hit, caI G a_lead 8 g_lead, caI G a_defeat 8 g_defeat, caI G a_defeater 8 g_defeater]) (va_runS (As := [.long x1.toInt64, .long (lN 0), .long (lN 1)]) (rest := []) ⟨hx, hb, hml, hown, hts⟩ (c_X11_in l G s.heap.size x1.toInt64 (lN 0) (lN 1) _ h) (va_cwS 3 hts gX11_spare_X11_in rfl rfl rfl (by decide +kernel) ⟨Nat.le_of_ble_eq_true rfl, Nat.le_of_ble_eq_true rfl⟩) (hc_pS hK hP hD [] rfl rfl) rfl rfl hl.1 rfl (lv_room (Nat.le_of_ble_eq_true rfl)) dX11_spare_4 ⟨Nat.le_refl _, Nat.le_refl _⟩) hP hD hS hA [] [0, 1, 2, 3, 4, 5, 6] rfl rfl rfl (by decide) (fun r4 u H locs h hP hD hS => ?_)
  try dsimp only at h
  have hP : va_P G.1 vwCl [ceX11 h0 a_w a_kept a_laid s_hasImage a_refusals a_row s_rows a_letters s_lettered a_hit a_lead a_defeat a_defeater s_ins s_outs a_order s_ordered a_is a_was s_reading s_isWell a_depths a_ways s_z, caI G a_w 43 g_w, caI G a_refusals 7 g_refusals, caI G a_hit 8 g_hit, caI G a_lead 8 g_lead, caI G a_defeat 8 g_defeat, caI G a_defeater 8 g_defeater] H := hP
  have hD : va_D A [ceX11 h0 a_w a_kept a_laid s_hasImage a_refusals a_row s_rows a_letters s_lettered a_hit a_lead a_defeat a_defeater s_ins s_outs a_order s_ordered a_is a_was s_reading s_isWell a_depths a_ways s_z, caI G a_w 43 g_w, caI G a_refusals 7 g_refusals, caI G a_hit 8 g_hit, caI G a_lead 8 g_lead, caI G a_defeat 8 g_defeat, caI G a_defeater 8 g_defeater] := hD
  refine lv_if_ne (tgt := 17) hx hb dX11_spare_7 (by decide) (fun c => ?_) (fun c => ?_)
  · replace h := h.1 c
    refine lv_aload_n hx hb dX11_spare_17 rfl (lv_at hl 0 rfl) ?_
    refine va_get (D := G.1) (ci := 9) (v := .ref a_w) (C := RX11) (T := TX11) (N := 24) hx hb hts ki_X11 hown hK.1 hP 0 rfl rfl 0 (by decide) kf0 (fun _ h9 => h9) rfl dX11_spare_18 ?_
    refine lv_bipush (v := nI 40) hx hb dX11_spare_21 kb_40 ?_
    have hin := h.1
    replace h := h.2
    refine va_iald hx hb hK.1 hP 1 0 rfl rfl hin dX11_spare_23 ?_
    refine lv_istore_n (lv' := [(2, .int (g_w (nI 40).toNatClampNeg)), (0, .ref h0), (1, .int x1)]) hx hb dX11_spare_24 rfl hl (by decide) rfl (fun ls hl => ?_)
    refine lv_iconst (v := (-1 : Int32)) hx hb dX11_spare_25 kc_m1 ?_
    refine lv_istore_n (lv' := [(3, .int ((-1 : Int32))), (2, .int (g_w (nI 40).toNatClampNeg)), (0, .ref h0), (1, .int x1)]) hx hb dX11_spare_26 rfl hl (by decide) rfl (fun ls hl => ?_)
    refine lv_iconst (v := nI 0) hx hb dX11_spare_27 kc_0 ?_
    refine lv_istore (lv' := [(4, .int (nI 0)), (3, .int ((-1 : Int32))), (2, .int (g_w (nI 40).toNatClampNeg)), (0, .ref h0), (1, .int x1)]) hx hb dX11_spare_28 hl (by decide) rfl (fun ls hl => ?_)
    obtain ⟨n30, h⟩ := h
    exact w30  n30 (g_w (nI 40).toNatClampNeg) ((-1 : Int32)) (nI 0) g_w g_refusals g_hit g_lead g_defeat g_defeater h _ _ _ hP hD hS (lv_sub hl [3, 4, 2, 1, 0] rfl)
  · replace h := h.2 c
    refine lv_aload_n hx hb dX11_spare_10 rfl (lv_at hl 0 rfl) ?_
    refine lv_bipush (v := (-2 : Int32)) hx hb dX11_spare_11 kb_m2 ?_
    refine hc_ki (wr := [caI G a_w 43 g_w, caI G a_hit 8 g_hit, caI G a_lead 8 g_lead, caI G a_defeat 8 g_defeat, caI G a_defeater 8 g_defeater]) (va_runV (As := [.int ((-2 : Int32))]) (rest := []) ⟨hx, hb, hml, hown, hts⟩ (c_X11_refused l G h0 a_w a_kept a_laid a_refusals a_row a_letters a_hit a_lead a_defeat a_defeater a_order a_is a_was a_depths a_ways H.size s_hasImage s_rows s_lettered s_ins s_outs s_ordered s_reading s_isWell s_z g_refusals ((-2 : Int32)) _ h) (cwV 1 hts gX11_spare_X11_refused rfl rfl rfl (by decide +kernel) ⟨Nat.le_of_ble_eq_true rfl, Nat.le_of_ble_eq_true rfl⟩) (hc_pV hK hP hD [0, 2] rfl rfl (ci := 9) 0 rfl rfl) rfl rfl hl.1 rfl (lv_room (Nat.le_of_ble_eq_true rfl)) dX11_spare_13 ⟨Nat.le_refl _, Nat.le_refl _⟩) hP hD hS hA [0, 2] [1, 3, 4, 5, 6] rfl rfl rfl (by decide) (fun r13 u H locs h hP hD hS => ?_)
    obtain ⟨g_refusals_13, rfl⟩ : ∃ z, z = u := ⟨_, rfl⟩
    try dsimp only at h
    have hP : va_P G.1 vwCl [caI G a_w 43 g_w, caI G a_hit 8 g_hit, caI G a_lead 8 g_lead, caI G a_defeat 8 g_defeat, caI G a_defeater 8 g_defeater, ceX11 h0 a_w a_kept a_laid s_hasImage a_refusals a_row s_rows a_letters s_lettered a_hit a_lead a_defeat a_defeater s_ins s_outs a_order s_ordered a_is a_was s_reading s_isWell a_depths a_ways s_z, caI G a_refusals 7 g_refusals_13] H := hP
    have hD : va_D A [caI G a_w 43 g_w, caI G a_hit 8 g_hit, caI G a_lead 8 g_lead, caI G a_defeat 8 g_defeat, caI G a_defeater 8 g_defeater, ceX11 h0 a_w a_kept a_laid s_hasImage a_refusals a_row s_rows a_letters s_lettered a_hit a_lead a_defeat a_defeater s_ins s_outs a_order s_ordered a_is a_was s_reading s_isWell a_depths a_ways s_z, caI G a_refusals 7 g_refusals_13] := hD
    exact W.iret (v := r13) hx hb hr (fun t ht hW => ⟨⟨_, ⟨g_w, g_refusals_13, g_hit, g_lead, g_defeat, g_defeater⟩, rfl, h, ⟨by rw [ht]; exact (hP.sub [5, 0, 6, 1, 2, 3, 4] rfl), (hD.sub [5, 0, 6, 1, 2, 3, 4] (by decide) rfl)⟩⟩, hS.F ht⟩) hS.2.2 dX11_spare_16
set_option maxHeartbeats 4000000 in
set_option maxRecDepth 100000 in
theorem c_X11_part (l : Launch) (G : hcG) (sz : Nat) (x0 : Int64) (x1 : Int64) (x2 : Int32) (post : Int64 → Prop) (h : wp_X11_part post x0 x1 x2) : Met l yX11_part wsX11_part ({ frames := 0, cells := 0, slots := 0, locals := 0 }) (hcPc G [.long x0, .long x1, .int x2] [] sz) (va_Ql (fun (r : Int64) (u : Unit) => post r) (hcB G (va_A [] sz) (fun u : Unit => [])) (va_A [] sz)) 0 0 (va_A [] sz) := by
  refine Met.ofW (cc := cX11_part) (maxL := 11) (ret := (some .long)) (by decide) rfl ?_
  intro p e s m args below meth c s₁ B hml hv
  obtain ⟨rfl, hsz, hP, hK, hD0⟩ := hv
  have hx := B.exec
  have hb := B.bytes
  have hr := B.returns
  have hts := atoms_spec (ws := wsX11_part) B.pre
  have hown : s.vm.findClass RX11 = some m.cls := findClass_of_methodNamed B.named
  have hlocks := B.notSynchronized
  subst hsz
  have hD := hD0.self (sz := s.heap.size)
  generalize hAe : va_A [] s.heap.size = A at hD ⊢
  have hA : ∀ q : Nat, s.heap.size ≤ q → A q := fun q h => by rw [← hAe]; exact Or.inr h
  have hS : va_S A s.heap s.heap [] := va_S.rf
  have hP : va_P G.1 vwCl [] s.heap := hP
  have hl := lv_entry ([.long x0, .long x1, .int x2]) (n := 11) (Nat.le_of_ble_eq_true rfl)
  rw [lg_entry_eq]
  generalize (lg_sl ([.long x0, .long x1, .int x2]) ++ List.replicate (11 - (lg_sl ([.long x0, .long x1, .int x2])).length) Slot.unset).toArray = ls at hl ⊢
  have hl : lv_has ls 11 [(0, .long x0), (2, .long x1), (4, .int x2)] := hl
  have w6 : ∀ (n : Nat) (v5 : Int64) (v7 : Int64) , wp_X11_part_6 post x0 x1 x2 n v5 v7 → ∀ (H : Heap) (locs : List Loc) (ls : Array Slot), va_P G.1 vwCl [] H → va_D A [] → va_S A s.heap H locs → lv_has ls 11 [(0, .long x0), (2, .long x1), (4, .int x2), (5, .long v5), (7, .long v7)] → W p l e (headSpec wsX11_part ({ frames := 0, cells := 0, slots := 0, locals := 0 })).room s m ([.long x0, .long x1, .int x2] : List Value).toArray below meth c H locs 0 0 (MQ below (va_Ql (fun (r : Int64) (u : Unit) => post r) (hcB G A (fun u : Unit => [])) A) ([.long x0, .long x1, .int x2] : List Value).toArray s 0 0 A) (F0 m 6 ls []) := by
    intro n
    induction n with
    | zero => intro v5 v7 h; exact h.elim
    | succ n ih =>
      intro v5 v7 h H locs ls hP hD hS hl
      unfold wp_X11_part_6 at h
      refine lv_lload hx hb dX11_part_6 (lv_at hl 4 rfl) ?_
      refine lv_lconst (v := lN 0) hx hb dX11_part_8 kl_0 ?_
      refine W.lcmp hx hb dX11_part_9 ?_
      refine lv_if_eq (tgt := 31) hx hb dX11_part_10 (by decide) (fun c => ?_) (fun c => ?_)
      · replace h := h.1 c
        refine lv_iload hx hb dX11_part_31 (lv_at hl 2 rfl) ?_
        refine lv_if_ne (tgt := 43) hx hb dX11_part_33 (by decide) (fun c => ?_) (fun c => ?_)
        · replace h := h.1 c
          refine lv_lload_n hx hb dX11_part_43 rfl (lv_at hl 1 rfl) ?_
          refine lv_lload hx hb dX11_part_44 (lv_at hl 3 rfl) ?_
          have hne := h.1
          replace h := h.2
          refine lv_ldiv hx hb dX11_part_46 hne ?_
          exact W.lret (v := x1 / v5) hx hb hr (fun t ht hW => ⟨⟨_, (), rfl, h, ⟨by rw [ht]; exact hP, hD⟩⟩, hS.F ht⟩) hS.2.2 dX11_part_47
        · replace h := h.2 c
          refine lv_lload_n hx hb dX11_part_36 rfl (lv_at hl 0 rfl) ?_
          refine lv_lload hx hb dX11_part_37 (lv_at hl 3 rfl) ?_
          have hne := h.1
          replace h := h.2
          refine lv_ldiv hx hb dX11_part_39 hne ?_
          refine lv_goto (tgt := 47) hx hb dX11_part_40 (by decide) ?_
          exact W.lret (v := x0 / v5) hx hb hr (fun t ht hW => ⟨⟨_, (), rfl, h, ⟨by rw [ht]; exact hP, hD⟩⟩, hS.F ht⟩) hS.2.2 dX11_part_47
      · replace h := h.2 c
        refine lv_lload hx hb dX11_part_13 (lv_at hl 3 rfl) ?_
        refine lv_lload hx hb dX11_part_15 (lv_at hl 4 rfl) ?_
        have hne := h.1
        replace h := h.2
        refine lv_lrem hx hb dX11_part_17 hne ?_
        refine lv_lstore (lv' := [(9, .long (v5 - v5 / v7 * v7)), (0, .long x0), (2, .long x1), (4, .int x2), (5, .long v5), (7, .long v7)]) hx hb dX11_part_18 hl (by decide) rfl (fun ls hl => ?_)
        refine lv_lload hx hb dX11_part_20 (lv_at hl 5 rfl) ?_
        refine lv_lstore (lv' := [(5, .long v7), (9, .long (v5 - v5 / v7 * v7)), (0, .long x0), (2, .long x1), (4, .int x2), (7, .long v7)]) hx hb dX11_part_22 hl (by decide) rfl (fun ls hl => ?_)
        refine lv_lload hx hb dX11_part_24 (lv_at hl 1 rfl) ?_
        refine lv_lstore (lv' := [(7, .long (v5 - v5 / v7 * v7)), (5, .long v7), (9, .long (v5 - v5 / v7 * v7)), (0, .long x0), (2, .long x1), (4, .int x2)]) hx hb dX11_part_26 hl (by decide) rfl (fun ls hl => ?_)
        refine lv_goto (tgt := 6) hx hb dX11_part_28 (by decide) ?_
        exact ih v7 (v5 - v5 / v7 * v7) h _ _ _ hP hD hS (lv_sub hl [3, 4, 5, 1, 0] rfl)
  unfold wp_X11_part at h
  refine lv_lload_n hx hb dX11_part_0 rfl (lv_at hl 0 rfl) ?_
  refine lv_lstore (lv' := [(5, .long x0), (0, .long x0), (2, .long x1), (4, .int x2)]) hx hb dX11_part_1 hl (by decide) rfl (fun ls hl => ?_)
  refine lv_lload_n hx hb dX11_part_3 rfl (lv_at hl 2 rfl) ?_
  refine lv_lstore (lv' := [(7, .long x1), (5, .long x0), (0, .long x0), (2, .long x1), (4, .int x2)]) hx hb dX11_part_4 hl (by decide) rfl (fun ls hl => ?_)
  obtain ⟨n6, h⟩ := h
  exact w6  n6 x0 x1 h _ _ _ hP hD hS (lv_sub hl [2, 3, 4, 1, 0] rfl)
set_option maxHeartbeats 4000000 in
set_option maxRecDepth 100000 in
theorem c_X11_missing (l : Launch) (G : hcG) (h0 : Nat) (a_w : Nat) (a_kept : Nat) (a_laid : Nat) (a_refusals : Nat) (a_row : Nat) (a_letters : Nat) (a_hit : Nat) (a_lead : Nat) (a_defeat : Nat) (a_defeater : Nat) (a_order : Nat) (a_is : Nat) (a_was : Nat) (a_depths : Nat) (a_ways : Nat) (sz : Nat) (s_hasImage : Int32) (s_rows : Int32) (s_lettered : Int32) (s_ins : Int32) (s_outs : Int32) (s_ordered : Int32) (s_reading : Int32) (s_isWell : Int32) (s_z : Int32) (g_w : Nat → Int32) (g_refusals : Nat → Int32) (g_hit : Nat → Int32) (g_lead : Nat → Int32) (g_defeat : Nat → Int32) (g_defeater : Nat → Int32) (g_order : Nat → Int32) (x1 : Int32) (x2 : Int32) (x3 : Int32) (post : Int64 → (Nat → Int32) → (Nat → Int32) → (Nat → Int32) → (Nat → Int32) → (Nat → Int32) → (Nat → Int32) → Int32 → Int32 → (Nat → Int32) → Int32 → Prop) (h : wp_X11_missing post g_w g_refusals g_hit g_lead g_defeat g_defeater s_ins s_outs g_order s_ordered x1 x2 x3) : Met l yX11_missing wsX11_missing ({ frames := 6, cells := 0, slots := 0, locals := 128 }) (hcPc G [.ref h0, .int x1, .int x2, .int x3] [ceX11 h0 a_w a_kept a_laid s_hasImage a_refusals a_row s_rows a_letters s_lettered a_hit a_lead a_defeat a_defeater s_ins s_outs a_order s_ordered a_is a_was s_reading s_isWell a_depths a_ways s_z, caI G a_w 43 g_w, caI G a_refusals 7 g_refusals, caI G a_hit 8 g_hit, caI G a_lead 8 g_lead, caI G a_defeat 8 g_defeat, caI G a_defeater 8 g_defeater, caI G a_order 8 g_order] sz) (va_Ql (fun (r : Int64) (u : (Nat → Int32) × (Nat → Int32) × (Nat → Int32) × (Nat → Int32) × (Nat → Int32) × (Nat → Int32) × Int32 × Int32 × (Nat → Int32) × Int32) => post r u.1 u.2.1 u.2.2.1 u.2.2.2.1 u.2.2.2.2.1 u.2.2.2.2.2.1 u.2.2.2.2.2.2.1 u.2.2.2.2.2.2.2.1 u.2.2.2.2.2.2.2.2.1 u.2.2.2.2.2.2.2.2.2) (hcB G (va_A [ceX11 h0 a_w a_kept a_laid s_hasImage a_refusals a_row s_rows a_letters s_lettered a_hit a_lead a_defeat a_defeater s_ins s_outs a_order s_ordered a_is a_was s_reading s_isWell a_depths a_ways s_z, caI G a_w 43 g_w, caI G a_refusals 7 g_refusals, caI G a_hit 8 g_hit, caI G a_lead 8 g_lead, caI G a_defeat 8 g_defeat, caI G a_defeater 8 g_defeater, caI G a_order 8 g_order] sz) (fun u : (Nat → Int32) × (Nat → Int32) × (Nat → Int32) × (Nat → Int32) × (Nat → Int32) × (Nat → Int32) × Int32 × Int32 × (Nat → Int32) × Int32 => [ceX11 h0 a_w a_kept a_laid s_hasImage a_refusals a_row s_rows a_letters s_lettered a_hit a_lead a_defeat a_defeater u.2.2.2.2.2.2.1 u.2.2.2.2.2.2.2.1 a_order u.2.2.2.2.2.2.2.2.2 a_is a_was s_reading s_isWell a_depths a_ways s_z, caI G a_w 43 u.1, caI G a_refusals 7 u.2.1, caI G a_hit 8 u.2.2.1, caI G a_lead 8 u.2.2.2.1, caI G a_defeat 8 u.2.2.2.2.1, caI G a_defeater 8 u.2.2.2.2.2.1, caI G a_order 8 u.2.2.2.2.2.2.2.2.1])) (va_A [ceX11 h0 a_w a_kept a_laid s_hasImage a_refusals a_row s_rows a_letters s_lettered a_hit a_lead a_defeat a_defeater s_ins s_outs a_order s_ordered a_is a_was s_reading s_isWell a_depths a_ways s_z, caI G a_w 43 g_w, caI G a_refusals 7 g_refusals, caI G a_hit 8 g_hit, caI G a_lead 8 g_lead, caI G a_defeat 8 g_defeat, caI G a_defeater 8 g_defeater, caI G a_order 8 g_order] sz)) 0 0 (va_A [ceX11 h0 a_w a_kept a_laid s_hasImage a_refusals a_row s_rows a_letters s_lettered a_hit a_lead a_defeat a_defeater s_ins s_outs a_order s_ordered a_is a_was s_reading s_isWell a_depths a_ways s_z, caI G a_w 43 g_w, caI G a_refusals 7 g_refusals, caI G a_hit 8 g_hit, caI G a_lead 8 g_lead, caI G a_defeat 8 g_defeat, caI G a_defeater 8 g_defeater, caI G a_order 8 g_order] sz) := by
  refine Met.ofW (cc := cX11_missing) (maxL := 13) (ret := (some .long)) (by decide) rfl ?_
  intro p e s m args below meth c s₁ B hml hv
  obtain ⟨rfl, hsz, hP, hK, hD0⟩ := hv
  have hx := B.exec
  have hb := B.bytes
  have hr := B.returns
  have hts := atoms_spec (ws := wsX11_missing) B.pre
  have hown : s.vm.findClass RX11 = some m.cls := findClass_of_methodNamed B.named
  have hlocks := B.notSynchronized
  subst hsz
  have hD := hD0.self (sz := s.heap.size)
  generalize hAe : va_A [ceX11 h0 a_w a_kept a_laid s_hasImage a_refusals a_row s_rows a_letters s_lettered a_hit a_lead a_defeat a_defeater s_ins s_outs a_order s_ordered a_is a_was s_reading s_isWell a_depths a_ways s_z, caI G a_w 43 g_w, caI G a_refusals 7 g_refusals, caI G a_hit 8 g_hit, caI G a_lead 8 g_lead, caI G a_defeat 8 g_defeat, caI G a_defeater 8 g_defeater, caI G a_order 8 g_order] s.heap.size = A at hD ⊢
  have hA : ∀ q : Nat, s.heap.size ≤ q → A q := fun q h => by rw [← hAe]; exact Or.inr h
  have hS : va_S A s.heap s.heap [] := va_S.rf
  have hP : va_P G.1 vwCl [ceX11 h0 a_w a_kept a_laid s_hasImage a_refusals a_row s_rows a_letters s_lettered a_hit a_lead a_defeat a_defeater s_ins s_outs a_order s_ordered a_is a_was s_reading s_isWell a_depths a_ways s_z, caI G a_w 43 g_w, caI G a_refusals 7 g_refusals, caI G a_hit 8 g_hit, caI G a_lead 8 g_lead, caI G a_defeat 8 g_defeat, caI G a_defeater 8 g_defeater, caI G a_order 8 g_order] s.heap := hP
  have hl := lv_entry ([.ref h0, .int x1, .int x2, .int x3]) (n := 13) (Nat.le_of_ble_eq_true rfl)
  rw [lg_entry_eq]
  generalize (lg_sl ([.ref h0, .int x1, .int x2, .int x3]) ++ List.replicate (13 - (lg_sl ([.ref h0, .int x1, .int x2, .int x3])).length) Slot.unset).toArray = ls at hl ⊢
  have hl : lv_has ls 13 [(0, .ref h0), (1, .int x1), (2, .int x2), (3, .int x3)] := hl
  have kf0 := hts (.constantLong RX11 261 (2)) (List.mem_of_getElem? (i := 2) (by decide +kernel))
  have kf1 := hts (.constantLong RX11 263 (20)) (List.mem_of_getElem? (i := 3) (by decide +kernel))
  have kf2 := hts (.fieldLink RX11 9 "HallOfClaimsModel" "w" "[I") (List.mem_of_getElem? (i := 4) (by decide +kernel))
  have kf3 := hts (.constantLong RX11 259 (4000000000000000000)) (List.mem_of_getElem? (i := 1) (by decide +kernel))
  have ki_X11 : ∀ w ∈ u_ws RX11 TX11 24, w ∈ wsX11_missing := by decide +kernel
  have w154 : ∀ (K131 : Int32 → Int64 → Int64 → Int32 → (Nat → Int32) → (Nat → Int32) → (Nat → Int32) → (Nat → Int32) → (Nat → Int32) → (Nat → Int32) → Int32 → Int32 → (Nat → Int32) → Int32 → Prop), (∀ (v4 : Int32) (v5 : Int64) (v7 : Int64) (v9 : Int32) (g_w : Nat → Int32) (g_refusals : Nat → Int32) (g_hit : Nat → Int32) (g_lead : Nat → Int32) (g_defeat : Nat → Int32) (g_defeater : Nat → Int32) (s_ins : Int32) (s_outs : Int32) (g_order : Nat → Int32) (s_ordered : Int32) , K131 v4 v5 v7 v9 g_w g_refusals g_hit g_lead g_defeat g_defeater s_ins s_outs g_order s_ordered → ∀ (H : Heap) (locs : List Loc) (ls : Array Slot), va_P G.1 vwCl [ceX11 h0 a_w a_kept a_laid s_hasImage a_refusals a_row s_rows a_letters s_lettered a_hit a_lead a_defeat a_defeater s_ins s_outs a_order s_ordered a_is a_was s_reading s_isWell a_depths a_ways s_z, caI G a_w 43 g_w, caI G a_refusals 7 g_refusals, caI G a_hit 8 g_hit, caI G a_lead 8 g_lead, caI G a_defeat 8 g_defeat, caI G a_defeater 8 g_defeater, caI G a_order 8 g_order] H → va_D A [ceX11 h0 a_w a_kept a_laid s_hasImage a_refusals a_row s_rows a_letters s_lettered a_hit a_lead a_defeat a_defeater s_ins s_outs a_order s_ordered a_is a_was s_reading s_isWell a_depths a_ways s_z, caI G a_w 43 g_w, caI G a_refusals 7 g_refusals, caI G a_hit 8 g_hit, caI G a_lead 8 g_lead, caI G a_defeat 8 g_defeat, caI G a_defeater 8 g_defeater, caI G a_order 8 g_order] → va_S A s.heap H locs → lv_has ls 13 [(0, .ref h0), (1, .int x1), (2, .int x2), (3, .int x3), (4, .int v4), (5, .long v5), (7, .long v7), (9, .int v9)] → W p l e (headSpec wsX11_missing ({ frames := 6, cells := 0, slots := 0, locals := 128 })).room s m ([.ref h0, .int x1, .int x2, .int x3] : List Value).toArray below meth c H locs 0 0 (MQ below (va_Ql (fun (r : Int64) (u : (Nat → Int32) × (Nat → Int32) × (Nat → Int32) × (Nat → Int32) × (Nat → Int32) × (Nat → Int32) × Int32 × Int32 × (Nat → Int32) × Int32) => post r u.1 u.2.1 u.2.2.1 u.2.2.2.1 u.2.2.2.2.1 u.2.2.2.2.2.1 u.2.2.2.2.2.2.1 u.2.2.2.2.2.2.2.1 u.2.2.2.2.2.2.2.2.1 u.2.2.2.2.2.2.2.2.2) (hcB G A (fun u : (Nat → Int32) × (Nat → Int32) × (Nat → Int32) × (Nat → Int32) × (Nat → Int32) × (Nat → Int32) × Int32 × Int32 × (Nat → Int32) × Int32 => [ceX11 h0 a_w a_kept a_laid s_hasImage a_refusals a_row s_rows a_letters s_lettered a_hit a_lead a_defeat a_defeater u.2.2.2.2.2.2.1 u.2.2.2.2.2.2.2.1 a_order u.2.2.2.2.2.2.2.2.2 a_is a_was s_reading s_isWell a_depths a_ways s_z, caI G a_w 43 u.1, caI G a_refusals 7 u.2.1, caI G a_hit 8 u.2.2.1, caI G a_lead 8 u.2.2.2.1, caI G a_defeat 8 u.2.2.2.2.1, caI G a_defeater 8 u.2.2.2.2.2.1, caI G a_order 8 u.2.2.2.2.2.2.2.2.1])) A) ([.ref h0, .int x1, .int x2, .int x3] : List Value).toArray s 0 0 A) (F0 m 131 ls [])) → ∀ (n : Nat) (v4 : Int32) (v5 : Int64) (v7 : Int64) (v9 : Int32) (v10 : Int64) (v12 : Int32) (g_w : Nat → Int32) (g_refusals : Nat → Int32) (g_hit : Nat → Int32) (g_lead : Nat → Int32) (g_defeat : Nat → Int32) (g_defeater : Nat → Int32) (s_ins : Int32) (s_outs : Int32) (g_order : Nat → Int32) (s_ordered : Int32) , wp_X11_missing_154 post x1 x2 x3 K131 n v4 v5 v7 v9 v10 v12 g_w g_refusals g_hit g_lead g_defeat g_defeater s_ins s_outs g_order s_ordered → ∀ (H : Heap) (locs : List Loc) (ls : Array Slot), va_P G.1 vwCl [ceX11 h0 a_w a_kept a_laid s_hasImage a_refusals a_row s_rows a_letters s_lettered a_hit a_lead a_defeat a_defeater s_ins s_outs a_order s_ordered a_is a_was s_reading s_isWell a_depths a_ways s_z, caI G a_w 43 g_w, caI G a_refusals 7 g_refusals, caI G a_hit 8 g_hit, caI G a_lead 8 g_lead, caI G a_defeat 8 g_defeat, caI G a_defeater 8 g_defeater, caI G a_order 8 g_order] H → va_D A [ceX11 h0 a_w a_kept a_laid s_hasImage a_refusals a_row s_rows a_letters s_lettered a_hit a_lead a_defeat a_defeater s_ins s_outs a_order s_ordered a_is a_was s_reading s_isWell a_depths a_ways s_z, caI G a_w 43 g_w, caI G a_refusals 7 g_refusals, caI G a_hit 8 g_hit, caI G a_lead 8 g_lead, caI G a_defeat 8 g_defeat, caI G a_defeater 8 g_defeater, caI G a_order 8 g_order] → va_S A s.heap H locs → lv_has ls 13 [(0, .ref h0), (1, .int x1), (2, .int x2), (3, .int x3), (4, .int v4), (5, .long v5), (7, .long v7), (9, .int v9), (10, .long v10), (12, .int v12)] → W p l e (headSpec wsX11_missing ({ frames := 6, cells := 0, slots := 0, locals := 128 })).room s m ([.ref h0, .int x1, .int x2, .int x3] : List Value).toArray below meth c H locs 0 0 (MQ below (va_Ql (fun (r : Int64) (u : (Nat → Int32) × (Nat → Int32) × (Nat → Int32) × (Nat → Int32) × (Nat → Int32) × (Nat → Int32) × Int32 × Int32 × (Nat → Int32) × Int32) => post r u.1 u.2.1 u.2.2.1 u.2.2.2.1 u.2.2.2.2.1 u.2.2.2.2.2.1 u.2.2.2.2.2.2.1 u.2.2.2.2.2.2.2.1 u.2.2.2.2.2.2.2.2.1 u.2.2.2.2.2.2.2.2.2) (hcB G A (fun u : (Nat → Int32) × (Nat → Int32) × (Nat → Int32) × (Nat → Int32) × (Nat → Int32) × (Nat → Int32) × Int32 × Int32 × (Nat → Int32) × Int32 => [ceX11 h0 a_w a_kept a_laid s_hasImage a_refusals a_row s_rows a_letters s_lettered a_hit a_lead a_defeat a_defeater u.2.2.2.2.2.2.1 u.2.2.2.2.2.2.2.1 a_order u.2.2.2.2.2.2.2.2.2 a_is a_was s_reading s_isWell a_depths a_ways s_z, caI G a_w 43 u.1, caI G a_refusals 7 u.2.1, caI G a_hit 8 u.2.2.1, caI G a_lead 8 u.2.2.2.1, caI G a_defeat 8 u.2.2.2.2.1, caI G a_defeater 8 u.2.2.2.2.2.1, caI G a_order 8 u.2.2.2.2.2.2.2.2.1])) A) ([.ref h0, .int x1, .int x2, .int x3] : List Value).toArray s 0 0 A) (F0 m 154 ls []) := by
    intro K131 hK131 n
    induction n with
    | zero => intro v4 v5 v7 v9 v10 v12 g_w g_refusals g_hit g_lead g_defeat g_defeater s_ins s_outs g_order s_ordered h; exact h.elim
    | succ n ih =>
      intro v4 v5 v7 v9 v10 v12 g_w g_refusals g_hit g_lead g_defeat g_defeater s_ins s_outs g_order s_ordered h H locs ls hP hD hS hl
      unfold wp_X11_missing_154 at h
      refine lv_iload hx hb dX11_missing_154 (lv_at hl 9 rfl) ?_
      refine lv_iconst (v := nI 5) hx hb dX11_missing_156 kc_5 ?_
      refine lv_icmp_ge (tgt := 194) hx hb dX11_missing_157 (by decide) (fun c => ?_) (fun c => ?_)
      · replace h := h.1 c
        refine lv_aload_n hx hb dX11_missing_194 rfl (lv_at hl 0 rfl) ?_
        refine va_get (D := G.1) (ci := 9) (v := .ref a_w) (C := RX11) (T := TX11) (N := 24) hx hb hts ki_X11 hown hK.1 hP 0 rfl rfl 0 (by decide) kf2 (fun _ h9 => h9) rfl dX11_missing_195 ?_
        refine lv_bipush (v := nI 40) hx hb dX11_missing_198 kb_40 ?_
        refine lv_iload hx hb dX11_missing_200 (lv_at hl 4 rfl) ?_
        refine lv_iload hx hb dX11_missing_202 (lv_at hl 7 rfl) ?_
        refine lv_iconst (v := (-1 : Int32)) hx hb dX11_missing_204 kc_m1 ?_
        refine lv_ixor hx hb dX11_missing_205 ?_
        refine lv_iand hx hb dX11_missing_206 ?_
        have hin := h.1
        replace h := h.2
        refine va_iast hx hb hK.1 hP hD hS 1 0 rfl rfl hin dX11_missing_207 (fun H locs hP hD hS => ?_)
        have hP : va_P G.1 vwCl [ceX11 h0 a_w a_kept a_laid s_hasImage a_refusals a_row s_rows a_letters s_lettered a_hit a_lead a_defeat a_defeater s_ins s_outs a_order s_ordered a_is a_was s_reading s_isWell a_depths a_ways s_z, caI G a_w 43 (upd g_w (nI 40).toNatClampNeg (v4 &&& (v9 ^^^ ((-1 : Int32))))), caI G a_refusals 7 g_refusals, caI G a_hit 8 g_hit, caI G a_lead 8 g_lead, caI G a_defeat 8 g_defeat, caI G a_defeater 8 g_defeater, caI G a_order 8 g_order] H := hP
        have hD : va_D A [ceX11 h0 a_w a_kept a_laid s_hasImage a_refusals a_row s_rows a_letters s_lettered a_hit a_lead a_defeat a_defeater s_ins s_outs a_order s_ordered a_is a_was s_reading s_isWell a_depths a_ways s_z, caI G a_w 43 (upd g_w (nI 40).toNatClampNeg (v4 &&& (v9 ^^^ ((-1 : Int32))))), caI G a_refusals 7 g_refusals, caI G a_hit 8 g_hit, caI G a_lead 8 g_lead, caI G a_defeat 8 g_defeat, caI G a_defeater 8 g_defeater, caI G a_order 8 g_order] := hD
        refine lv_lload hx hb dX11_missing_208 (lv_at hl 5 rfl) ?_
        refine lv_aload_n hx hb dX11_missing_210 rfl (lv_at hl 0 rfl) ?_
        refine lv_iload_n hx hb dX11_missing_211 rfl (lv_at hl 1 rfl) ?_
        refine hc_ki (wr := [caI G a_refusals 7 g_refusals]) (va_runV (As := [.int x1]) (rest := [.long v5]) ⟨hx, hb, hml, hown, hts⟩ (c_X11_isIn l G h0 a_w a_kept a_laid a_refusals a_row a_letters a_hit a_lead a_defeat a_defeater a_order a_is a_was a_depths a_ways H.size s_hasImage s_rows s_lettered s_ins s_outs s_ordered s_reading s_isWell s_z (upd g_w (nI 40).toNatClampNeg (v4 &&& (v9 ^^^ ((-1 : Int32))))) g_hit g_lead g_defeat g_defeater g_order x1 _ h) (cwV 1 hts gX11_missing_X11_isIn rfl rfl rfl (by decide +kernel) ⟨Nat.le_of_ble_eq_true rfl, Nat.le_of_ble_eq_true rfl⟩) (hc_pV hK hP hD [0, 1, 3, 4, 5, 6, 7] rfl rfl (ci := 9) 0 rfl rfl) rfl rfl hl.1 rfl (lv_room (Nat.le_of_ble_eq_true rfl)) dX11_missing_212 ⟨Nat.le_refl _, Nat.le_refl _⟩) hP hD hS hA [0, 1, 3, 4, 5, 6, 7] [2] rfl rfl rfl (by decide) (fun r212 u H locs h hP hD hS => ?_)
        obtain ⟨g_hit_212, g_lead_212, g_defeat_212, g_defeater_212, s_ins_212, s_outs_212, g_order_212, s_ordered_212⟩ := u
        try dsimp only at h
        have hP : va_P G.1 vwCl [caI G a_refusals 7 g_refusals, ceX11 h0 a_w a_kept a_laid s_hasImage a_refusals a_row s_rows a_letters s_lettered a_hit a_lead a_defeat a_defeater s_ins_212 s_outs_212 a_order s_ordered_212 a_is a_was s_reading s_isWell a_depths a_ways s_z, caI G a_w 43 (upd g_w (nI 40).toNatClampNeg (v4 &&& (v9 ^^^ ((-1 : Int32))))), caI G a_hit 8 g_hit_212, caI G a_lead 8 g_lead_212, caI G a_defeat 8 g_defeat_212, caI G a_defeater 8 g_defeater_212, caI G a_order 8 g_order_212] H := hP
        have hD : va_D A [caI G a_refusals 7 g_refusals, ceX11 h0 a_w a_kept a_laid s_hasImage a_refusals a_row s_rows a_letters s_lettered a_hit a_lead a_defeat a_defeater s_ins_212 s_outs_212 a_order s_ordered_212 a_is a_was s_reading s_isWell a_depths a_ways s_z, caI G a_w 43 (upd g_w (nI 40).toNatClampNeg (v4 &&& (v9 ^^^ ((-1 : Int32))))), caI G a_hit 8 g_hit_212, caI G a_lead 8 g_lead_212, caI G a_defeat 8 g_defeat_212, caI G a_defeater 8 g_defeater_212, caI G a_order 8 g_order_212] := hD
        refine lv_if_eq (tgt := 223) hx hb dX11_missing_215 (by decide) (fun c => ?_) (fun c => ?_)
        · replace h := h.1 c
          refine lv_lconst (v := lN 0) hx hb dX11_missing_223 kl_0 ?_
          refine lv_ladd hx hb dX11_missing_224 ?_
          refine lv_lstore (lv' := [(5, .long (v5 + (lN 0))), (0, .ref h0), (1, .int x1), (2, .int x2), (3, .int x3), (4, .int v4), (7, .long v7), (9, .int v9), (10, .long v10), (12, .int v12)]) hx hb dX11_missing_225 hl (by decide) rfl (fun ls hl => ?_)
          refine lv_iinc (v := v9 + nI 1) (lv' := [(9, .int (v9 + nI 1)), (5, .long (v5 + (lN 0))), (0, .ref h0), (1, .int x1), (2, .int x2), (3, .int x3), (4, .int v4), (7, .long v7), (10, .long v10), (12, .int v12)]) hx hb dX11_missing_227 hl (k := 7) rfl (congrArg (fun q => v9 + q) kc_1) (by decide) rfl (fun ls hl => ?_)
          refine lv_goto (tgt := 131) hx hb dX11_missing_230 (by decide) ?_
          exact hK131 v4 (v5 + (lN 0)) v7 (v9 + nI 1) (upd g_w (nI 40).toNatClampNeg (v4 &&& (v9 ^^^ ((-1 : Int32))))) g_refusals g_hit_212 g_lead_212 g_defeat_212 g_defeater_212 s_ins_212 s_outs_212 g_order_212 s_ordered_212 h _ _ _ (hP.sub [1, 2, 0, 3, 4, 5, 6, 7] rfl) (hD.sub [1, 2, 0, 3, 4, 5, 6, 7] (by decide) rfl) hS (lv_sub hl [2, 3, 4, 5, 6, 1, 7, 0] rfl)
        · replace h := h.2 c
          refine lv_lload hx hb dX11_missing_218 (lv_at hl 8 rfl) ?_
          refine lv_goto (tgt := 224) hx hb dX11_missing_220 (by decide) ?_
          refine lv_ladd hx hb dX11_missing_224 ?_
          refine lv_lstore (lv' := [(5, .long (v5 + v10)), (0, .ref h0), (1, .int x1), (2, .int x2), (3, .int x3), (4, .int v4), (7, .long v7), (9, .int v9), (10, .long v10), (12, .int v12)]) hx hb dX11_missing_225 hl (by decide) rfl (fun ls hl => ?_)
          refine lv_iinc (v := v9 + nI 1) (lv' := [(9, .int (v9 + nI 1)), (5, .long (v5 + v10)), (0, .ref h0), (1, .int x1), (2, .int x2), (3, .int x3), (4, .int v4), (7, .long v7), (10, .long v10), (12, .int v12)]) hx hb dX11_missing_227 hl (k := 7) rfl (congrArg (fun q => v9 + q) kc_1) (by decide) rfl (fun ls hl => ?_)
          refine lv_goto (tgt := 131) hx hb dX11_missing_230 (by decide) ?_
          exact hK131 v4 (v5 + v10) v7 (v9 + nI 1) (upd g_w (nI 40).toNatClampNeg (v4 &&& (v9 ^^^ ((-1 : Int32))))) g_refusals g_hit_212 g_lead_212 g_defeat_212 g_defeater_212 s_ins_212 s_outs_212 g_order_212 s_ordered_212 h _ _ _ (hP.sub [1, 2, 0, 3, 4, 5, 6, 7] rfl) (hD.sub [1, 2, 0, 3, 4, 5, 6, 7] (by decide) rfl) hS (lv_sub hl [2, 3, 4, 5, 6, 1, 7, 0] rfl)
      · replace h := h.2 c
        refine lv_lload hx hb dX11_missing_160 (lv_at hl 8 rfl) ?_
        refine lv_iload hx hb dX11_missing_162 (lv_at hl 4 rfl) ?_
        refine lv_iload hx hb dX11_missing_164 (lv_at hl 7 rfl) ?_
        refine lv_iconst (v := (-1 : Int32)) hx hb dX11_missing_166 kc_m1 ?_
        refine lv_ixor hx hb dX11_missing_167 ?_
        refine lv_iand hx hb dX11_missing_168 ?_
        refine lv_iload hx hb dX11_missing_169 (lv_at hl 9 rfl) ?_
        refine hc_ki (wr := [ceX11 h0 a_w a_kept a_laid s_hasImage a_refusals a_row s_rows a_letters s_lettered a_hit a_lead a_defeat a_defeater s_ins s_outs a_order s_ordered a_is a_was s_reading s_isWell a_depths a_ways s_z, caI G a_w 43 g_w, caI G a_refusals 7 g_refusals, caI G a_hit 8 g_hit, caI G a_lead 8 g_lead, caI G a_defeat 8 g_defeat, caI G a_defeater 8 g_defeater, caI G a_order 8 g_order]) (va_runS (As := [.int (v4 &&& (v9 ^^^ ((-1 : Int32)))), .int v12]) (rest := [.long v10]) ⟨hx, hb, hml, hown, hts⟩ (c_X11_has l G H.size (v4 &&& (v9 ^^^ ((-1 : Int32)))) v12 _ h) (va_cwS 2 hts gX11_missing_X11_has rfl rfl rfl (by decide +kernel) ⟨Nat.le_of_ble_eq_true rfl, Nat.le_of_ble_eq_true rfl⟩) (hc_pS hK hP hD [] rfl rfl) rfl rfl hl.1 rfl (lv_room (Nat.le_of_ble_eq_true rfl)) dX11_missing_171 ⟨Nat.le_refl _, Nat.le_refl _⟩) hP hD hS hA [] [0, 1, 2, 3, 4, 5, 6, 7] rfl rfl rfl (by decide) (fun r171 u H locs h hP hD hS => ?_)
        try dsimp only at h
        have hP : va_P G.1 vwCl [ceX11 h0 a_w a_kept a_laid s_hasImage a_refusals a_row s_rows a_letters s_lettered a_hit a_lead a_defeat a_defeater s_ins s_outs a_order s_ordered a_is a_was s_reading s_isWell a_depths a_ways s_z, caI G a_w 43 g_w, caI G a_refusals 7 g_refusals, caI G a_hit 8 g_hit, caI G a_lead 8 g_lead, caI G a_defeat 8 g_defeat, caI G a_defeater 8 g_defeater, caI G a_order 8 g_order] H := hP
        have hD : va_D A [ceX11 h0 a_w a_kept a_laid s_hasImage a_refusals a_row s_rows a_letters s_lettered a_hit a_lead a_defeat a_defeater s_ins s_outs a_order s_ordered a_is a_was s_reading s_isWell a_depths a_ways s_z, caI G a_w 43 g_w, caI G a_refusals 7 g_refusals, caI G a_hit 8 g_hit, caI G a_lead 8 g_lead, caI G a_defeat 8 g_defeat, caI G a_defeater 8 g_defeater, caI G a_order 8 g_order] := hD
        refine lv_if_eq (tgt := 184) hx hb dX11_missing_174 (by decide) (fun c => ?_) (fun c => ?_)
        · replace h := h.1 c
          refine lv_lconst (v := lN 1) hx hb dX11_missing_184 kl_1 ?_
          refine lv_lmul hx hb dX11_missing_185 ?_
          refine lv_lstore (lv' := [(10, .long (v10 * (lN 1))), (0, .ref h0), (1, .int x1), (2, .int x2), (3, .int x3), (4, .int v4), (5, .long v5), (7, .long v7), (9, .int v9), (12, .int v12)]) hx hb dX11_missing_186 hl (by decide) rfl (fun ls hl => ?_)
          refine lv_iinc (v := v12 + nI 1) (lv' := [(12, .int (v12 + nI 1)), (10, .long (v10 * (lN 1))), (0, .ref h0), (1, .int x1), (2, .int x2), (3, .int x3), (4, .int v4), (5, .long v5), (7, .long v7), (9, .int v9)]) hx hb dX11_missing_188 hl (k := 9) rfl (congrArg (fun q => v12 + q) kc_1) (by decide) rfl (fun ls hl => ?_)
          refine lv_goto (tgt := 154) hx hb dX11_missing_191 (by decide) ?_
          exact ih v4 v5 v7 v9 (v10 * (lN 1)) (v12 + nI 1) g_w g_refusals g_hit g_lead g_defeat g_defeater s_ins s_outs g_order s_ordered h _ _ _ hP hD hS (lv_sub hl [2, 3, 4, 5, 6, 7, 8, 9, 1, 0] rfl)
        · replace h := h.2 c
          refine lv_iload_n hx hb dX11_missing_177 rfl (lv_at hl 2 rfl) ?_
          refine lv_iconst (v := nI 1) hx hb dX11_missing_178 kc_1 ?_
          refine lv_isub hx hb dX11_missing_179 ?_
          refine lv_i2l (v := (x2 - (nI 1)).toInt64) hx hb dX11_missing_180 rfl ?_
          refine lv_goto (tgt := 185) hx hb dX11_missing_181 (by decide) ?_
          refine lv_lmul hx hb dX11_missing_185 ?_
          refine lv_lstore (lv' := [(10, .long (v10 * ((x2 - (nI 1)).toInt64))), (0, .ref h0), (1, .int x1), (2, .int x2), (3, .int x3), (4, .int v4), (5, .long v5), (7, .long v7), (9, .int v9), (12, .int v12)]) hx hb dX11_missing_186 hl (by decide) rfl (fun ls hl => ?_)
          refine lv_iinc (v := v12 + nI 1) (lv' := [(12, .int (v12 + nI 1)), (10, .long (v10 * ((x2 - (nI 1)).toInt64))), (0, .ref h0), (1, .int x1), (2, .int x2), (3, .int x3), (4, .int v4), (5, .long v5), (7, .long v7), (9, .int v9)]) hx hb dX11_missing_188 hl (k := 9) rfl (congrArg (fun q => v12 + q) kc_1) (by decide) rfl (fun ls hl => ?_)
          refine lv_goto (tgt := 154) hx hb dX11_missing_191 (by decide) ?_
          exact ih v4 v5 v7 v9 (v10 * ((x2 - (nI 1)).toInt64)) (v12 + nI 1) g_w g_refusals g_hit g_lead g_defeat g_defeater s_ins s_outs g_order s_ordered h _ _ _ hP hD hS (lv_sub hl [2, 3, 4, 5, 6, 7, 8, 9, 1, 0] rfl)
  have w131 : ∀ (n : Nat) (v4 : Int32) (v5 : Int64) (v7 : Int64) (v9 : Int32) (g_w : Nat → Int32) (g_refusals : Nat → Int32) (g_hit : Nat → Int32) (g_lead : Nat → Int32) (g_defeat : Nat → Int32) (g_defeater : Nat → Int32) (s_ins : Int32) (s_outs : Int32) (g_order : Nat → Int32) (s_ordered : Int32) , wp_X11_missing_131 post x1 x2 x3 n v4 v5 v7 v9 g_w g_refusals g_hit g_lead g_defeat g_defeater s_ins s_outs g_order s_ordered → ∀ (H : Heap) (locs : List Loc) (ls : Array Slot), va_P G.1 vwCl [ceX11 h0 a_w a_kept a_laid s_hasImage a_refusals a_row s_rows a_letters s_lettered a_hit a_lead a_defeat a_defeater s_ins s_outs a_order s_ordered a_is a_was s_reading s_isWell a_depths a_ways s_z, caI G a_w 43 g_w, caI G a_refusals 7 g_refusals, caI G a_hit 8 g_hit, caI G a_lead 8 g_lead, caI G a_defeat 8 g_defeat, caI G a_defeater 8 g_defeater, caI G a_order 8 g_order] H → va_D A [ceX11 h0 a_w a_kept a_laid s_hasImage a_refusals a_row s_rows a_letters s_lettered a_hit a_lead a_defeat a_defeater s_ins s_outs a_order s_ordered a_is a_was s_reading s_isWell a_depths a_ways s_z, caI G a_w 43 g_w, caI G a_refusals 7 g_refusals, caI G a_hit 8 g_hit, caI G a_lead 8 g_lead, caI G a_defeat 8 g_defeat, caI G a_defeater 8 g_defeater, caI G a_order 8 g_order] → va_S A s.heap H locs → lv_has ls 13 [(0, .ref h0), (1, .int x1), (2, .int x2), (3, .int x3), (4, .int v4), (5, .long v5), (7, .long v7), (9, .int v9)] → W p l e (headSpec wsX11_missing ({ frames := 6, cells := 0, slots := 0, locals := 128 })).room s m ([.ref h0, .int x1, .int x2, .int x3] : List Value).toArray below meth c H locs 0 0 (MQ below (va_Ql (fun (r : Int64) (u : (Nat → Int32) × (Nat → Int32) × (Nat → Int32) × (Nat → Int32) × (Nat → Int32) × (Nat → Int32) × Int32 × Int32 × (Nat → Int32) × Int32) => post r u.1 u.2.1 u.2.2.1 u.2.2.2.1 u.2.2.2.2.1 u.2.2.2.2.2.1 u.2.2.2.2.2.2.1 u.2.2.2.2.2.2.2.1 u.2.2.2.2.2.2.2.2.1 u.2.2.2.2.2.2.2.2.2) (hcB G A (fun u : (Nat → Int32) × (Nat → Int32) × (Nat → Int32) × (Nat → Int32) × (Nat → Int32) × (Nat → Int32) × Int32 × Int32 × (Nat → Int32) × Int32 => [ceX11 h0 a_w a_kept a_laid s_hasImage a_refusals a_row s_rows a_letters s_lettered a_hit a_lead a_defeat a_defeater u.2.2.2.2.2.2.1 u.2.2.2.2.2.2.2.1 a_order u.2.2.2.2.2.2.2.2.2 a_is a_was s_reading s_isWell a_depths a_ways s_z, caI G a_w 43 u.1, caI G a_refusals 7 u.2.1, caI G a_hit 8 u.2.2.1, caI G a_lead 8 u.2.2.2.1, caI G a_defeat 8 u.2.2.2.2.1, caI G a_defeater 8 u.2.2.2.2.2.1, caI G a_order 8 u.2.2.2.2.2.2.2.2.1])) A) ([.ref h0, .int x1, .int x2, .int x3] : List Value).toArray s 0 0 A) (F0 m 131 ls []) := by
    intro n
    induction n with
    | zero => intro v4 v5 v7 v9 g_w g_refusals g_hit g_lead g_defeat g_defeater s_ins s_outs g_order s_ordered h; exact h.elim
    | succ n ih =>
      intro v4 v5 v7 v9 g_w g_refusals g_hit g_lead g_defeat g_defeater s_ins s_outs g_order s_ordered h H locs ls hP hD hS hl
      unfold wp_X11_missing_131 at h
      refine lv_iload hx hb dX11_missing_131 (lv_at hl 7 rfl) ?_
      refine lv_bipush (v := nI 32) hx hb dX11_missing_133 kb_32 ?_
      refine lv_icmp_ge (tgt := 233) hx hb dX11_missing_135 (by decide) (fun c => ?_) (fun c => ?_)
      · replace h := h.1 c
        refine lv_aload_n hx hb dX11_missing_233 rfl (lv_at hl 0 rfl) ?_
        refine va_get (D := G.1) (ci := 9) (v := .ref a_w) (C := RX11) (T := TX11) (N := 24) hx hb hts ki_X11 hown hK.1 hP 0 rfl rfl 0 (by decide) kf2 (fun _ h9 => h9) rfl dX11_missing_234 ?_
        refine lv_bipush (v := nI 40) hx hb dX11_missing_237 kb_40 ?_
        refine lv_iload hx hb dX11_missing_239 (lv_at hl 4 rfl) ?_
        have hin := h.1
        replace h := h.2
        refine va_iast hx hb hK.1 hP hD hS 1 0 rfl rfl hin dX11_missing_241 (fun H locs hP hD hS => ?_)
        have hP : va_P G.1 vwCl [ceX11 h0 a_w a_kept a_laid s_hasImage a_refusals a_row s_rows a_letters s_lettered a_hit a_lead a_defeat a_defeater s_ins s_outs a_order s_ordered a_is a_was s_reading s_isWell a_depths a_ways s_z, caI G a_w 43 (upd g_w (nI 40).toNatClampNeg v4), caI G a_refusals 7 g_refusals, caI G a_hit 8 g_hit, caI G a_lead 8 g_lead, caI G a_defeat 8 g_defeat, caI G a_defeater 8 g_defeater, caI G a_order 8 g_order] H := hP
        have hD : va_D A [ceX11 h0 a_w a_kept a_laid s_hasImage a_refusals a_row s_rows a_letters s_lettered a_hit a_lead a_defeat a_defeater s_ins s_outs a_order s_ordered a_is a_was s_reading s_isWell a_depths a_ways s_z, caI G a_w 43 (upd g_w (nI 40).toNatClampNeg v4), caI G a_refusals 7 g_refusals, caI G a_hit 8 g_hit, caI G a_lead 8 g_lead, caI G a_defeat 8 g_defeat, caI G a_defeater 8 g_defeater, caI G a_order 8 g_order] := hD
        refine lv_lload hx hb dX11_missing_242 (lv_at hl 5 rfl) ?_
        refine lv_lload hx hb dX11_missing_244 (lv_at hl 6 rfl) ?_
        refine lv_iload_n hx hb dX11_missing_246 rfl (lv_at hl 3 rfl) ?_
        refine hc_kl (wr := [ceX11 h0 a_w a_kept a_laid s_hasImage a_refusals a_row s_rows a_letters s_lettered a_hit a_lead a_defeat a_defeater s_ins s_outs a_order s_ordered a_is a_was s_reading s_isWell a_depths a_ways s_z, caI G a_w 43 (upd g_w (nI 40).toNatClampNeg v4), caI G a_refusals 7 g_refusals, caI G a_hit 8 g_hit, caI G a_lead 8 g_lead, caI G a_defeat 8 g_defeat, caI G a_defeater 8 g_defeater, caI G a_order 8 g_order]) (va_runS (As := [.long v5, .long v7, .int x3]) (rest := []) ⟨hx, hb, hml, hown, hts⟩ (c_X11_part l G H.size v5 v7 x3 _ h) (va_cwS 3 hts gX11_missing_X11_part rfl rfl rfl (by decide +kernel) ⟨Nat.le_of_ble_eq_true rfl, Nat.le_of_ble_eq_true rfl⟩) (hc_pS hK hP hD [] rfl rfl) rfl rfl hl.1 rfl (lv_room (Nat.le_of_ble_eq_true rfl)) dX11_missing_247 ⟨Nat.le_refl _, Nat.le_refl _⟩) hP hD hS hA [] [0, 1, 2, 3, 4, 5, 6, 7] rfl rfl rfl (by decide) (fun r247 u H locs h hP hD hS => ?_)
        try dsimp only at h
        have hP : va_P G.1 vwCl [ceX11 h0 a_w a_kept a_laid s_hasImage a_refusals a_row s_rows a_letters s_lettered a_hit a_lead a_defeat a_defeater s_ins s_outs a_order s_ordered a_is a_was s_reading s_isWell a_depths a_ways s_z, caI G a_w 43 (upd g_w (nI 40).toNatClampNeg v4), caI G a_refusals 7 g_refusals, caI G a_hit 8 g_hit, caI G a_lead 8 g_lead, caI G a_defeat 8 g_defeat, caI G a_defeater 8 g_defeater, caI G a_order 8 g_order] H := hP
        have hD : va_D A [ceX11 h0 a_w a_kept a_laid s_hasImage a_refusals a_row s_rows a_letters s_lettered a_hit a_lead a_defeat a_defeater s_ins s_outs a_order s_ordered a_is a_was s_reading s_isWell a_depths a_ways s_z, caI G a_w 43 (upd g_w (nI 40).toNatClampNeg v4), caI G a_refusals 7 g_refusals, caI G a_hit 8 g_hit, caI G a_lead 8 g_lead, caI G a_defeat 8 g_defeat, caI G a_defeater 8 g_defeater, caI G a_order 8 g_order] := hD
        exact W.lret (v := r247) hx hb hr (fun t ht hW => ⟨⟨_, ⟨(upd g_w (nI 40).toNatClampNeg v4), g_refusals, g_hit, g_lead, g_defeat, g_defeater, s_ins, s_outs, g_order, s_ordered⟩, rfl, h, ⟨by rw [ht]; exact hP, hD⟩⟩, hS.F ht⟩) hS.2.2 dX11_missing_250
      · replace h := h.2 c
        refine lv_iload hx hb dX11_missing_138 (lv_at hl 7 rfl) ?_
        refine lv_iload hx hb dX11_missing_140 (lv_at hl 4 rfl) ?_
        refine lv_iconst (v := (-1 : Int32)) hx hb dX11_missing_142 kc_m1 ?_
        refine lv_ixor hx hb dX11_missing_143 ?_
        refine lv_iand hx hb dX11_missing_144 ?_
        refine lv_if_ne (tgt := 227) hx hb dX11_missing_145 (by decide) (fun c => ?_) (fun c => ?_)
        · replace h := h.1 c
          refine lv_iinc (v := v9 + nI 1) (lv' := [(9, .int (v9 + nI 1)), (0, .ref h0), (1, .int x1), (2, .int x2), (3, .int x3), (4, .int v4), (5, .long v5), (7, .long v7)]) hx hb dX11_missing_227 hl (k := 7) rfl (congrArg (fun q => v9 + q) kc_1) (by decide) rfl (fun ls hl => ?_)
          refine lv_goto (tgt := 131) hx hb dX11_missing_230 (by decide) ?_
          exact ih v4 v5 v7 (v9 + nI 1) g_w g_refusals g_hit g_lead g_defeat g_defeater s_ins s_outs g_order s_ordered h _ _ _ hP hD hS (lv_sub hl [1, 2, 3, 4, 5, 6, 7, 0] rfl)
        · replace h := h.2 c
          refine lv_lconst (v := lN 1) hx hb dX11_missing_148 kl_1 ?_
          refine lv_lstore (lv' := [(10, .long (lN 1)), (0, .ref h0), (1, .int x1), (2, .int x2), (3, .int x3), (4, .int v4), (5, .long v5), (7, .long v7), (9, .int v9)]) hx hb dX11_missing_149 hl (by decide) rfl (fun ls hl => ?_)
          refine lv_iconst (v := nI 0) hx hb dX11_missing_151 kc_0 ?_
          refine lv_istore (lv' := [(12, .int (nI 0)), (10, .long (lN 1)), (0, .ref h0), (1, .int x1), (2, .int x2), (3, .int x3), (4, .int v4), (5, .long v5), (7, .long v7), (9, .int v9)]) hx hb dX11_missing_152 hl (by decide) rfl (fun ls hl => ?_)
          obtain ⟨n154, h⟩ := h
          exact w154 ((wp_X11_missing_131 post x1 x2 x3 n)) ih n154 v4 v5 v7 v9 (lN 1) (nI 0) g_w g_refusals g_hit g_lead g_defeat g_defeater s_ins s_outs g_order s_ordered h _ _ _ hP hD hS (lv_sub hl [2, 3, 4, 5, 6, 7, 8, 9, 1, 0] rfl)
  have w95 : ∀ (n : Nat) (v4 : Int32) (v5 : Int64) (v7 : Int64) (v9 : Int32) (g_w : Nat → Int32) (g_refusals : Nat → Int32) (g_hit : Nat → Int32) (g_lead : Nat → Int32) (g_defeat : Nat → Int32) (g_defeater : Nat → Int32) (s_ins : Int32) (s_outs : Int32) (g_order : Nat → Int32) (s_ordered : Int32) , wp_X11_missing_95 post x1 x2 x3 n v4 v5 v7 v9 g_w g_refusals g_hit g_lead g_defeat g_defeater s_ins s_outs g_order s_ordered → ∀ (H : Heap) (locs : List Loc) (ls : Array Slot), va_P G.1 vwCl [ceX11 h0 a_w a_kept a_laid s_hasImage a_refusals a_row s_rows a_letters s_lettered a_hit a_lead a_defeat a_defeater s_ins s_outs a_order s_ordered a_is a_was s_reading s_isWell a_depths a_ways s_z, caI G a_w 43 g_w, caI G a_refusals 7 g_refusals, caI G a_hit 8 g_hit, caI G a_lead 8 g_lead, caI G a_defeat 8 g_defeat, caI G a_defeater 8 g_defeater, caI G a_order 8 g_order] H → va_D A [ceX11 h0 a_w a_kept a_laid s_hasImage a_refusals a_row s_rows a_letters s_lettered a_hit a_lead a_defeat a_defeater s_ins s_outs a_order s_ordered a_is a_was s_reading s_isWell a_depths a_ways s_z, caI G a_w 43 g_w, caI G a_refusals 7 g_refusals, caI G a_hit 8 g_hit, caI G a_lead 8 g_lead, caI G a_defeat 8 g_defeat, caI G a_defeater 8 g_defeater, caI G a_order 8 g_order] → va_S A s.heap H locs → lv_has ls 13 [(0, .ref h0), (1, .int x1), (2, .int x2), (3, .int x3), (4, .int v4), (5, .long v5), (7, .long v7), (9, .int v9)] → W p l e (headSpec wsX11_missing ({ frames := 6, cells := 0, slots := 0, locals := 128 })).room s m ([.ref h0, .int x1, .int x2, .int x3] : List Value).toArray below meth c H locs 0 0 (MQ below (va_Ql (fun (r : Int64) (u : (Nat → Int32) × (Nat → Int32) × (Nat → Int32) × (Nat → Int32) × (Nat → Int32) × (Nat → Int32) × Int32 × Int32 × (Nat → Int32) × Int32) => post r u.1 u.2.1 u.2.2.1 u.2.2.2.1 u.2.2.2.2.1 u.2.2.2.2.2.1 u.2.2.2.2.2.2.1 u.2.2.2.2.2.2.2.1 u.2.2.2.2.2.2.2.2.1 u.2.2.2.2.2.2.2.2.2) (hcB G A (fun u : (Nat → Int32) × (Nat → Int32) × (Nat → Int32) × (Nat → Int32) × (Nat → Int32) × (Nat → Int32) × Int32 × Int32 × (Nat → Int32) × Int32 => [ceX11 h0 a_w a_kept a_laid s_hasImage a_refusals a_row s_rows a_letters s_lettered a_hit a_lead a_defeat a_defeater u.2.2.2.2.2.2.1 u.2.2.2.2.2.2.2.1 a_order u.2.2.2.2.2.2.2.2.2 a_is a_was s_reading s_isWell a_depths a_ways s_z, caI G a_w 43 u.1, caI G a_refusals 7 u.2.1, caI G a_hit 8 u.2.2.1, caI G a_lead 8 u.2.2.2.1, caI G a_defeat 8 u.2.2.2.2.1, caI G a_defeater 8 u.2.2.2.2.2.1, caI G a_order 8 u.2.2.2.2.2.2.2.2.1])) A) ([.ref h0, .int x1, .int x2, .int x3] : List Value).toArray s 0 0 A) (F0 m 95 ls []) := by
    intro n
    induction n with
    | zero => intro v4 v5 v7 v9 g_w g_refusals g_hit g_lead g_defeat g_defeater s_ins s_outs g_order s_ordered h; exact h.elim
    | succ n ih =>
      intro v4 v5 v7 v9 g_w g_refusals g_hit g_lead g_defeat g_defeater s_ins s_outs g_order s_ordered h H locs ls hP hD hS hl
      unfold wp_X11_missing_95 at h
      refine lv_iload hx hb dX11_missing_95 (lv_at hl 7 rfl) ?_
      refine lv_iconst (v := nI 5) hx hb dX11_missing_97 kc_5 ?_
      refine lv_icmp_ge (tgt := 128) hx hb dX11_missing_98 (by decide) (fun c => ?_) (fun c => ?_)
      · replace h := h.1 c
        refine lv_iconst (v := nI 0) hx hb dX11_missing_128 kc_0 ?_
        refine lv_istore (lv' := [(9, .int (nI 0)), (0, .ref h0), (1, .int x1), (2, .int x2), (3, .int x3), (4, .int v4), (5, .long v5), (7, .long v7)]) hx hb dX11_missing_129 hl (by decide) rfl (fun ls hl => ?_)
        obtain ⟨n131, h⟩ := h
        exact w131  n131 v4 v5 v7 (nI 0) g_w g_refusals g_hit g_lead g_defeat g_defeater s_ins s_outs g_order s_ordered h _ _ _ hP hD hS (lv_sub hl [1, 2, 3, 4, 5, 6, 7, 0] rfl)
      · replace h := h.2 c
        refine lv_lload hx hb dX11_missing_101 (lv_at hl 6 rfl) ?_
        refine lv_iload hx hb dX11_missing_103 (lv_at hl 4 rfl) ?_
        refine lv_iload hx hb dX11_missing_105 (lv_at hl 7 rfl) ?_
        refine hc_ki (wr := [ceX11 h0 a_w a_kept a_laid s_hasImage a_refusals a_row s_rows a_letters s_lettered a_hit a_lead a_defeat a_defeater s_ins s_outs a_order s_ordered a_is a_was s_reading s_isWell a_depths a_ways s_z, caI G a_w 43 g_w, caI G a_refusals 7 g_refusals, caI G a_hit 8 g_hit, caI G a_lead 8 g_lead, caI G a_defeat 8 g_defeat, caI G a_defeater 8 g_defeater, caI G a_order 8 g_order]) (va_runS (As := [.int v4, .int v9]) (rest := [.long v7]) ⟨hx, hb, hml, hown, hts⟩ (c_X11_has l G H.size v4 v9 _ h) (va_cwS 2 hts gX11_missing_X11_has rfl rfl rfl (by decide +kernel) ⟨Nat.le_of_ble_eq_true rfl, Nat.le_of_ble_eq_true rfl⟩) (hc_pS hK hP hD [] rfl rfl) rfl rfl hl.1 rfl (lv_room (Nat.le_of_ble_eq_true rfl)) dX11_missing_107 ⟨Nat.le_refl _, Nat.le_refl _⟩) hP hD hS hA [] [0, 1, 2, 3, 4, 5, 6, 7] rfl rfl rfl (by decide) (fun r107 u H locs h hP hD hS => ?_)
        try dsimp only at h
        have hP : va_P G.1 vwCl [ceX11 h0 a_w a_kept a_laid s_hasImage a_refusals a_row s_rows a_letters s_lettered a_hit a_lead a_defeat a_defeater s_ins s_outs a_order s_ordered a_is a_was s_reading s_isWell a_depths a_ways s_z, caI G a_w 43 g_w, caI G a_refusals 7 g_refusals, caI G a_hit 8 g_hit, caI G a_lead 8 g_lead, caI G a_defeat 8 g_defeat, caI G a_defeater 8 g_defeater, caI G a_order 8 g_order] H := hP
        have hD : va_D A [ceX11 h0 a_w a_kept a_laid s_hasImage a_refusals a_row s_rows a_letters s_lettered a_hit a_lead a_defeat a_defeater s_ins s_outs a_order s_ordered a_is a_was s_reading s_isWell a_depths a_ways s_z, caI G a_w 43 g_w, caI G a_refusals 7 g_refusals, caI G a_hit 8 g_hit, caI G a_lead 8 g_lead, caI G a_defeat 8 g_defeat, caI G a_defeater 8 g_defeater, caI G a_order 8 g_order] := hD
        refine lv_if_eq (tgt := 118) hx hb dX11_missing_110 (by decide) (fun c => ?_) (fun c => ?_)
        · replace h := h.1 c
          refine lv_lconst (v := lN 1) hx hb dX11_missing_118 kl_1 ?_
          refine lv_lmul hx hb dX11_missing_119 ?_
          refine lv_lstore (lv' := [(7, .long (v7 * (lN 1))), (0, .ref h0), (1, .int x1), (2, .int x2), (3, .int x3), (4, .int v4), (5, .long v5), (9, .int v9)]) hx hb dX11_missing_120 hl (by decide) rfl (fun ls hl => ?_)
          refine lv_iinc (v := v9 + nI 1) (lv' := [(9, .int (v9 + nI 1)), (7, .long (v7 * (lN 1))), (0, .ref h0), (1, .int x1), (2, .int x2), (3, .int x3), (4, .int v4), (5, .long v5)]) hx hb dX11_missing_122 hl (k := 7) rfl (congrArg (fun q => v9 + q) kc_1) (by decide) rfl (fun ls hl => ?_)
          refine lv_goto (tgt := 95) hx hb dX11_missing_125 (by decide) ?_
          exact ih v4 v5 (v7 * (lN 1)) (v9 + nI 1) g_w g_refusals g_hit g_lead g_defeat g_defeater s_ins s_outs g_order s_ordered h _ _ _ hP hD hS (lv_sub hl [2, 3, 4, 5, 6, 7, 1, 0] rfl)
        · replace h := h.2 c
          refine lv_iload_n hx hb dX11_missing_113 rfl (lv_at hl 2 rfl) ?_
          refine lv_i2l (v := x2.toInt64) hx hb dX11_missing_114 rfl ?_
          refine lv_goto (tgt := 119) hx hb dX11_missing_115 (by decide) ?_
          refine lv_lmul hx hb dX11_missing_119 ?_
          refine lv_lstore (lv' := [(7, .long (v7 * x2.toInt64)), (0, .ref h0), (1, .int x1), (2, .int x2), (3, .int x3), (4, .int v4), (5, .long v5), (9, .int v9)]) hx hb dX11_missing_120 hl (by decide) rfl (fun ls hl => ?_)
          refine lv_iinc (v := v9 + nI 1) (lv' := [(9, .int (v9 + nI 1)), (7, .long (v7 * x2.toInt64)), (0, .ref h0), (1, .int x1), (2, .int x2), (3, .int x3), (4, .int v4), (5, .long v5)]) hx hb dX11_missing_122 hl (k := 7) rfl (congrArg (fun q => v9 + q) kc_1) (by decide) rfl (fun ls hl => ?_)
          refine lv_goto (tgt := 95) hx hb dX11_missing_125 (by decide) ?_
          exact ih v4 v5 (v7 * x2.toInt64) (v9 + nI 1) g_w g_refusals g_hit g_lead g_defeat g_defeater s_ins s_outs g_order s_ordered h _ _ _ hP hD hS (lv_sub hl [2, 3, 4, 5, 6, 7, 1, 0] rfl)
  unfold wp_X11_missing at h
  refine lv_aload_n hx hb dX11_missing_0 rfl (lv_at hl 0 rfl) ?_
  refine lv_iload_n hx hb dX11_missing_1 rfl (lv_at hl 1 rfl) ?_
  refine hc_ki (wr := [caI G a_refusals 7 g_refusals, caI G a_hit 8 g_hit, caI G a_lead 8 g_lead, caI G a_defeat 8 g_defeat, caI G a_defeater 8 g_defeater, caI G a_order 8 g_order]) (va_runV (As := [.int x1]) (rest := []) ⟨hx, hb, hml, hown, hts⟩ (c_X11_isClaim l G h0 a_w a_kept a_laid a_refusals a_row a_letters a_hit a_lead a_defeat a_defeater a_order a_is a_was a_depths a_ways s.heap.size s_hasImage s_rows s_lettered s_ins s_outs s_ordered s_reading s_isWell s_z g_w x1 _ h) (cwV 1 hts gX11_missing_X11_isClaim rfl rfl rfl (by decide +kernel) ⟨Nat.le_of_ble_eq_true rfl, Nat.le_of_ble_eq_true rfl⟩) (hc_pV hK hP hD [0, 1] rfl rfl (ci := 9) 0 rfl rfl) rfl rfl hl.1 rfl (lv_room (Nat.le_of_ble_eq_true rfl)) dX11_missing_2 ⟨Nat.le_refl _, Nat.le_refl _⟩) hP hD hS hA [0, 1] [2, 3, 4, 5, 6, 7] rfl rfl rfl (by decide) (fun r2 u H locs h hP hD hS => ?_)
  try dsimp only at h
  have hP : va_P G.1 vwCl [caI G a_refusals 7 g_refusals, caI G a_hit 8 g_hit, caI G a_lead 8 g_lead, caI G a_defeat 8 g_defeat, caI G a_defeater 8 g_defeater, caI G a_order 8 g_order, ceX11 h0 a_w a_kept a_laid s_hasImage a_refusals a_row s_rows a_letters s_lettered a_hit a_lead a_defeat a_defeater s_ins s_outs a_order s_ordered a_is a_was s_reading s_isWell a_depths a_ways s_z, caI G a_w 43 g_w] H := hP
  have hD : va_D A [caI G a_refusals 7 g_refusals, caI G a_hit 8 g_hit, caI G a_lead 8 g_lead, caI G a_defeat 8 g_defeat, caI G a_defeater 8 g_defeater, caI G a_order 8 g_order, ceX11 h0 a_w a_kept a_laid s_hasImage a_refusals a_row s_rows a_letters s_lettered a_hit a_lead a_defeat a_defeater s_ins s_outs a_order s_ordered a_is a_was s_reading s_isWell a_depths a_ways s_z, caI G a_w 43 g_w] := hD
  refine lv_if_ne (tgt := 19) hx hb dX11_missing_5 (by decide) (fun c => ?_) (fun c => ?_)
  · replace h := h.1 c
    refine lv_iload_n hx hb dX11_missing_19 rfl (lv_at hl 2 rfl) ?_
    refine lv_i2l (v := x2.toInt64) hx hb dX11_missing_20 rfl ?_
    refine lv_ldc2 (own := RX11) (v := 2) hx hb hown kf0 dX11_missing_21 ?_
    refine lv_ldc2 (own := RX11) (v := 20) hx hb hown kf1 dX11_missing_24 ?_
    refine hc_ki (wr := [caI G a_refusals 7 g_refusals, caI G a_hit 8 g_hit, caI G a_lead 8 g_lead, caI G a_defeat 8 g_defeat, caI G a_defeater 8 g_defeater, caI G a_order 8 g_order, ceX11 h0 a_w a_kept a_laid s_hasImage a_refusals a_row s_rows a_letters s_lettered a_hit a_lead a_defeat a_defeater s_ins s_outs a_order s_ordered a_is a_was s_reading s_isWell a_depths a_ways s_z, caI G a_w 43 g_w]) (va_runS (As := [.long x2.toInt64, .long ((2 : Int64)), .long ((20 : Int64))]) (rest := []) ⟨hx, hb, hml, hown, hts⟩ (c_X11_in l G H.size x2.toInt64 ((2 : Int64)) ((20 : Int64)) _ h) (va_cwS 3 hts gX11_missing_X11_in rfl rfl rfl (by decide +kernel) ⟨Nat.le_of_ble_eq_true rfl, Nat.le_of_ble_eq_true rfl⟩) (hc_pS hK hP hD [] rfl rfl) rfl rfl hl.1 rfl (lv_room (Nat.le_of_ble_eq_true rfl)) dX11_missing_27 ⟨Nat.le_refl _, Nat.le_refl _⟩) hP hD hS hA [] [0, 1, 2, 3, 4, 5, 6, 7] rfl rfl rfl (by decide) (fun r27 u H locs h hP hD hS => ?_)
    try dsimp only at h
    have hP : va_P G.1 vwCl [caI G a_refusals 7 g_refusals, caI G a_hit 8 g_hit, caI G a_lead 8 g_lead, caI G a_defeat 8 g_defeat, caI G a_defeater 8 g_defeater, caI G a_order 8 g_order, ceX11 h0 a_w a_kept a_laid s_hasImage a_refusals a_row s_rows a_letters s_lettered a_hit a_lead a_defeat a_defeater s_ins s_outs a_order s_ordered a_is a_was s_reading s_isWell a_depths a_ways s_z, caI G a_w 43 g_w] H := hP
    have hD : va_D A [caI G a_refusals 7 g_refusals, caI G a_hit 8 g_hit, caI G a_lead 8 g_lead, caI G a_defeat 8 g_defeat, caI G a_defeater 8 g_defeater, caI G a_order 8 g_order, ceX11 h0 a_w a_kept a_laid s_hasImage a_refusals a_row s_rows a_letters s_lettered a_hit a_lead a_defeat a_defeater s_ins s_outs a_order s_ordered a_is a_was s_reading s_isWell a_depths a_ways s_z, caI G a_w 43 g_w] := hD
    refine lv_if_ne (tgt := 55) hx hb dX11_missing_30 (by decide) (fun c => ?_) (fun c => ?_)
    · replace h := h.1 c
      refine lv_iload_n hx hb dX11_missing_55 rfl (lv_at hl 3 rfl) ?_
      refine lv_i2l (v := x3.toInt64) hx hb dX11_missing_56 rfl ?_
      refine lv_lconst (v := lN 0) hx hb dX11_missing_57 kl_0 ?_
      refine lv_lconst (v := lN 1) hx hb dX11_missing_58 kl_1 ?_
      refine hc_ki (wr := [caI G a_refusals 7 g_refusals, caI G a_hit 8 g_hit, caI G a_lead 8 g_lead, caI G a_defeat 8 g_defeat, caI G a_defeater 8 g_defeater, caI G a_order 8 g_order, ceX11 h0 a_w a_kept a_laid s_hasImage a_refusals a_row s_rows a_letters s_lettered a_hit a_lead a_defeat a_defeater s_ins s_outs a_order s_ordered a_is a_was s_reading s_isWell a_depths a_ways s_z, caI G a_w 43 g_w]) (va_runS (As := [.long x3.toInt64, .long (lN 0), .long (lN 1)]) (rest := []) ⟨hx, hb, hml, hown, hts⟩ (c_X11_in l G H.size x3.toInt64 (lN 0) (lN 1) _ h) (va_cwS 3 hts gX11_missing_X11_in rfl rfl rfl (by decide +kernel) ⟨Nat.le_of_ble_eq_true rfl, Nat.le_of_ble_eq_true rfl⟩) (hc_pS hK hP hD [] rfl rfl) rfl rfl hl.1 rfl (lv_room (Nat.le_of_ble_eq_true rfl)) dX11_missing_59 ⟨Nat.le_refl _, Nat.le_refl _⟩) hP hD hS hA [] [0, 1, 2, 3, 4, 5, 6, 7] rfl rfl rfl (by decide) (fun r59 u H locs h hP hD hS => ?_)
      try dsimp only at h
      have hP : va_P G.1 vwCl [caI G a_refusals 7 g_refusals, caI G a_hit 8 g_hit, caI G a_lead 8 g_lead, caI G a_defeat 8 g_defeat, caI G a_defeater 8 g_defeater, caI G a_order 8 g_order, ceX11 h0 a_w a_kept a_laid s_hasImage a_refusals a_row s_rows a_letters s_lettered a_hit a_lead a_defeat a_defeater s_ins s_outs a_order s_ordered a_is a_was s_reading s_isWell a_depths a_ways s_z, caI G a_w 43 g_w] H := hP
      have hD : va_D A [caI G a_refusals 7 g_refusals, caI G a_hit 8 g_hit, caI G a_lead 8 g_lead, caI G a_defeat 8 g_defeat, caI G a_defeater 8 g_defeater, caI G a_order 8 g_order, ceX11 h0 a_w a_kept a_laid s_hasImage a_refusals a_row s_rows a_letters s_lettered a_hit a_lead a_defeat a_defeater s_ins s_outs a_order s_ordered a_is a_was s_reading s_isWell a_depths a_ways s_z, caI G a_w 43 g_w] := hD
      refine lv_if_ne (tgt := 77) hx hb dX11_missing_62 (by decide) (fun c => ?_) (fun c => ?_)
      · replace h := h.1 c
        refine lv_aload_n hx hb dX11_missing_77 rfl (lv_at hl 0 rfl) ?_
        refine va_get (D := G.1) (ci := 9) (v := .ref a_w) (C := RX11) (T := TX11) (N := 24) hx hb hts ki_X11 hown hK.1 hP 6 rfl rfl 0 (by decide) kf2 (fun _ h9 => h9) rfl dX11_missing_78 ?_
        refine lv_bipush (v := nI 40) hx hb dX11_missing_81 kb_40 ?_
        have hin := h.1
        replace h := h.2
        refine va_iald hx hb hK.1 hP 7 0 rfl rfl hin dX11_missing_83 ?_
        refine lv_istore (lv' := [(4, .int (g_w (nI 40).toNatClampNeg)), (0, .ref h0), (1, .int x1), (2, .int x2), (3, .int x3)]) hx hb dX11_missing_84 hl (by decide) rfl (fun ls hl => ?_)
        refine lv_lconst (v := lN 0) hx hb dX11_missing_86 kl_0 ?_
        refine lv_lstore (lv' := [(5, .long (lN 0)), (4, .int (g_w (nI 40).toNatClampNeg)), (0, .ref h0), (1, .int x1), (2, .int x2), (3, .int x3)]) hx hb dX11_missing_87 hl (by decide) rfl (fun ls hl => ?_)
        refine lv_lconst (v := lN 1) hx hb dX11_missing_89 kl_1 ?_
        refine lv_lstore (lv' := [(7, .long (lN 1)), (5, .long (lN 0)), (4, .int (g_w (nI 40).toNatClampNeg)), (0, .ref h0), (1, .int x1), (2, .int x2), (3, .int x3)]) hx hb dX11_missing_90 hl (by decide) rfl (fun ls hl => ?_)
        refine lv_iconst (v := nI 0) hx hb dX11_missing_92 kc_0 ?_
        refine lv_istore (lv' := [(9, .int (nI 0)), (7, .long (lN 1)), (5, .long (lN 0)), (4, .int (g_w (nI 40).toNatClampNeg)), (0, .ref h0), (1, .int x1), (2, .int x2), (3, .int x3)]) hx hb dX11_missing_93 hl (by decide) rfl (fun ls hl => ?_)
        obtain ⟨n95, h⟩ := h
        exact w95  n95 (g_w (nI 40).toNatClampNeg) (lN 0) (lN 1) (nI 0) g_w g_refusals g_hit g_lead g_defeat g_defeater s_ins s_outs g_order s_ordered h _ _ _ (hP.sub [6, 7, 0, 1, 2, 3, 4, 5] rfl) (hD.sub [6, 7, 0, 1, 2, 3, 4, 5] (by decide) rfl) hS (lv_sub hl [4, 5, 6, 7, 3, 2, 1, 0] rfl)
      · replace h := h.2 c
        refine lv_ldc2 (own := RX11) (v := 4000000000000000000) hx hb hown kf3 dX11_missing_65 ?_
        refine lv_aload_n hx hb dX11_missing_68 rfl (lv_at hl 0 rfl) ?_
        refine lv_bipush (v := (-2 : Int32)) hx hb dX11_missing_69 kb_m2 ?_
        refine hc_ki (wr := [caI G a_hit 8 g_hit, caI G a_lead 8 g_lead, caI G a_defeat 8 g_defeat, caI G a_defeater 8 g_defeater, caI G a_order 8 g_order, caI G a_w 43 g_w]) (va_runV (As := [.int ((-2 : Int32))]) (rest := [.long ((4000000000000000000 : Int64))]) ⟨hx, hb, hml, hown, hts⟩ (c_X11_refused l G h0 a_w a_kept a_laid a_refusals a_row a_letters a_hit a_lead a_defeat a_defeater a_order a_is a_was a_depths a_ways H.size s_hasImage s_rows s_lettered s_ins s_outs s_ordered s_reading s_isWell s_z g_refusals ((-2 : Int32)) _ h) (cwV 1 hts gX11_missing_X11_refused rfl rfl rfl (by decide +kernel) ⟨Nat.le_of_ble_eq_true rfl, Nat.le_of_ble_eq_true rfl⟩) (hc_pV hK hP hD [6, 0] rfl rfl (ci := 9) 6 rfl rfl) rfl rfl hl.1 rfl (lv_room (Nat.le_of_ble_eq_true rfl)) dX11_missing_71 ⟨Nat.le_refl _, Nat.le_refl _⟩) hP hD hS hA [6, 0] [1, 2, 3, 4, 5, 7] rfl rfl rfl (by decide) (fun r71 u H locs h hP hD hS => ?_)
        obtain ⟨g_refusals_71, rfl⟩ : ∃ z, z = u := ⟨_, rfl⟩
        try dsimp only at h
        have hP : va_P G.1 vwCl [caI G a_hit 8 g_hit, caI G a_lead 8 g_lead, caI G a_defeat 8 g_defeat, caI G a_defeater 8 g_defeater, caI G a_order 8 g_order, caI G a_w 43 g_w, ceX11 h0 a_w a_kept a_laid s_hasImage a_refusals a_row s_rows a_letters s_lettered a_hit a_lead a_defeat a_defeater s_ins s_outs a_order s_ordered a_is a_was s_reading s_isWell a_depths a_ways s_z, caI G a_refusals 7 g_refusals_71] H := hP
        have hD : va_D A [caI G a_hit 8 g_hit, caI G a_lead 8 g_lead, caI G a_defeat 8 g_defeat, caI G a_defeater 8 g_defeater, caI G a_order 8 g_order, caI G a_w 43 g_w, ceX11 h0 a_w a_kept a_laid s_hasImage a_refusals a_row s_rows a_letters s_lettered a_hit a_lead a_defeat a_defeater s_ins s_outs a_order s_ordered a_is a_was s_reading s_isWell a_depths a_ways s_z, caI G a_refusals 7 g_refusals_71] := hD
        refine lv_i2l (v := r71.toInt64) hx hb dX11_missing_74 rfl ?_
        refine lv_lsub hx hb dX11_missing_75 ?_
        exact W.lret (v := ((4000000000000000000 : Int64)) - r71.toInt64) hx hb hr (fun t ht hW => ⟨⟨_, ⟨g_w, g_refusals_71, g_hit, g_lead, g_defeat, g_defeater, s_ins, s_outs, g_order, s_ordered⟩, rfl, h, ⟨by rw [ht]; exact (hP.sub [6, 5, 7, 0, 1, 2, 3, 4] rfl), (hD.sub [6, 5, 7, 0, 1, 2, 3, 4] (by decide) rfl)⟩⟩, hS.F ht⟩) hS.2.2 dX11_missing_76
    · replace h := h.2 c
      refine lv_ldc2 (own := RX11) (v := 4000000000000000000) hx hb hown kf3 dX11_missing_33 ?_
      refine lv_aload_n hx hb dX11_missing_36 rfl (lv_at hl 0 rfl) ?_
      refine lv_iload_n hx hb dX11_missing_37 rfl (lv_at hl 2 rfl) ?_
      refine lv_iconst (v := nI 2) hx hb dX11_missing_38 kc_2 ?_
      refine lv_icmp_ge (tgt := 47) hx hb dX11_missing_39 (by decide) (fun c => ?_) (fun c => ?_)
      · replace h := h.1 c
        refine lv_bipush (v := (-6 : Int32)) hx hb dX11_missing_47 kb_m6 ?_
        refine hc_ki (wr := [caI G a_hit 8 g_hit, caI G a_lead 8 g_lead, caI G a_defeat 8 g_defeat, caI G a_defeater 8 g_defeater, caI G a_order 8 g_order, caI G a_w 43 g_w]) (va_runV (As := [.int ((-6 : Int32))]) (rest := [.long ((4000000000000000000 : Int64))]) ⟨hx, hb, hml, hown, hts⟩ (c_X11_refused l G h0 a_w a_kept a_laid a_refusals a_row a_letters a_hit a_lead a_defeat a_defeater a_order a_is a_was a_depths a_ways H.size s_hasImage s_rows s_lettered s_ins s_outs s_ordered s_reading s_isWell s_z g_refusals ((-6 : Int32)) _ h) (cwV 1 hts gX11_missing_X11_refused rfl rfl rfl (by decide +kernel) ⟨Nat.le_of_ble_eq_true rfl, Nat.le_of_ble_eq_true rfl⟩) (hc_pV hK hP hD [6, 0] rfl rfl (ci := 9) 6 rfl rfl) rfl rfl hl.1 rfl (lv_room (Nat.le_of_ble_eq_true rfl)) dX11_missing_49 ⟨Nat.le_refl _, Nat.le_refl _⟩) hP hD hS hA [6, 0] [1, 2, 3, 4, 5, 7] rfl rfl rfl (by decide) (fun r49 u H locs h hP hD hS => ?_)
        obtain ⟨g_refusals_49, rfl⟩ : ∃ z, z = u := ⟨_, rfl⟩
        try dsimp only at h
        have hP : va_P G.1 vwCl [caI G a_hit 8 g_hit, caI G a_lead 8 g_lead, caI G a_defeat 8 g_defeat, caI G a_defeater 8 g_defeater, caI G a_order 8 g_order, caI G a_w 43 g_w, ceX11 h0 a_w a_kept a_laid s_hasImage a_refusals a_row s_rows a_letters s_lettered a_hit a_lead a_defeat a_defeater s_ins s_outs a_order s_ordered a_is a_was s_reading s_isWell a_depths a_ways s_z, caI G a_refusals 7 g_refusals_49] H := hP
        have hD : va_D A [caI G a_hit 8 g_hit, caI G a_lead 8 g_lead, caI G a_defeat 8 g_defeat, caI G a_defeater 8 g_defeater, caI G a_order 8 g_order, caI G a_w 43 g_w, ceX11 h0 a_w a_kept a_laid s_hasImage a_refusals a_row s_rows a_letters s_lettered a_hit a_lead a_defeat a_defeater s_ins s_outs a_order s_ordered a_is a_was s_reading s_isWell a_depths a_ways s_z, caI G a_refusals 7 g_refusals_49] := hD
        refine lv_i2l (v := r49.toInt64) hx hb dX11_missing_52 rfl ?_
        refine lv_lsub hx hb dX11_missing_53 ?_
        exact W.lret (v := ((4000000000000000000 : Int64)) - r49.toInt64) hx hb hr (fun t ht hW => ⟨⟨_, ⟨g_w, g_refusals_49, g_hit, g_lead, g_defeat, g_defeater, s_ins, s_outs, g_order, s_ordered⟩, rfl, h, ⟨by rw [ht]; exact (hP.sub [6, 5, 7, 0, 1, 2, 3, 4] rfl), (hD.sub [6, 5, 7, 0, 1, 2, 3, 4] (by decide) rfl)⟩⟩, hS.F ht⟩) hS.2.2 dX11_missing_54
      · replace h := h.2 c
        refine lv_bipush (v := (-4 : Int32)) hx hb dX11_missing_42 kb_m4 ?_
        refine lv_goto (tgt := 49) hx hb dX11_missing_44 (by decide) ?_
        refine hc_ki (wr := [caI G a_hit 8 g_hit, caI G a_lead 8 g_lead, caI G a_defeat 8 g_defeat, caI G a_defeater 8 g_defeater, caI G a_order 8 g_order, caI G a_w 43 g_w]) (va_runV (As := [.int ((-4 : Int32))]) (rest := [.long ((4000000000000000000 : Int64))]) ⟨hx, hb, hml, hown, hts⟩ (c_X11_refused l G h0 a_w a_kept a_laid a_refusals a_row a_letters a_hit a_lead a_defeat a_defeater a_order a_is a_was a_depths a_ways H.size s_hasImage s_rows s_lettered s_ins s_outs s_ordered s_reading s_isWell s_z g_refusals ((-4 : Int32)) _ h) (cwV 1 hts gX11_missing_X11_refused rfl rfl rfl (by decide +kernel) ⟨Nat.le_of_ble_eq_true rfl, Nat.le_of_ble_eq_true rfl⟩) (hc_pV hK hP hD [6, 0] rfl rfl (ci := 9) 6 rfl rfl) rfl rfl hl.1 rfl (lv_room (Nat.le_of_ble_eq_true rfl)) dX11_missing_49 ⟨Nat.le_refl _, Nat.le_refl _⟩) hP hD hS hA [6, 0] [1, 2, 3, 4, 5, 7] rfl rfl rfl (by decide) (fun r49 u H locs h hP hD hS => ?_)
        obtain ⟨g_refusals_49, rfl⟩ : ∃ z, z = u := ⟨_, rfl⟩
        try dsimp only at h
        have hP : va_P G.1 vwCl [caI G a_hit 8 g_hit, caI G a_lead 8 g_lead, caI G a_defeat 8 g_defeat, caI G a_defeater 8 g_defeater, caI G a_order 8 g_order, caI G a_w 43 g_w, ceX11 h0 a_w a_kept a_laid s_hasImage a_refusals a_row s_rows a_letters s_lettered a_hit a_lead a_defeat a_defeater s_ins s_outs a_order s_ordered a_is a_was s_reading s_isWell a_depths a_ways s_z, caI G a_refusals 7 g_refusals_49] H := hP
        have hD : va_D A [caI G a_hit 8 g_hit, caI G a_lead 8 g_lead, caI G a_defeat 8 g_defeat, caI G a_defeater 8 g_defeater, caI G a_order 8 g_order, caI G a_w 43 g_w, ceX11 h0 a_w a_kept a_laid s_hasImage a_refusals a_row s_rows a_letters s_lettered a_hit a_lead a_defeat a_defeater s_ins s_outs a_order s_ordered a_is a_was s_reading s_isWell a_depths a_ways s_z, caI G a_refusals 7 g_refusals_49] := hD
        refine lv_i2l (v := r49.toInt64) hx hb dX11_missing_52 rfl ?_
        refine lv_lsub hx hb dX11_missing_53 ?_
        exact W.lret (v := ((4000000000000000000 : Int64)) - r49.toInt64) hx hb hr (fun t ht hW => ⟨⟨_, ⟨g_w, g_refusals_49, g_hit, g_lead, g_defeat, g_defeater, s_ins, s_outs, g_order, s_ordered⟩, rfl, h, ⟨by rw [ht]; exact (hP.sub [6, 5, 7, 0, 1, 2, 3, 4] rfl), (hD.sub [6, 5, 7, 0, 1, 2, 3, 4] (by decide) rfl)⟩⟩, hS.F ht⟩) hS.2.2 dX11_missing_54
  · replace h := h.2 c
    refine lv_ldc2 (own := RX11) (v := 4000000000000000000) hx hb hown kf3 dX11_missing_8 ?_
    refine lv_aload_n hx hb dX11_missing_11 rfl (lv_at hl 0 rfl) ?_
    refine lv_iconst (v := (-1 : Int32)) hx hb dX11_missing_12 kc_m1 ?_
    refine hc_ki (wr := [caI G a_hit 8 g_hit, caI G a_lead 8 g_lead, caI G a_defeat 8 g_defeat, caI G a_defeater 8 g_defeater, caI G a_order 8 g_order, caI G a_w 43 g_w]) (va_runV (As := [.int ((-1 : Int32))]) (rest := [.long ((4000000000000000000 : Int64))]) ⟨hx, hb, hml, hown, hts⟩ (c_X11_refused l G h0 a_w a_kept a_laid a_refusals a_row a_letters a_hit a_lead a_defeat a_defeater a_order a_is a_was a_depths a_ways H.size s_hasImage s_rows s_lettered s_ins s_outs s_ordered s_reading s_isWell s_z g_refusals ((-1 : Int32)) _ h) (cwV 1 hts gX11_missing_X11_refused rfl rfl rfl (by decide +kernel) ⟨Nat.le_of_ble_eq_true rfl, Nat.le_of_ble_eq_true rfl⟩) (hc_pV hK hP hD [6, 0] rfl rfl (ci := 9) 6 rfl rfl) rfl rfl hl.1 rfl (lv_room (Nat.le_of_ble_eq_true rfl)) dX11_missing_13 ⟨Nat.le_refl _, Nat.le_refl _⟩) hP hD hS hA [6, 0] [1, 2, 3, 4, 5, 7] rfl rfl rfl (by decide) (fun r13 u H locs h hP hD hS => ?_)
    obtain ⟨g_refusals_13, rfl⟩ : ∃ z, z = u := ⟨_, rfl⟩
    try dsimp only at h
    have hP : va_P G.1 vwCl [caI G a_hit 8 g_hit, caI G a_lead 8 g_lead, caI G a_defeat 8 g_defeat, caI G a_defeater 8 g_defeater, caI G a_order 8 g_order, caI G a_w 43 g_w, ceX11 h0 a_w a_kept a_laid s_hasImage a_refusals a_row s_rows a_letters s_lettered a_hit a_lead a_defeat a_defeater s_ins s_outs a_order s_ordered a_is a_was s_reading s_isWell a_depths a_ways s_z, caI G a_refusals 7 g_refusals_13] H := hP
    have hD : va_D A [caI G a_hit 8 g_hit, caI G a_lead 8 g_lead, caI G a_defeat 8 g_defeat, caI G a_defeater 8 g_defeater, caI G a_order 8 g_order, caI G a_w 43 g_w, ceX11 h0 a_w a_kept a_laid s_hasImage a_refusals a_row s_rows a_letters s_lettered a_hit a_lead a_defeat a_defeater s_ins s_outs a_order s_ordered a_is a_was s_reading s_isWell a_depths a_ways s_z, caI G a_refusals 7 g_refusals_13] := hD
    refine lv_i2l (v := r13.toInt64) hx hb dX11_missing_16 rfl ?_
    refine lv_lsub hx hb dX11_missing_17 ?_
    exact W.lret (v := ((4000000000000000000 : Int64)) - r13.toInt64) hx hb hr (fun t ht hW => ⟨⟨_, ⟨g_w, g_refusals_13, g_hit, g_lead, g_defeat, g_defeater, s_ins, s_outs, g_order, s_ordered⟩, rfl, h, ⟨by rw [ht]; exact (hP.sub [6, 5, 7, 0, 1, 2, 3, 4] rfl), (hD.sub [6, 5, 7, 0, 1, 2, 3, 4] (by decide) rfl)⟩⟩, hS.F ht⟩) hS.2.2 dX11_missing_18
set_option maxHeartbeats 4000000 in
set_option maxRecDepth 100000 in
theorem c_X11_isAsTold (l : Launch) (G : hcG) (h0 : Nat) (a_w : Nat) (a_kept : Nat) (a_laid : Nat) (a_refusals : Nat) (a_row : Nat) (a_letters : Nat) (a_hit : Nat) (a_lead : Nat) (a_defeat : Nat) (a_defeater : Nat) (a_order : Nat) (a_is : Nat) (a_was : Nat) (a_depths : Nat) (a_ways : Nat) (sz : Nat) (s_hasImage : Int32) (s_rows : Int32) (s_lettered : Int32) (s_ins : Int32) (s_outs : Int32) (s_ordered : Int32) (s_reading : Int32) (s_isWell : Int32) (s_z : Int32) (g_w : Nat → Int32) (g_row : Nat → Int32) (g_hit : Nat → Int32) (g_lead : Nat → Int32) (g_defeat : Nat → Int32) (g_defeater : Nat → Int32) (g_order : Nat → Int32) (post : Int32 → (Nat → Int32) → (Nat → Int32) → (Nat → Int32) → (Nat → Int32) → Int32 → Int32 → (Nat → Int32) → Int32 → Prop) (h : wp_X11_isAsTold post g_w g_row s_rows g_hit g_lead g_defeat g_defeater s_ins s_outs g_order s_ordered) : Met l yX11_isAsTold wsX11_isAsTold ({ frames := 5, cells := 0, slots := 0, locals := 107 }) (hcPc G [.ref h0] [ceX11 h0 a_w a_kept a_laid s_hasImage a_refusals a_row s_rows a_letters s_lettered a_hit a_lead a_defeat a_defeater s_ins s_outs a_order s_ordered a_is a_was s_reading s_isWell a_depths a_ways s_z, caI G a_w 43 g_w, caI G a_row 12 g_row, caI G a_hit 8 g_hit, caI G a_lead 8 g_lead, caI G a_defeat 8 g_defeat, caI G a_defeater 8 g_defeater, caI G a_order 8 g_order] sz) (va_Qi (fun (r : Int32) (u : (Nat → Int32) × (Nat → Int32) × (Nat → Int32) × (Nat → Int32) × Int32 × Int32 × (Nat → Int32) × Int32) => post r u.1 u.2.1 u.2.2.1 u.2.2.2.1 u.2.2.2.2.1 u.2.2.2.2.2.1 u.2.2.2.2.2.2.1 u.2.2.2.2.2.2.2) (hcB G (va_A [ceX11 h0 a_w a_kept a_laid s_hasImage a_refusals a_row s_rows a_letters s_lettered a_hit a_lead a_defeat a_defeater s_ins s_outs a_order s_ordered a_is a_was s_reading s_isWell a_depths a_ways s_z, caI G a_w 43 g_w, caI G a_row 12 g_row, caI G a_hit 8 g_hit, caI G a_lead 8 g_lead, caI G a_defeat 8 g_defeat, caI G a_defeater 8 g_defeater, caI G a_order 8 g_order] sz) (fun u : (Nat → Int32) × (Nat → Int32) × (Nat → Int32) × (Nat → Int32) × Int32 × Int32 × (Nat → Int32) × Int32 => [ceX11 h0 a_w a_kept a_laid s_hasImage a_refusals a_row s_rows a_letters s_lettered a_hit a_lead a_defeat a_defeater u.2.2.2.2.1 u.2.2.2.2.2.1 a_order u.2.2.2.2.2.2.2 a_is a_was s_reading s_isWell a_depths a_ways s_z, caI G a_w 43 g_w, caI G a_row 12 g_row, caI G a_hit 8 u.1, caI G a_lead 8 u.2.1, caI G a_defeat 8 u.2.2.1, caI G a_defeater 8 u.2.2.2.1, caI G a_order 8 u.2.2.2.2.2.2.1])) (va_A [ceX11 h0 a_w a_kept a_laid s_hasImage a_refusals a_row s_rows a_letters s_lettered a_hit a_lead a_defeat a_defeater s_ins s_outs a_order s_ordered a_is a_was s_reading s_isWell a_depths a_ways s_z, caI G a_w 43 g_w, caI G a_row 12 g_row, caI G a_hit 8 g_hit, caI G a_lead 8 g_lead, caI G a_defeat 8 g_defeat, caI G a_defeater 8 g_defeater, caI G a_order 8 g_order] sz)) 0 0 (va_A [ceX11 h0 a_w a_kept a_laid s_hasImage a_refusals a_row s_rows a_letters s_lettered a_hit a_lead a_defeat a_defeater s_ins s_outs a_order s_ordered a_is a_was s_reading s_isWell a_depths a_ways s_z, caI G a_w 43 g_w, caI G a_row 12 g_row, caI G a_hit 8 g_hit, caI G a_lead 8 g_lead, caI G a_defeat 8 g_defeat, caI G a_defeater 8 g_defeater, caI G a_order 8 g_order] sz) := by
  refine Met.ofW (cc := cX11_isAsTold) (maxL := 2) (ret := (some .boolean)) (by decide) rfl ?_
  intro p e s m args below meth c s₁ B hml hv
  obtain ⟨rfl, hsz, hP, hK, hD0⟩ := hv
  have hx := B.exec
  have hb := B.bytes
  have hr := B.returns
  have hts := atoms_spec (ws := wsX11_isAsTold) B.pre
  have hown : s.vm.findClass RX11 = some m.cls := findClass_of_methodNamed B.named
  have hlocks := B.notSynchronized
  subst hsz
  have hD := hD0.self (sz := s.heap.size)
  generalize hAe : va_A [ceX11 h0 a_w a_kept a_laid s_hasImage a_refusals a_row s_rows a_letters s_lettered a_hit a_lead a_defeat a_defeater s_ins s_outs a_order s_ordered a_is a_was s_reading s_isWell a_depths a_ways s_z, caI G a_w 43 g_w, caI G a_row 12 g_row, caI G a_hit 8 g_hit, caI G a_lead 8 g_lead, caI G a_defeat 8 g_defeat, caI G a_defeater 8 g_defeater, caI G a_order 8 g_order] s.heap.size = A at hD ⊢
  have hA : ∀ q : Nat, s.heap.size ≤ q → A q := fun q h => by rw [← hAe]; exact Or.inr h
  have hS : va_S A s.heap s.heap [] := va_S.rf
  have hP : va_P G.1 vwCl [ceX11 h0 a_w a_kept a_laid s_hasImage a_refusals a_row s_rows a_letters s_lettered a_hit a_lead a_defeat a_defeater s_ins s_outs a_order s_ordered a_is a_was s_reading s_isWell a_depths a_ways s_z, caI G a_w 43 g_w, caI G a_row 12 g_row, caI G a_hit 8 g_hit, caI G a_lead 8 g_lead, caI G a_defeat 8 g_defeat, caI G a_defeater 8 g_defeater, caI G a_order 8 g_order] s.heap := hP
  have hl := lv_entry ([.ref h0]) (n := 2) (Nat.le_of_ble_eq_true rfl)
  rw [lg_entry_eq]
  generalize (lg_sl ([.ref h0]) ++ List.replicate (2 - (lg_sl ([.ref h0])).length) Slot.unset).toArray = ls at hl ⊢
  have hl : lv_has ls 2 [(0, .ref h0)] := hl
  have kf0 := hts (.fieldLink RX11 269 "HallOfClaimsModel" "rows" "I") (List.mem_of_getElem? (i := 1) (by decide +kernel))
  have kf1 := hts (.fieldLink RX11 9 "HallOfClaimsModel" "w" "[I") (List.mem_of_getElem? (i := 2) (by decide +kernel))
  have kf2 := hts (.fieldLink RX11 22 "HallOfClaimsModel" "row" "[I") (List.mem_of_getElem? (i := 3) (by decide +kernel))
  have ki_X11 : ∀ w ∈ u_ws RX11 TX11 24, w ∈ wsX11_isAsTold := by decide +kernel
  have w6 : ∀ (n : Nat) (v1 : Int32) (g_hit : Nat → Int32) (g_lead : Nat → Int32) (g_defeat : Nat → Int32) (g_defeater : Nat → Int32) (s_ins : Int32) (s_outs : Int32) (g_order : Nat → Int32) (s_ordered : Int32) , wp_X11_isAsTold_6 post g_w g_row s_rows n v1 g_hit g_lead g_defeat g_defeater s_ins s_outs g_order s_ordered → ∀ (H : Heap) (locs : List Loc) (ls : Array Slot), va_P G.1 vwCl [ceX11 h0 a_w a_kept a_laid s_hasImage a_refusals a_row s_rows a_letters s_lettered a_hit a_lead a_defeat a_defeater s_ins s_outs a_order s_ordered a_is a_was s_reading s_isWell a_depths a_ways s_z, caI G a_w 43 g_w, caI G a_row 12 g_row, caI G a_hit 8 g_hit, caI G a_lead 8 g_lead, caI G a_defeat 8 g_defeat, caI G a_defeater 8 g_defeater, caI G a_order 8 g_order] H → va_D A [ceX11 h0 a_w a_kept a_laid s_hasImage a_refusals a_row s_rows a_letters s_lettered a_hit a_lead a_defeat a_defeater s_ins s_outs a_order s_ordered a_is a_was s_reading s_isWell a_depths a_ways s_z, caI G a_w 43 g_w, caI G a_row 12 g_row, caI G a_hit 8 g_hit, caI G a_lead 8 g_lead, caI G a_defeat 8 g_defeat, caI G a_defeater 8 g_defeater, caI G a_order 8 g_order] → va_S A s.heap H locs → lv_has ls 2 [(0, .ref h0), (1, .int v1)] → W p l e (headSpec wsX11_isAsTold ({ frames := 5, cells := 0, slots := 0, locals := 107 })).room s m ([.ref h0] : List Value).toArray below meth c H locs 0 0 (MQ below (va_Qi (fun (r : Int32) (u : (Nat → Int32) × (Nat → Int32) × (Nat → Int32) × (Nat → Int32) × Int32 × Int32 × (Nat → Int32) × Int32) => post r u.1 u.2.1 u.2.2.1 u.2.2.2.1 u.2.2.2.2.1 u.2.2.2.2.2.1 u.2.2.2.2.2.2.1 u.2.2.2.2.2.2.2) (hcB G A (fun u : (Nat → Int32) × (Nat → Int32) × (Nat → Int32) × (Nat → Int32) × Int32 × Int32 × (Nat → Int32) × Int32 => [ceX11 h0 a_w a_kept a_laid s_hasImage a_refusals a_row s_rows a_letters s_lettered a_hit a_lead a_defeat a_defeater u.2.2.2.2.1 u.2.2.2.2.2.1 a_order u.2.2.2.2.2.2.2 a_is a_was s_reading s_isWell a_depths a_ways s_z, caI G a_w 43 g_w, caI G a_row 12 g_row, caI G a_hit 8 u.1, caI G a_lead 8 u.2.1, caI G a_defeat 8 u.2.2.1, caI G a_defeater 8 u.2.2.2.1, caI G a_order 8 u.2.2.2.2.2.2.1])) A) ([.ref h0] : List Value).toArray s 0 0 A) (F0 m 6 ls []) := by
    intro n
    induction n with
    | zero => intro v1 g_hit g_lead g_defeat g_defeater s_ins s_outs g_order s_ordered h; exact h.elim
    | succ n ih =>
      intro v1 g_hit g_lead g_defeat g_defeater s_ins s_outs g_order s_ordered h H locs ls hP hD hS hl
      unfold wp_X11_isAsTold_6 at h
      refine lv_iload_n hx hb dX11_isAsTold_6 rfl (lv_at hl 1 rfl) ?_
      refine lv_aload_n hx hb dX11_isAsTold_7 rfl (lv_at hl 0 rfl) ?_
      refine va_get (D := G.1) (ci := 9) (v := .int s_rows) (C := RX11) (T := TX11) (N := 24) hx hb hts ki_X11 hown hK.1 hP 0 rfl rfl 6 (by decide) kf0 (fun _ h9 => h9) rfl dX11_isAsTold_8 ?_
      refine lv_icmp_ge (tgt := 47) hx hb dX11_isAsTold_11 (by decide) (fun c => ?_) (fun c => ?_)
      · replace h := h.1 c
        refine lv_iconst (v := nI 1) hx hb dX11_isAsTold_47 kc_1 ?_
        exact W.zret (v := nI 1) hx hb hr rfl (fun t ht hW => ⟨⟨_, ⟨g_hit, g_lead, g_defeat, g_defeater, s_ins, s_outs, g_order, s_ordered⟩, rfl, h, ⟨by rw [ht]; exact hP, hD⟩⟩, hS.F ht⟩) hS.2.2 dX11_isAsTold_48
      · replace h := h.2 c
        refine lv_iload_n hx hb dX11_isAsTold_14 rfl (lv_at hl 1 rfl) ?_
        refine lv_aload_n hx hb dX11_isAsTold_15 rfl (lv_at hl 0 rfl) ?_
        refine va_get (D := G.1) (ci := 9) (v := .ref a_w) (C := RX11) (T := TX11) (N := 24) hx hb hts ki_X11 hown hK.1 hP 0 rfl rfl 0 (by decide) kf1 (fun _ h9 => h9) rfl dX11_isAsTold_16 ?_
        refine lv_bipush (v := nI 42) hx hb dX11_isAsTold_19 kb_42 ?_
        have hin := h.1
        replace h := h.2
        refine va_iald hx hb hK.1 hP 1 0 rfl rfl hin dX11_isAsTold_21 ?_
        refine lv_icmp_ge (tgt := 39) hx hb dX11_isAsTold_22 (by decide) (fun c => ?_) (fun c => ?_)
        · replace h := h.1 c
          refine lv_iconst (v := nI 0) hx hb dX11_isAsTold_39 kc_0 ?_
          exact W.zret (v := nI 0) hx hb hr rfl (fun t ht hW => ⟨⟨_, ⟨g_hit, g_lead, g_defeat, g_defeater, s_ins, s_outs, g_order, s_ordered⟩, rfl, h, ⟨by rw [ht]; exact hP, hD⟩⟩, hS.F ht⟩) hS.2.2 dX11_isAsTold_40
        · replace h := h.2 c
          refine lv_aload_n hx hb dX11_isAsTold_25 rfl (lv_at hl 0 rfl) ?_
          refine lv_iload_n hx hb dX11_isAsTold_26 rfl (lv_at hl 1 rfl) ?_
          refine hc_ki (wr := [caI G a_row 12 g_row, caI G a_hit 8 g_hit, caI G a_lead 8 g_lead, caI G a_defeat 8 g_defeat, caI G a_defeater 8 g_defeater, caI G a_order 8 g_order]) (va_runV (As := [.int v1]) (rest := []) ⟨hx, hb, hml, hown, hts⟩ (c_X11_labelOf l G h0 a_w a_kept a_laid a_refusals a_row a_letters a_hit a_lead a_defeat a_defeater a_order a_is a_was a_depths a_ways H.size s_hasImage s_rows s_lettered s_ins s_outs s_ordered s_reading s_isWell s_z g_w v1 _ h) (cwV 1 hts gX11_isAsTold_X11_labelOf rfl rfl rfl (by decide +kernel) ⟨Nat.le_of_ble_eq_true rfl, Nat.le_of_ble_eq_true rfl⟩) (hc_pV hK hP hD [0, 1] rfl rfl (ci := 9) 0 rfl rfl) rfl rfl hl.1 rfl (lv_room (Nat.le_of_ble_eq_true rfl)) dX11_isAsTold_27 ⟨Nat.le_refl _, Nat.le_refl _⟩) hP hD hS hA [0, 1] [2, 3, 4, 5, 6, 7] rfl rfl rfl (by decide) (fun r27 u H locs h hP hD hS => ?_)
          try dsimp only at h
          have hP : va_P G.1 vwCl [caI G a_row 12 g_row, caI G a_hit 8 g_hit, caI G a_lead 8 g_lead, caI G a_defeat 8 g_defeat, caI G a_defeater 8 g_defeater, caI G a_order 8 g_order, ceX11 h0 a_w a_kept a_laid s_hasImage a_refusals a_row s_rows a_letters s_lettered a_hit a_lead a_defeat a_defeater s_ins s_outs a_order s_ordered a_is a_was s_reading s_isWell a_depths a_ways s_z, caI G a_w 43 g_w] H := hP
          have hD : va_D A [caI G a_row 12 g_row, caI G a_hit 8 g_hit, caI G a_lead 8 g_lead, caI G a_defeat 8 g_defeat, caI G a_defeater 8 g_defeater, caI G a_order 8 g_order, ceX11 h0 a_w a_kept a_laid s_hasImage a_refusals a_row s_rows a_letters s_lettered a_hit a_lead a_defeat a_defeater s_ins s_outs a_order s_ordered a_is a_was s_reading s_isWell a_depths a_ways s_z, caI G a_w 43 g_w] := hD
          refine lv_aload_n hx hb dX11_isAsTold_30 rfl (lv_at hl 0 rfl) ?_
          refine va_get (D := G.1) (ci := 9) (v := .ref a_row) (C := RX11) (T := TX11) (N := 24) hx hb hts ki_X11 hown hK.1 hP 6 rfl rfl 5 (by decide) kf2 (fun _ h9 => h9) rfl dX11_isAsTold_31 ?_
          refine lv_iload_n hx hb dX11_isAsTold_34 rfl (lv_at hl 1 rfl) ?_
          have hin := h.1
          replace h := h.2
          refine va_iald hx hb hK.1 hP 0 0 rfl rfl hin dX11_isAsTold_35 ?_
          refine lv_icmp_eq (tgt := 41) hx hb dX11_isAsTold_36 (by decide) (fun c => ?_) (fun c => ?_)
          · replace h := h.1 c
            refine lv_iinc (v := v1 + nI 1) (lv' := [(1, .int (v1 + nI 1)), (0, .ref h0)]) hx hb dX11_isAsTold_41 hl (k := 1) rfl (congrArg (fun q => v1 + q) kc_1) (by decide) rfl (fun ls hl => ?_)
            refine lv_goto (tgt := 6) hx hb dX11_isAsTold_44 (by decide) ?_
            exact ih (v1 + nI 1) g_hit g_lead g_defeat g_defeater s_ins s_outs g_order s_ordered h _ _ _ (hP.sub [6, 7, 0, 1, 2, 3, 4, 5] rfl) (hD.sub [6, 7, 0, 1, 2, 3, 4, 5] (by decide) rfl) hS (lv_sub hl [1, 0] rfl)
          · replace h := h.2 c
            refine lv_iconst (v := nI 0) hx hb dX11_isAsTold_39 kc_0 ?_
            exact W.zret (v := nI 0) hx hb hr rfl (fun t ht hW => ⟨⟨_, ⟨g_hit, g_lead, g_defeat, g_defeater, s_ins, s_outs, g_order, s_ordered⟩, rfl, h, ⟨by rw [ht]; exact (hP.sub [6, 7, 0, 1, 2, 3, 4, 5] rfl), (hD.sub [6, 7, 0, 1, 2, 3, 4, 5] (by decide) rfl)⟩⟩, hS.F ht⟩) hS.2.2 dX11_isAsTold_40
  unfold wp_X11_isAsTold at h
  refine lv_aload_n hx hb dX11_isAsTold_0 rfl (lv_at hl 0 rfl) ?_
  refine hc_kv (wr := [caI G a_row 12 g_row]) (va_runV (As := []) (rest := []) ⟨hx, hb, hml, hown, hts⟩ (c_X11_turnsAll l G h0 a_w a_kept a_laid a_refusals a_row a_letters a_hit a_lead a_defeat a_defeater a_order a_is a_was a_depths a_ways s.heap.size s_hasImage s_rows s_lettered s_ins s_outs s_ordered s_reading s_isWell s_z g_w g_hit g_lead g_defeat g_defeater g_order _ h) (cwV 0 hts gX11_isAsTold_X11_turnsAll rfl rfl rfl (by decide +kernel) ⟨Nat.le_of_ble_eq_true rfl, Nat.le_of_ble_eq_true rfl⟩) (hc_pV hK hP hD [0, 1, 3, 4, 5, 6, 7] rfl rfl (ci := 9) 0 rfl rfl) rfl rfl hl.1 rfl (lv_room (Nat.le_of_ble_eq_true rfl)) dX11_isAsTold_1 ⟨Nat.le_refl _, Nat.le_refl _⟩) hP hD hS hA [0, 1, 3, 4, 5, 6, 7] [2] rfl rfl rfl (by decide) (fun u H locs h hP hD hS => ?_)
  obtain ⟨g_hit_1, g_lead_1, g_defeat_1, g_defeater_1, s_ins_1, s_outs_1, g_order_1, s_ordered_1⟩ := u
  try dsimp only at h
  have hP : va_P G.1 vwCl [caI G a_row 12 g_row, ceX11 h0 a_w a_kept a_laid s_hasImage a_refusals a_row s_rows a_letters s_lettered a_hit a_lead a_defeat a_defeater s_ins_1 s_outs_1 a_order s_ordered_1 a_is a_was s_reading s_isWell a_depths a_ways s_z, caI G a_w 43 g_w, caI G a_hit 8 g_hit_1, caI G a_lead 8 g_lead_1, caI G a_defeat 8 g_defeat_1, caI G a_defeater 8 g_defeater_1, caI G a_order 8 g_order_1] H := hP
  have hD : va_D A [caI G a_row 12 g_row, ceX11 h0 a_w a_kept a_laid s_hasImage a_refusals a_row s_rows a_letters s_lettered a_hit a_lead a_defeat a_defeater s_ins_1 s_outs_1 a_order s_ordered_1 a_is a_was s_reading s_isWell a_depths a_ways s_z, caI G a_w 43 g_w, caI G a_hit 8 g_hit_1, caI G a_lead 8 g_lead_1, caI G a_defeat 8 g_defeat_1, caI G a_defeater 8 g_defeater_1, caI G a_order 8 g_order_1] := hD
  refine lv_iconst (v := nI 0) hx hb dX11_isAsTold_4 kc_0 ?_
  refine lv_istore_n (lv' := [(1, .int (nI 0)), (0, .ref h0)]) hx hb dX11_isAsTold_5 rfl hl (by decide) rfl (fun ls hl => ?_)
  obtain ⟨n6, h⟩ := h
  exact w6  n6 (nI 0) g_hit_1 g_lead_1 g_defeat_1 g_defeater_1 s_ins_1 s_outs_1 g_order_1 s_ordered_1 h _ _ _ (hP.sub [1, 2, 0, 3, 4, 5, 6, 7] rfl) (hD.sub [1, 2, 0, 3, 4, 5, 6, 7] (by decide) rfl) hS (lv_sub hl [1, 0] rfl)
set_option maxHeartbeats 4000000 in
set_option maxRecDepth 100000 in
theorem c_X11_whatIs (l : Launch) (G : hcG) (h0 : Nat) (a_w : Nat) (a_kept : Nat) (a_laid : Nat) (a_refusals : Nat) (a_row : Nat) (a_letters : Nat) (a_hit : Nat) (a_lead : Nat) (a_defeat : Nat) (a_defeater : Nat) (a_order : Nat) (a_is : Nat) (a_was : Nat) (a_depths : Nat) (a_ways : Nat) (sz : Nat) (s_hasImage : Int32) (s_rows : Int32) (s_lettered : Int32) (s_ins : Int32) (s_outs : Int32) (s_ordered : Int32) (s_reading : Int32) (s_isWell : Int32) (s_z : Int32) (g_w : Nat → Int32) (g_refusals : Nat → Int32) (g_row : Nat → Int32) (g_hit : Nat → Int32) (g_lead : Nat → Int32) (g_defeat : Nat → Int32) (g_defeater : Nat → Int32) (g_order : Nat → Int32) (x1 : Int32) (x2 : Int32) (post : Int32 → (Nat → Int32) → (Nat → Int32) → (Nat → Int32) → (Nat → Int32) → (Nat → Int32) → (Nat → Int32) → Int32 → Int32 → (Nat → Int32) → Int32 → Prop) (h : wp_X11_whatIs post g_w g_refusals g_row s_rows g_hit g_lead g_defeat g_defeater s_ins s_outs g_order s_ordered x1 x2) : Met l yX11_whatIs wsX11_whatIs ({ frames := 6, cells := 0, slots := 0, locals := 128 }) (hcPc G [.ref h0, .int x1, .int x2] [ceX11 h0 a_w a_kept a_laid s_hasImage a_refusals a_row s_rows a_letters s_lettered a_hit a_lead a_defeat a_defeater s_ins s_outs a_order s_ordered a_is a_was s_reading s_isWell a_depths a_ways s_z, caI G a_w 43 g_w, caI G a_refusals 7 g_refusals, caI G a_row 12 g_row, caI G a_hit 8 g_hit, caI G a_lead 8 g_lead, caI G a_defeat 8 g_defeat, caI G a_defeater 8 g_defeater, caI G a_order 8 g_order] sz) (va_Qi (fun (r : Int32) (u : (Nat → Int32) × (Nat → Int32) × (Nat → Int32) × (Nat → Int32) × (Nat → Int32) × (Nat → Int32) × Int32 × Int32 × (Nat → Int32) × Int32) => post r u.1 u.2.1 u.2.2.1 u.2.2.2.1 u.2.2.2.2.1 u.2.2.2.2.2.1 u.2.2.2.2.2.2.1 u.2.2.2.2.2.2.2.1 u.2.2.2.2.2.2.2.2.1 u.2.2.2.2.2.2.2.2.2) (hcB G (va_A [ceX11 h0 a_w a_kept a_laid s_hasImage a_refusals a_row s_rows a_letters s_lettered a_hit a_lead a_defeat a_defeater s_ins s_outs a_order s_ordered a_is a_was s_reading s_isWell a_depths a_ways s_z, caI G a_w 43 g_w, caI G a_refusals 7 g_refusals, caI G a_row 12 g_row, caI G a_hit 8 g_hit, caI G a_lead 8 g_lead, caI G a_defeat 8 g_defeat, caI G a_defeater 8 g_defeater, caI G a_order 8 g_order] sz) (fun u : (Nat → Int32) × (Nat → Int32) × (Nat → Int32) × (Nat → Int32) × (Nat → Int32) × (Nat → Int32) × Int32 × Int32 × (Nat → Int32) × Int32 => [ceX11 h0 a_w a_kept a_laid s_hasImage a_refusals a_row s_rows a_letters s_lettered a_hit a_lead a_defeat a_defeater u.2.2.2.2.2.2.1 u.2.2.2.2.2.2.2.1 a_order u.2.2.2.2.2.2.2.2.2 a_is a_was s_reading s_isWell a_depths a_ways s_z, caI G a_w 43 u.1, caI G a_refusals 7 u.2.1, caI G a_row 12 g_row, caI G a_hit 8 u.2.2.1, caI G a_lead 8 u.2.2.2.1, caI G a_defeat 8 u.2.2.2.2.1, caI G a_defeater 8 u.2.2.2.2.2.1, caI G a_order 8 u.2.2.2.2.2.2.2.2.1])) (va_A [ceX11 h0 a_w a_kept a_laid s_hasImage a_refusals a_row s_rows a_letters s_lettered a_hit a_lead a_defeat a_defeater s_ins s_outs a_order s_ordered a_is a_was s_reading s_isWell a_depths a_ways s_z, caI G a_w 43 g_w, caI G a_refusals 7 g_refusals, caI G a_row 12 g_row, caI G a_hit 8 g_hit, caI G a_lead 8 g_lead, caI G a_defeat 8 g_defeat, caI G a_defeater 8 g_defeater, caI G a_order 8 g_order] sz)) 0 0 (va_A [ceX11 h0 a_w a_kept a_laid s_hasImage a_refusals a_row s_rows a_letters s_lettered a_hit a_lead a_defeat a_defeater s_ins s_outs a_order s_ordered a_is a_was s_reading s_isWell a_depths a_ways s_z, caI G a_w 43 g_w, caI G a_refusals 7 g_refusals, caI G a_row 12 g_row, caI G a_hit 8 g_hit, caI G a_lead 8 g_lead, caI G a_defeat 8 g_defeat, caI G a_defeater 8 g_defeater, caI G a_order 8 g_order] sz) := by
  refine Met.ofW (cc := cX11_whatIs) (maxL := 7) (ret := (some .int)) (by decide) rfl ?_
  intro p e s m args below meth c s₁ B hml hv
  obtain ⟨rfl, hsz, hP, hK, hD0⟩ := hv
  have hx := B.exec
  have hb := B.bytes
  have hr := B.returns
  have hts := atoms_spec (ws := wsX11_whatIs) B.pre
  have hown : s.vm.findClass RX11 = some m.cls := findClass_of_methodNamed B.named
  have hlocks := B.notSynchronized
  subst hsz
  have hD := hD0.self (sz := s.heap.size)
  generalize hAe : va_A [ceX11 h0 a_w a_kept a_laid s_hasImage a_refusals a_row s_rows a_letters s_lettered a_hit a_lead a_defeat a_defeater s_ins s_outs a_order s_ordered a_is a_was s_reading s_isWell a_depths a_ways s_z, caI G a_w 43 g_w, caI G a_refusals 7 g_refusals, caI G a_row 12 g_row, caI G a_hit 8 g_hit, caI G a_lead 8 g_lead, caI G a_defeat 8 g_defeat, caI G a_defeater 8 g_defeater, caI G a_order 8 g_order] s.heap.size = A at hD ⊢
  have hA : ∀ q : Nat, s.heap.size ≤ q → A q := fun q h => by rw [← hAe]; exact Or.inr h
  have hS : va_S A s.heap s.heap [] := va_S.rf
  have hP : va_P G.1 vwCl [ceX11 h0 a_w a_kept a_laid s_hasImage a_refusals a_row s_rows a_letters s_lettered a_hit a_lead a_defeat a_defeater s_ins s_outs a_order s_ordered a_is a_was s_reading s_isWell a_depths a_ways s_z, caI G a_w 43 g_w, caI G a_refusals 7 g_refusals, caI G a_row 12 g_row, caI G a_hit 8 g_hit, caI G a_lead 8 g_lead, caI G a_defeat 8 g_defeat, caI G a_defeater 8 g_defeater, caI G a_order 8 g_order] s.heap := hP
  have hl := lv_entry ([.ref h0, .int x1, .int x2]) (n := 7) (Nat.le_of_ble_eq_true rfl)
  rw [lg_entry_eq]
  generalize (lg_sl ([.ref h0, .int x1, .int x2]) ++ List.replicate (7 - (lg_sl ([.ref h0, .int x1, .int x2])).length) Slot.unset).toArray = ls at hl ⊢
  have hl : lv_has ls 7 [(0, .ref h0), (1, .int x1), (2, .int x2)] := hl
  have kf0 := hts (.fieldLink RX11 9 "HallOfClaimsModel" "w" "[I") (List.mem_of_getElem? (i := 1) (by decide +kernel))
  have ki_X11 : ∀ w ∈ u_ws RX11 TX11 24, w ∈ wsX11_whatIs := by decide +kernel
  have w71 : ∀ (K58 : Int32 → Int32 → Int32 → Int32 → (Nat → Int32) → (Nat → Int32) → (Nat → Int32) → (Nat → Int32) → (Nat → Int32) → (Nat → Int32) → Int32 → Int32 → (Nat → Int32) → Int32 → Prop), (∀ (v3 : Int32) (v4 : Int32) (v5 : Int32) (v6 : Int32) (g_w : Nat → Int32) (g_refusals : Nat → Int32) (g_hit : Nat → Int32) (g_lead : Nat → Int32) (g_defeat : Nat → Int32) (g_defeater : Nat → Int32) (s_ins : Int32) (s_outs : Int32) (g_order : Nat → Int32) (s_ordered : Int32) , K58 v3 v4 v5 v6 g_w g_refusals g_hit g_lead g_defeat g_defeater s_ins s_outs g_order s_ordered → ∀ (H : Heap) (locs : List Loc) (ls : Array Slot), va_P G.1 vwCl [ceX11 h0 a_w a_kept a_laid s_hasImage a_refusals a_row s_rows a_letters s_lettered a_hit a_lead a_defeat a_defeater s_ins s_outs a_order s_ordered a_is a_was s_reading s_isWell a_depths a_ways s_z, caI G a_w 43 g_w, caI G a_refusals 7 g_refusals, caI G a_row 12 g_row, caI G a_hit 8 g_hit, caI G a_lead 8 g_lead, caI G a_defeat 8 g_defeat, caI G a_defeater 8 g_defeater, caI G a_order 8 g_order] H → va_D A [ceX11 h0 a_w a_kept a_laid s_hasImage a_refusals a_row s_rows a_letters s_lettered a_hit a_lead a_defeat a_defeater s_ins s_outs a_order s_ordered a_is a_was s_reading s_isWell a_depths a_ways s_z, caI G a_w 43 g_w, caI G a_refusals 7 g_refusals, caI G a_row 12 g_row, caI G a_hit 8 g_hit, caI G a_lead 8 g_lead, caI G a_defeat 8 g_defeat, caI G a_defeater 8 g_defeater, caI G a_order 8 g_order] → va_S A s.heap H locs → lv_has ls 7 [(0, .ref h0), (2, .int x2), (3, .int v3), (4, .int v4), (5, .int v5), (6, .int v6)] → W p l e (headSpec wsX11_whatIs ({ frames := 6, cells := 0, slots := 0, locals := 128 })).room s m ([.ref h0, .int x1, .int x2] : List Value).toArray below meth c H locs 0 0 (MQ below (va_Qi (fun (r : Int32) (u : (Nat → Int32) × (Nat → Int32) × (Nat → Int32) × (Nat → Int32) × (Nat → Int32) × (Nat → Int32) × Int32 × Int32 × (Nat → Int32) × Int32) => post r u.1 u.2.1 u.2.2.1 u.2.2.2.1 u.2.2.2.2.1 u.2.2.2.2.2.1 u.2.2.2.2.2.2.1 u.2.2.2.2.2.2.2.1 u.2.2.2.2.2.2.2.2.1 u.2.2.2.2.2.2.2.2.2) (hcB G A (fun u : (Nat → Int32) × (Nat → Int32) × (Nat → Int32) × (Nat → Int32) × (Nat → Int32) × (Nat → Int32) × Int32 × Int32 × (Nat → Int32) × Int32 => [ceX11 h0 a_w a_kept a_laid s_hasImage a_refusals a_row s_rows a_letters s_lettered a_hit a_lead a_defeat a_defeater u.2.2.2.2.2.2.1 u.2.2.2.2.2.2.2.1 a_order u.2.2.2.2.2.2.2.2.2 a_is a_was s_reading s_isWell a_depths a_ways s_z, caI G a_w 43 u.1, caI G a_refusals 7 u.2.1, caI G a_row 12 g_row, caI G a_hit 8 u.2.2.1, caI G a_lead 8 u.2.2.2.1, caI G a_defeat 8 u.2.2.2.2.1, caI G a_defeater 8 u.2.2.2.2.2.1, caI G a_order 8 u.2.2.2.2.2.2.2.2.1])) A) ([.ref h0, .int x1, .int x2] : List Value).toArray s 0 0 A) (F0 m 58 ls [])) → ∀ (v3 : Int32) (v4 : Int32) (v5 : Int32) (v6 : Int32) (g_w : Nat → Int32) (g_refusals : Nat → Int32) (g_hit : Nat → Int32) (g_lead : Nat → Int32) (g_defeat : Nat → Int32) (g_defeater : Nat → Int32) (s_ins : Int32) (s_outs : Int32) (g_order : Nat → Int32) (s_ordered : Int32) (t0 : Int32) (t1 : Int32) , wp_X11_whatIs_71 post g_row s_rows x1 x2 K58 v3 v4 v5 v6 g_w g_refusals g_hit g_lead g_defeat g_defeater s_ins s_outs g_order s_ordered t0 t1 → ∀ (H : Heap) (locs : List Loc) (ls : Array Slot), va_P G.1 vwCl [ceX11 h0 a_w a_kept a_laid s_hasImage a_refusals a_row s_rows a_letters s_lettered a_hit a_lead a_defeat a_defeater s_ins s_outs a_order s_ordered a_is a_was s_reading s_isWell a_depths a_ways s_z, caI G a_w 43 g_w, caI G a_refusals 7 g_refusals, caI G a_row 12 g_row, caI G a_hit 8 g_hit, caI G a_lead 8 g_lead, caI G a_defeat 8 g_defeat, caI G a_defeater 8 g_defeater, caI G a_order 8 g_order] H → va_D A [ceX11 h0 a_w a_kept a_laid s_hasImage a_refusals a_row s_rows a_letters s_lettered a_hit a_lead a_defeat a_defeater s_ins s_outs a_order s_ordered a_is a_was s_reading s_isWell a_depths a_ways s_z, caI G a_w 43 g_w, caI G a_refusals 7 g_refusals, caI G a_row 12 g_row, caI G a_hit 8 g_hit, caI G a_lead 8 g_lead, caI G a_defeat 8 g_defeat, caI G a_defeater 8 g_defeater, caI G a_order 8 g_order] → va_S A s.heap H locs → lv_has ls 7 [(0, .ref h0), (2, .int x2), (3, .int v3), (4, .int v4), (5, .int v5), (6, .int v6)] → W p l e (headSpec wsX11_whatIs ({ frames := 6, cells := 0, slots := 0, locals := 128 })).room s m ([.ref h0, .int x1, .int x2] : List Value).toArray below meth c H locs 0 0 (MQ below (va_Qi (fun (r : Int32) (u : (Nat → Int32) × (Nat → Int32) × (Nat → Int32) × (Nat → Int32) × (Nat → Int32) × (Nat → Int32) × Int32 × Int32 × (Nat → Int32) × Int32) => post r u.1 u.2.1 u.2.2.1 u.2.2.2.1 u.2.2.2.2.1 u.2.2.2.2.2.1 u.2.2.2.2.2.2.1 u.2.2.2.2.2.2.2.1 u.2.2.2.2.2.2.2.2.1 u.2.2.2.2.2.2.2.2.2) (hcB G A (fun u : (Nat → Int32) × (Nat → Int32) × (Nat → Int32) × (Nat → Int32) × (Nat → Int32) × (Nat → Int32) × Int32 × Int32 × (Nat → Int32) × Int32 => [ceX11 h0 a_w a_kept a_laid s_hasImage a_refusals a_row s_rows a_letters s_lettered a_hit a_lead a_defeat a_defeater u.2.2.2.2.2.2.1 u.2.2.2.2.2.2.2.1 a_order u.2.2.2.2.2.2.2.2.2 a_is a_was s_reading s_isWell a_depths a_ways s_z, caI G a_w 43 u.1, caI G a_refusals 7 u.2.1, caI G a_row 12 g_row, caI G a_hit 8 u.2.2.1, caI G a_lead 8 u.2.2.2.1, caI G a_defeat 8 u.2.2.2.2.1, caI G a_defeater 8 u.2.2.2.2.2.1, caI G a_order 8 u.2.2.2.2.2.2.2.2.1])) A) ([.ref h0, .int x1, .int x2] : List Value).toArray s 0 0 A) (F0 m 71 ls [.int t0, .int t1]) := by
    intro K58 hK58 v3 v4 v5 v6 g_w g_refusals g_hit g_lead g_defeat g_defeater s_ins s_outs g_order s_ordered t0 t1 h H locs ls hP hD hS hl
    unfold wp_X11_whatIs_71 at h
    refine lv_icmp_ge (tgt := 108) hx hb dX11_whatIs_71 (by decide) (fun c => ?_) (fun c => ?_)
    · replace h := h.1 c
      refine lv_aload_n hx hb dX11_whatIs_108 rfl (lv_at hl 0 rfl) ?_
      refine va_get (D := G.1) (ci := 9) (v := .ref a_w) (C := RX11) (T := TX11) (N := 24) hx hb hts ki_X11 hown hK.1 hP 0 rfl rfl 0 (by decide) kf0 (fun _ h9 => h9) rfl dX11_whatIs_109 ?_
      refine lv_iload_n hx hb dX11_whatIs_112 rfl (lv_at hl 2 rfl) ?_
      refine lv_iload hx hb dX11_whatIs_113 (lv_at hl 3 rfl) ?_
      have hin := h.1
      replace h := h.2
      refine va_iast hx hb hK.1 hP hD hS 1 0 rfl rfl hin dX11_whatIs_115 (fun H locs hP hD hS => ?_)
      have hP : va_P G.1 vwCl [ceX11 h0 a_w a_kept a_laid s_hasImage a_refusals a_row s_rows a_letters s_lettered a_hit a_lead a_defeat a_defeater s_ins s_outs a_order s_ordered a_is a_was s_reading s_isWell a_depths a_ways s_z, caI G a_w 43 (upd g_w v3.toNatClampNeg v4), caI G a_refusals 7 g_refusals, caI G a_row 12 g_row, caI G a_hit 8 g_hit, caI G a_lead 8 g_lead, caI G a_defeat 8 g_defeat, caI G a_defeater 8 g_defeater, caI G a_order 8 g_order] H := hP
      have hD : va_D A [ceX11 h0 a_w a_kept a_laid s_hasImage a_refusals a_row s_rows a_letters s_lettered a_hit a_lead a_defeat a_defeater s_ins s_outs a_order s_ordered a_is a_was s_reading s_isWell a_depths a_ways s_z, caI G a_w 43 (upd g_w v3.toNatClampNeg v4), caI G a_refusals 7 g_refusals, caI G a_row 12 g_row, caI G a_hit 8 g_hit, caI G a_lead 8 g_lead, caI G a_defeat 8 g_defeat, caI G a_defeater 8 g_defeater, caI G a_order 8 g_order] := hD
      refine lv_iload hx hb dX11_whatIs_116 (lv_at hl 4 rfl) ?_
      exact W.iret (v := v5) hx hb hr (fun t ht hW => ⟨⟨_, ⟨(upd g_w v3.toNatClampNeg v4), g_refusals, g_hit, g_lead, g_defeat, g_defeater, s_ins, s_outs, g_order, s_ordered⟩, rfl, h, ⟨by rw [ht]; exact hP, hD⟩⟩, hS.F ht⟩) hS.2.2 dX11_whatIs_118
    · replace h := h.2 c
      refine lv_aload_n hx hb dX11_whatIs_74 rfl (lv_at hl 0 rfl) ?_
      refine va_get (D := G.1) (ci := 9) (v := .ref a_w) (C := RX11) (T := TX11) (N := 24) hx hb hts ki_X11 hown hK.1 hP 0 rfl rfl 0 (by decide) kf0 (fun _ h9 => h9) rfl dX11_whatIs_75 ?_
      refine lv_iload_n hx hb dX11_whatIs_78 rfl (lv_at hl 2 rfl) ?_
      refine lv_iload hx hb dX11_whatIs_79 (lv_at hl 5 rfl) ?_
      have hin := h.1
      replace h := h.2
      refine va_iast hx hb hK.1 hP hD hS 1 0 rfl rfl hin dX11_whatIs_81 (fun H locs hP hD hS => ?_)
      have hP : va_P G.1 vwCl [ceX11 h0 a_w a_kept a_laid s_hasImage a_refusals a_row s_rows a_letters s_lettered a_hit a_lead a_defeat a_defeater s_ins s_outs a_order s_ordered a_is a_was s_reading s_isWell a_depths a_ways s_z, caI G a_w 43 (upd g_w v3.toNatClampNeg v6), caI G a_refusals 7 g_refusals, caI G a_row 12 g_row, caI G a_hit 8 g_hit, caI G a_lead 8 g_lead, caI G a_defeat 8 g_defeat, caI G a_defeater 8 g_defeater, caI G a_order 8 g_order] H := hP
      have hD : va_D A [ceX11 h0 a_w a_kept a_laid s_hasImage a_refusals a_row s_rows a_letters s_lettered a_hit a_lead a_defeat a_defeater s_ins s_outs a_order s_ordered a_is a_was s_reading s_isWell a_depths a_ways s_z, caI G a_w 43 (upd g_w v3.toNatClampNeg v6), caI G a_refusals 7 g_refusals, caI G a_row 12 g_row, caI G a_hit 8 g_hit, caI G a_lead 8 g_lead, caI G a_defeat 8 g_defeat, caI G a_defeater 8 g_defeater, caI G a_order 8 g_order] := hD
      refine lv_iload hx hb dX11_whatIs_82 (lv_at hl 4 rfl) ?_
      refine lv_aload_n hx hb dX11_whatIs_84 rfl (lv_at hl 0 rfl) ?_
      refine hc_ki (wr := [caI G a_refusals 7 g_refusals]) (va_runV (As := []) (rest := [.int v5]) ⟨hx, hb, hml, hown, hts⟩ (c_X11_isAsTold l G h0 a_w a_kept a_laid a_refusals a_row a_letters a_hit a_lead a_defeat a_defeater a_order a_is a_was a_depths a_ways H.size s_hasImage s_rows s_lettered s_ins s_outs s_ordered s_reading s_isWell s_z (upd g_w v3.toNatClampNeg v6) g_row g_hit g_lead g_defeat g_defeater g_order _ h) (cwV 0 hts gX11_whatIs_X11_isAsTold rfl rfl rfl (by decide +kernel) ⟨Nat.le_of_ble_eq_true rfl, Nat.le_of_ble_eq_true rfl⟩) (hc_pV hK hP hD [0, 1, 3, 4, 5, 6, 7, 8] rfl rfl (ci := 9) 0 rfl rfl) rfl rfl hl.1 rfl (lv_room (Nat.le_of_ble_eq_true rfl)) dX11_whatIs_85 ⟨Nat.le_refl _, Nat.le_refl _⟩) hP hD hS hA [0, 1, 3, 4, 5, 6, 7, 8] [2] rfl rfl rfl (by decide) (fun r85 u H locs h hP hD hS => ?_)
      obtain ⟨g_hit_85, g_lead_85, g_defeat_85, g_defeater_85, s_ins_85, s_outs_85, g_order_85, s_ordered_85⟩ := u
      try dsimp only at h
      have hP : va_P G.1 vwCl [caI G a_refusals 7 g_refusals, ceX11 h0 a_w a_kept a_laid s_hasImage a_refusals a_row s_rows a_letters s_lettered a_hit a_lead a_defeat a_defeater s_ins_85 s_outs_85 a_order s_ordered_85 a_is a_was s_reading s_isWell a_depths a_ways s_z, caI G a_w 43 (upd g_w v3.toNatClampNeg v6), caI G a_row 12 g_row, caI G a_hit 8 g_hit_85, caI G a_lead 8 g_lead_85, caI G a_defeat 8 g_defeat_85, caI G a_defeater 8 g_defeater_85, caI G a_order 8 g_order_85] H := hP
      have hD : va_D A [caI G a_refusals 7 g_refusals, ceX11 h0 a_w a_kept a_laid s_hasImage a_refusals a_row s_rows a_letters s_lettered a_hit a_lead a_defeat a_defeater s_ins_85 s_outs_85 a_order s_ordered_85 a_is a_was s_reading s_isWell a_depths a_ways s_z, caI G a_w 43 (upd g_w v3.toNatClampNeg v6), caI G a_row 12 g_row, caI G a_hit 8 g_hit_85, caI G a_lead 8 g_lead_85, caI G a_defeat 8 g_defeat_85, caI G a_defeater 8 g_defeater_85, caI G a_order 8 g_order_85] := hD
      refine lv_if_eq (tgt := 98) hx hb dX11_whatIs_88 (by decide) (fun c => ?_) (fun c => ?_)
      · replace h := h.1 c
        refine lv_iconst (v := nI 0) hx hb dX11_whatIs_98 kc_0 ?_
        refine lv_ior hx hb dX11_whatIs_99 ?_
        refine lv_istore (lv' := [(5, .int (v5 ||| (nI 0))), (0, .ref h0), (2, .int x2), (3, .int v3), (4, .int v4), (6, .int v6)]) hx hb dX11_whatIs_100 hl (by decide) rfl (fun ls hl => ?_)
        refine lv_iinc (v := v6 + nI 1) (lv' := [(6, .int (v6 + nI 1)), (5, .int (v5 ||| (nI 0))), (0, .ref h0), (2, .int x2), (3, .int v3), (4, .int v4)]) hx hb dX11_whatIs_102 hl (k := 5) rfl (congrArg (fun q => v6 + q) kc_1) (by decide) rfl (fun ls hl => ?_)
        refine lv_goto (tgt := 58) hx hb dX11_whatIs_105 (by decide) ?_
        exact hK58 v3 v4 (v5 ||| (nI 0)) (v6 + nI 1) (upd g_w v3.toNatClampNeg v6) g_refusals g_hit_85 g_lead_85 g_defeat_85 g_defeater_85 s_ins_85 s_outs_85 g_order_85 s_ordered_85 h _ _ _ (hP.sub [1, 2, 0, 3, 4, 5, 6, 7, 8] rfl) (hD.sub [1, 2, 0, 3, 4, 5, 6, 7, 8] (by decide) rfl) hS (lv_sub hl [2, 3, 4, 5, 1, 0] rfl)
      · replace h := h.2 c
        refine lv_iconst (v := nI 1) hx hb dX11_whatIs_91 kc_1 ?_
        refine lv_iload hx hb dX11_whatIs_92 (lv_at hl 5 rfl) ?_
        refine lv_ishl hx hb dX11_whatIs_94 ?_
        refine lv_goto (tgt := 99) hx hb dX11_whatIs_95 (by decide) ?_
        refine lv_ior hx hb dX11_whatIs_99 ?_
        refine lv_istore (lv' := [(5, .int (v5 ||| ((nI 1) <<< (v6 &&& 31)))), (0, .ref h0), (2, .int x2), (3, .int v3), (4, .int v4), (6, .int v6)]) hx hb dX11_whatIs_100 hl (by decide) rfl (fun ls hl => ?_)
        refine lv_iinc (v := v6 + nI 1) (lv' := [(6, .int (v6 + nI 1)), (5, .int (v5 ||| ((nI 1) <<< (v6 &&& 31)))), (0, .ref h0), (2, .int x2), (3, .int v3), (4, .int v4)]) hx hb dX11_whatIs_102 hl (k := 5) rfl (congrArg (fun q => v6 + q) kc_1) (by decide) rfl (fun ls hl => ?_)
        refine lv_goto (tgt := 58) hx hb dX11_whatIs_105 (by decide) ?_
        exact hK58 v3 v4 (v5 ||| ((nI 1) <<< (v6 &&& 31))) (v6 + nI 1) (upd g_w v3.toNatClampNeg v6) g_refusals g_hit_85 g_lead_85 g_defeat_85 g_defeater_85 s_ins_85 s_outs_85 g_order_85 s_ordered_85 h _ _ _ (hP.sub [1, 2, 0, 3, 4, 5, 6, 7, 8] rfl) (hD.sub [1, 2, 0, 3, 4, 5, 6, 7, 8] (by decide) rfl) hS (lv_sub hl [2, 3, 4, 5, 1, 0] rfl)
  have w58 : ∀ (n : Nat) (v3 : Int32) (v4 : Int32) (v5 : Int32) (v6 : Int32) (g_w : Nat → Int32) (g_refusals : Nat → Int32) (g_hit : Nat → Int32) (g_lead : Nat → Int32) (g_defeat : Nat → Int32) (g_defeater : Nat → Int32) (s_ins : Int32) (s_outs : Int32) (g_order : Nat → Int32) (s_ordered : Int32) , wp_X11_whatIs_58 post g_row s_rows x1 x2 n v3 v4 v5 v6 g_w g_refusals g_hit g_lead g_defeat g_defeater s_ins s_outs g_order s_ordered → ∀ (H : Heap) (locs : List Loc) (ls : Array Slot), va_P G.1 vwCl [ceX11 h0 a_w a_kept a_laid s_hasImage a_refusals a_row s_rows a_letters s_lettered a_hit a_lead a_defeat a_defeater s_ins s_outs a_order s_ordered a_is a_was s_reading s_isWell a_depths a_ways s_z, caI G a_w 43 g_w, caI G a_refusals 7 g_refusals, caI G a_row 12 g_row, caI G a_hit 8 g_hit, caI G a_lead 8 g_lead, caI G a_defeat 8 g_defeat, caI G a_defeater 8 g_defeater, caI G a_order 8 g_order] H → va_D A [ceX11 h0 a_w a_kept a_laid s_hasImage a_refusals a_row s_rows a_letters s_lettered a_hit a_lead a_defeat a_defeater s_ins s_outs a_order s_ordered a_is a_was s_reading s_isWell a_depths a_ways s_z, caI G a_w 43 g_w, caI G a_refusals 7 g_refusals, caI G a_row 12 g_row, caI G a_hit 8 g_hit, caI G a_lead 8 g_lead, caI G a_defeat 8 g_defeat, caI G a_defeater 8 g_defeater, caI G a_order 8 g_order] → va_S A s.heap H locs → lv_has ls 7 [(0, .ref h0), (2, .int x2), (3, .int v3), (4, .int v4), (5, .int v5), (6, .int v6)] → W p l e (headSpec wsX11_whatIs ({ frames := 6, cells := 0, slots := 0, locals := 128 })).room s m ([.ref h0, .int x1, .int x2] : List Value).toArray below meth c H locs 0 0 (MQ below (va_Qi (fun (r : Int32) (u : (Nat → Int32) × (Nat → Int32) × (Nat → Int32) × (Nat → Int32) × (Nat → Int32) × (Nat → Int32) × Int32 × Int32 × (Nat → Int32) × Int32) => post r u.1 u.2.1 u.2.2.1 u.2.2.2.1 u.2.2.2.2.1 u.2.2.2.2.2.1 u.2.2.2.2.2.2.1 u.2.2.2.2.2.2.2.1 u.2.2.2.2.2.2.2.2.1 u.2.2.2.2.2.2.2.2.2) (hcB G A (fun u : (Nat → Int32) × (Nat → Int32) × (Nat → Int32) × (Nat → Int32) × (Nat → Int32) × (Nat → Int32) × Int32 × Int32 × (Nat → Int32) × Int32 => [ceX11 h0 a_w a_kept a_laid s_hasImage a_refusals a_row s_rows a_letters s_lettered a_hit a_lead a_defeat a_defeater u.2.2.2.2.2.2.1 u.2.2.2.2.2.2.2.1 a_order u.2.2.2.2.2.2.2.2.2 a_is a_was s_reading s_isWell a_depths a_ways s_z, caI G a_w 43 u.1, caI G a_refusals 7 u.2.1, caI G a_row 12 g_row, caI G a_hit 8 u.2.2.1, caI G a_lead 8 u.2.2.2.1, caI G a_defeat 8 u.2.2.2.2.1, caI G a_defeater 8 u.2.2.2.2.2.1, caI G a_order 8 u.2.2.2.2.2.2.2.2.1])) A) ([.ref h0, .int x1, .int x2] : List Value).toArray s 0 0 A) (F0 m 58 ls []) := by
    intro n
    induction n with
    | zero => intro v3 v4 v5 v6 g_w g_refusals g_hit g_lead g_defeat g_defeater s_ins s_outs g_order s_ordered h; exact h.elim
    | succ n ih =>
      intro v3 v4 v5 v6 g_w g_refusals g_hit g_lead g_defeat g_defeater s_ins s_outs g_order s_ordered h H locs ls hP hD hS hl
      unfold wp_X11_whatIs_58 at h
      refine lv_iload hx hb dX11_whatIs_58 (lv_at hl 5 rfl) ?_
      refine lv_iload_n hx hb dX11_whatIs_60 rfl (lv_at hl 1 rfl) ?_
      refine lv_if_ne (tgt := 69) hx hb dX11_whatIs_61 (by decide) (fun c => ?_) (fun c => ?_)
      · replace h := h.1 c
        refine lv_bipush (v := nI 10) hx hb dX11_whatIs_69 kb_10 ?_
        exact w71 ((wp_X11_whatIs_58 post g_row s_rows x1 x2 n)) ih v3 v4 v5 v6 g_w g_refusals g_hit g_lead g_defeat g_defeater s_ins s_outs g_order s_ordered (nI 10) v6 h _ _ _ hP hD hS (lv_sub hl [0, 1, 2, 3, 4, 5] rfl)
      · replace h := h.2 c
        refine lv_bipush (v := nI 6) hx hb dX11_whatIs_64 kb_6 ?_
        refine lv_goto (tgt := 71) hx hb dX11_whatIs_66 (by decide) ?_
        exact w71 ((wp_X11_whatIs_58 post g_row s_rows x1 x2 n)) ih v3 v4 v5 v6 g_w g_refusals g_hit g_lead g_defeat g_defeater s_ins s_outs g_order s_ordered (nI 6) v6 h _ _ _ hP hD hS (lv_sub hl [0, 1, 2, 3, 4, 5] rfl)
  have w41 : ∀ (g_w : Nat → Int32) (g_refusals : Nat → Int32) (g_hit : Nat → Int32) (g_lead : Nat → Int32) (g_defeat : Nat → Int32) (g_defeater : Nat → Int32) (s_ins : Int32) (s_outs : Int32) (g_order : Nat → Int32) (s_ordered : Int32) (t0 : Int32) , wp_X11_whatIs_41 post g_row s_rows x1 x2 g_w g_refusals g_hit g_lead g_defeat g_defeater s_ins s_outs g_order s_ordered t0 → ∀ (H : Heap) (locs : List Loc) (ls : Array Slot), va_P G.1 vwCl [ceX11 h0 a_w a_kept a_laid s_hasImage a_refusals a_row s_rows a_letters s_lettered a_hit a_lead a_defeat a_defeater s_ins s_outs a_order s_ordered a_is a_was s_reading s_isWell a_depths a_ways s_z, caI G a_w 43 g_w, caI G a_refusals 7 g_refusals, caI G a_row 12 g_row, caI G a_hit 8 g_hit, caI G a_lead 8 g_lead, caI G a_defeat 8 g_defeat, caI G a_defeater 8 g_defeater, caI G a_order 8 g_order] H → va_D A [ceX11 h0 a_w a_kept a_laid s_hasImage a_refusals a_row s_rows a_letters s_lettered a_hit a_lead a_defeat a_defeater s_ins s_outs a_order s_ordered a_is a_was s_reading s_isWell a_depths a_ways s_z, caI G a_w 43 g_w, caI G a_refusals 7 g_refusals, caI G a_row 12 g_row, caI G a_hit 8 g_hit, caI G a_lead 8 g_lead, caI G a_defeat 8 g_defeat, caI G a_defeater 8 g_defeater, caI G a_order 8 g_order] → va_S A s.heap H locs → lv_has ls 7 [(0, .ref h0), (1, .int x1), (2, .int x2)] → W p l e (headSpec wsX11_whatIs ({ frames := 6, cells := 0, slots := 0, locals := 128 })).room s m ([.ref h0, .int x1, .int x2] : List Value).toArray below meth c H locs 0 0 (MQ below (va_Qi (fun (r : Int32) (u : (Nat → Int32) × (Nat → Int32) × (Nat → Int32) × (Nat → Int32) × (Nat → Int32) × (Nat → Int32) × Int32 × Int32 × (Nat → Int32) × Int32) => post r u.1 u.2.1 u.2.2.1 u.2.2.2.1 u.2.2.2.2.1 u.2.2.2.2.2.1 u.2.2.2.2.2.2.1 u.2.2.2.2.2.2.2.1 u.2.2.2.2.2.2.2.2.1 u.2.2.2.2.2.2.2.2.2) (hcB G A (fun u : (Nat → Int32) × (Nat → Int32) × (Nat → Int32) × (Nat → Int32) × (Nat → Int32) × (Nat → Int32) × Int32 × Int32 × (Nat → Int32) × Int32 => [ceX11 h0 a_w a_kept a_laid s_hasImage a_refusals a_row s_rows a_letters s_lettered a_hit a_lead a_defeat a_defeater u.2.2.2.2.2.2.1 u.2.2.2.2.2.2.2.1 a_order u.2.2.2.2.2.2.2.2.2 a_is a_was s_reading s_isWell a_depths a_ways s_z, caI G a_w 43 u.1, caI G a_refusals 7 u.2.1, caI G a_row 12 g_row, caI G a_hit 8 u.2.2.1, caI G a_lead 8 u.2.2.2.1, caI G a_defeat 8 u.2.2.2.2.1, caI G a_defeater 8 u.2.2.2.2.2.1, caI G a_order 8 u.2.2.2.2.2.2.2.2.1])) A) ([.ref h0, .int x1, .int x2] : List Value).toArray s 0 0 A) (F0 m 41 ls [.int t0]) := by
    intro g_w g_refusals g_hit g_lead g_defeat g_defeater s_ins s_outs g_order s_ordered t0 h H locs ls hP hD hS hl
    unfold wp_X11_whatIs_41 at h
    refine lv_iload_n hx hb dX11_whatIs_41 rfl (lv_at hl 1 rfl) ?_
    refine lv_iadd hx hb dX11_whatIs_42 ?_
    refine lv_istore_n (lv' := [(3, .int (t0 + x1)), (0, .ref h0), (1, .int x1), (2, .int x2)]) hx hb dX11_whatIs_43 rfl hl (by decide) rfl (fun ls hl => ?_)
    refine lv_aload_n hx hb dX11_whatIs_44 rfl (lv_at hl 1 rfl) ?_
    refine va_get (D := G.1) (ci := 9) (v := .ref a_w) (C := RX11) (T := TX11) (N := 24) hx hb hts ki_X11 hown hK.1 hP 0 rfl rfl 0 (by decide) kf0 (fun _ h9 => h9) rfl dX11_whatIs_45 ?_
    refine lv_iload_n hx hb dX11_whatIs_48 rfl (lv_at hl 0 rfl) ?_
    have hin := h.1
    replace h := h.2
    refine va_iald hx hb hK.1 hP 1 0 rfl rfl hin dX11_whatIs_49 ?_
    refine lv_istore (lv' := [(4, .int (g_w (t0 + x1).toNatClampNeg)), (3, .int (t0 + x1)), (0, .ref h0), (1, .int x1), (2, .int x2)]) hx hb dX11_whatIs_50 hl (by decide) rfl (fun ls hl => ?_)
    refine lv_iconst (v := nI 0) hx hb dX11_whatIs_52 kc_0 ?_
    refine lv_istore (lv' := [(5, .int (nI 0)), (4, .int (g_w (t0 + x1).toNatClampNeg)), (3, .int (t0 + x1)), (0, .ref h0), (1, .int x1), (2, .int x2)]) hx hb dX11_whatIs_53 hl (by decide) rfl (fun ls hl => ?_)
    refine lv_iconst (v := nI 0) hx hb dX11_whatIs_55 kc_0 ?_
    refine lv_istore (lv' := [(6, .int (nI 0)), (5, .int (nI 0)), (4, .int (g_w (t0 + x1).toNatClampNeg)), (3, .int (t0 + x1)), (0, .ref h0), (1, .int x1), (2, .int x2)]) hx hb dX11_whatIs_56 hl (by decide) rfl (fun ls hl => ?_)
    obtain ⟨n58, h⟩ := h
    exact w58  n58 (t0 + x1) (g_w (t0 + x1).toNatClampNeg) (nI 0) (nI 0) g_w g_refusals g_hit g_lead g_defeat g_defeater s_ins s_outs g_order s_ordered h _ _ _ hP hD hS (lv_sub hl [4, 6, 3, 2, 1, 0] rfl)
  unfold wp_X11_whatIs at h
  refine lv_aload_n hx hb dX11_whatIs_0 rfl (lv_at hl 0 rfl) ?_
  refine lv_iload_n hx hb dX11_whatIs_1 rfl (lv_at hl 1 rfl) ?_
  refine hc_ki (wr := [caI G a_refusals 7 g_refusals, caI G a_row 12 g_row, caI G a_hit 8 g_hit, caI G a_lead 8 g_lead, caI G a_defeat 8 g_defeat, caI G a_defeater 8 g_defeater, caI G a_order 8 g_order]) (va_runV (As := [.int x1]) (rest := []) ⟨hx, hb, hml, hown, hts⟩ (c_X11_isClaim l G h0 a_w a_kept a_laid a_refusals a_row a_letters a_hit a_lead a_defeat a_defeater a_order a_is a_was a_depths a_ways s.heap.size s_hasImage s_rows s_lettered s_ins s_outs s_ordered s_reading s_isWell s_z g_w x1 _ h) (cwV 1 hts gX11_whatIs_X11_isClaim rfl rfl rfl (by decide +kernel) ⟨Nat.le_of_ble_eq_true rfl, Nat.le_of_ble_eq_true rfl⟩) (hc_pV hK hP hD [0, 1] rfl rfl (ci := 9) 0 rfl rfl) rfl rfl hl.1 rfl (lv_room (Nat.le_of_ble_eq_true rfl)) dX11_whatIs_2 ⟨Nat.le_refl _, Nat.le_refl _⟩) hP hD hS hA [0, 1] [2, 3, 4, 5, 6, 7, 8] rfl rfl rfl (by decide) (fun r2 u H locs h hP hD hS => ?_)
  try dsimp only at h
  have hP : va_P G.1 vwCl [caI G a_refusals 7 g_refusals, caI G a_row 12 g_row, caI G a_hit 8 g_hit, caI G a_lead 8 g_lead, caI G a_defeat 8 g_defeat, caI G a_defeater 8 g_defeater, caI G a_order 8 g_order, ceX11 h0 a_w a_kept a_laid s_hasImage a_refusals a_row s_rows a_letters s_lettered a_hit a_lead a_defeat a_defeater s_ins s_outs a_order s_ordered a_is a_was s_reading s_isWell a_depths a_ways s_z, caI G a_w 43 g_w] H := hP
  have hD : va_D A [caI G a_refusals 7 g_refusals, caI G a_row 12 g_row, caI G a_hit 8 g_hit, caI G a_lead 8 g_lead, caI G a_defeat 8 g_defeat, caI G a_defeater 8 g_defeater, caI G a_order 8 g_order, ceX11 h0 a_w a_kept a_laid s_hasImage a_refusals a_row s_rows a_letters s_lettered a_hit a_lead a_defeat a_defeater s_ins s_outs a_order s_ordered a_is a_was s_reading s_isWell a_depths a_ways s_z, caI G a_w 43 g_w] := hD
  refine lv_if_ne (tgt := 14) hx hb dX11_whatIs_5 (by decide) (fun c => ?_) (fun c => ?_)
  · replace h := h.1 c
    refine lv_iload_n hx hb dX11_whatIs_14 rfl (lv_at hl 2 rfl) ?_
    refine lv_i2l (v := x2.toInt64) hx hb dX11_whatIs_15 rfl ?_
    refine lv_lconst (v := lN 0) hx hb dX11_whatIs_16 kl_0 ?_
    refine lv_lconst (v := lN 1) hx hb dX11_whatIs_17 kl_1 ?_
    refine hc_ki (wr := [caI G a_refusals 7 g_refusals, caI G a_row 12 g_row, caI G a_hit 8 g_hit, caI G a_lead 8 g_lead, caI G a_defeat 8 g_defeat, caI G a_defeater 8 g_defeater, caI G a_order 8 g_order, ceX11 h0 a_w a_kept a_laid s_hasImage a_refusals a_row s_rows a_letters s_lettered a_hit a_lead a_defeat a_defeater s_ins s_outs a_order s_ordered a_is a_was s_reading s_isWell a_depths a_ways s_z, caI G a_w 43 g_w]) (va_runS (As := [.long x2.toInt64, .long (lN 0), .long (lN 1)]) (rest := []) ⟨hx, hb, hml, hown, hts⟩ (c_X11_in l G H.size x2.toInt64 (lN 0) (lN 1) _ h) (va_cwS 3 hts gX11_whatIs_X11_in rfl rfl rfl (by decide +kernel) ⟨Nat.le_of_ble_eq_true rfl, Nat.le_of_ble_eq_true rfl⟩) (hc_pS hK hP hD [] rfl rfl) rfl rfl hl.1 rfl (lv_room (Nat.le_of_ble_eq_true rfl)) dX11_whatIs_18 ⟨Nat.le_refl _, Nat.le_refl _⟩) hP hD hS hA [] [0, 1, 2, 3, 4, 5, 6, 7, 8] rfl rfl rfl (by decide) (fun r18 u H locs h hP hD hS => ?_)
    try dsimp only at h
    have hP : va_P G.1 vwCl [caI G a_refusals 7 g_refusals, caI G a_row 12 g_row, caI G a_hit 8 g_hit, caI G a_lead 8 g_lead, caI G a_defeat 8 g_defeat, caI G a_defeater 8 g_defeater, caI G a_order 8 g_order, ceX11 h0 a_w a_kept a_laid s_hasImage a_refusals a_row s_rows a_letters s_lettered a_hit a_lead a_defeat a_defeater s_ins s_outs a_order s_ordered a_is a_was s_reading s_isWell a_depths a_ways s_z, caI G a_w 43 g_w] H := hP
    have hD : va_D A [caI G a_refusals 7 g_refusals, caI G a_row 12 g_row, caI G a_hit 8 g_hit, caI G a_lead 8 g_lead, caI G a_defeat 8 g_defeat, caI G a_defeater 8 g_defeater, caI G a_order 8 g_order, ceX11 h0 a_w a_kept a_laid s_hasImage a_refusals a_row s_rows a_letters s_lettered a_hit a_lead a_defeat a_defeater s_ins s_outs a_order s_ordered a_is a_was s_reading s_isWell a_depths a_ways s_z, caI G a_w 43 g_w] := hD
    refine lv_if_ne (tgt := 31) hx hb dX11_whatIs_21 (by decide) (fun c => ?_) (fun c => ?_)
    · replace h := h.1 c
      refine lv_iload_n hx hb dX11_whatIs_31 rfl (lv_at hl 2 rfl) ?_
      refine lv_if_ne (tgt := 39) hx hb dX11_whatIs_32 (by decide) (fun c => ?_) (fun c => ?_)
      · replace h := h.1 c
        refine lv_bipush (v := nI 8) hx hb dX11_whatIs_39 kb_8 ?_
        exact w41  g_w g_refusals g_hit g_lead g_defeat g_defeater s_ins s_outs g_order s_ordered (nI 8) h _ _ _ (hP.sub [7, 8, 0, 1, 2, 3, 4, 5, 6] rfl) (hD.sub [7, 8, 0, 1, 2, 3, 4, 5, 6] (by decide) rfl) hS (lv_sub hl [0, 1, 2] rfl)
      · replace h := h.2 c
        refine lv_iconst (v := nI 0) hx hb dX11_whatIs_35 kc_0 ?_
        refine lv_goto (tgt := 41) hx hb dX11_whatIs_36 (by decide) ?_
        exact w41  g_w g_refusals g_hit g_lead g_defeat g_defeater s_ins s_outs g_order s_ordered (nI 0) h _ _ _ (hP.sub [7, 8, 0, 1, 2, 3, 4, 5, 6] rfl) (hD.sub [7, 8, 0, 1, 2, 3, 4, 5, 6] (by decide) rfl) hS (lv_sub hl [0, 1, 2] rfl)
    · replace h := h.2 c
      refine lv_aload_n hx hb dX11_whatIs_24 rfl (lv_at hl 0 rfl) ?_
      refine lv_bipush (v := (-2 : Int32)) hx hb dX11_whatIs_25 kb_m2 ?_
      refine hc_ki (wr := [caI G a_row 12 g_row, caI G a_hit 8 g_hit, caI G a_lead 8 g_lead, caI G a_defeat 8 g_defeat, caI G a_defeater 8 g_defeater, caI G a_order 8 g_order, caI G a_w 43 g_w]) (va_runV (As := [.int ((-2 : Int32))]) (rest := []) ⟨hx, hb, hml, hown, hts⟩ (c_X11_refused l G h0 a_w a_kept a_laid a_refusals a_row a_letters a_hit a_lead a_defeat a_defeater a_order a_is a_was a_depths a_ways H.size s_hasImage s_rows s_lettered s_ins s_outs s_ordered s_reading s_isWell s_z g_refusals ((-2 : Int32)) _ h) (cwV 1 hts gX11_whatIs_X11_refused rfl rfl rfl (by decide +kernel) ⟨Nat.le_of_ble_eq_true rfl, Nat.le_of_ble_eq_true rfl⟩) (hc_pV hK hP hD [7, 0] rfl rfl (ci := 9) 7 rfl rfl) rfl rfl hl.1 rfl (lv_room (Nat.le_of_ble_eq_true rfl)) dX11_whatIs_27 ⟨Nat.le_refl _, Nat.le_refl _⟩) hP hD hS hA [7, 0] [1, 2, 3, 4, 5, 6, 8] rfl rfl rfl (by decide) (fun r27 u H locs h hP hD hS => ?_)
      obtain ⟨g_refusals_27, rfl⟩ : ∃ z, z = u := ⟨_, rfl⟩
      try dsimp only at h
      have hP : va_P G.1 vwCl [caI G a_row 12 g_row, caI G a_hit 8 g_hit, caI G a_lead 8 g_lead, caI G a_defeat 8 g_defeat, caI G a_defeater 8 g_defeater, caI G a_order 8 g_order, caI G a_w 43 g_w, ceX11 h0 a_w a_kept a_laid s_hasImage a_refusals a_row s_rows a_letters s_lettered a_hit a_lead a_defeat a_defeater s_ins s_outs a_order s_ordered a_is a_was s_reading s_isWell a_depths a_ways s_z, caI G a_refusals 7 g_refusals_27] H := hP
      have hD : va_D A [caI G a_row 12 g_row, caI G a_hit 8 g_hit, caI G a_lead 8 g_lead, caI G a_defeat 8 g_defeat, caI G a_defeater 8 g_defeater, caI G a_order 8 g_order, caI G a_w 43 g_w, ceX11 h0 a_w a_kept a_laid s_hasImage a_refusals a_row s_rows a_letters s_lettered a_hit a_lead a_defeat a_defeater s_ins s_outs a_order s_ordered a_is a_was s_reading s_isWell a_depths a_ways s_z, caI G a_refusals 7 g_refusals_27] := hD
      exact W.iret (v := r27) hx hb hr (fun t ht hW => ⟨⟨_, ⟨g_w, g_refusals_27, g_hit, g_lead, g_defeat, g_defeater, s_ins, s_outs, g_order, s_ordered⟩, rfl, h, ⟨by rw [ht]; exact (hP.sub [7, 6, 8, 0, 1, 2, 3, 4, 5] rfl), (hD.sub [7, 6, 8, 0, 1, 2, 3, 4, 5] (by decide) rfl)⟩⟩, hS.F ht⟩) hS.2.2 dX11_whatIs_30
  · replace h := h.2 c
    refine lv_aload_n hx hb dX11_whatIs_8 rfl (lv_at hl 0 rfl) ?_
    refine lv_iconst (v := (-1 : Int32)) hx hb dX11_whatIs_9 kc_m1 ?_
    refine hc_ki (wr := [caI G a_row 12 g_row, caI G a_hit 8 g_hit, caI G a_lead 8 g_lead, caI G a_defeat 8 g_defeat, caI G a_defeater 8 g_defeater, caI G a_order 8 g_order, caI G a_w 43 g_w]) (va_runV (As := [.int ((-1 : Int32))]) (rest := []) ⟨hx, hb, hml, hown, hts⟩ (c_X11_refused l G h0 a_w a_kept a_laid a_refusals a_row a_letters a_hit a_lead a_defeat a_defeater a_order a_is a_was a_depths a_ways H.size s_hasImage s_rows s_lettered s_ins s_outs s_ordered s_reading s_isWell s_z g_refusals ((-1 : Int32)) _ h) (cwV 1 hts gX11_whatIs_X11_refused rfl rfl rfl (by decide +kernel) ⟨Nat.le_of_ble_eq_true rfl, Nat.le_of_ble_eq_true rfl⟩) (hc_pV hK hP hD [7, 0] rfl rfl (ci := 9) 7 rfl rfl) rfl rfl hl.1 rfl (lv_room (Nat.le_of_ble_eq_true rfl)) dX11_whatIs_10 ⟨Nat.le_refl _, Nat.le_refl _⟩) hP hD hS hA [7, 0] [1, 2, 3, 4, 5, 6, 8] rfl rfl rfl (by decide) (fun r10 u H locs h hP hD hS => ?_)
    obtain ⟨g_refusals_10, rfl⟩ : ∃ z, z = u := ⟨_, rfl⟩
    try dsimp only at h
    have hP : va_P G.1 vwCl [caI G a_row 12 g_row, caI G a_hit 8 g_hit, caI G a_lead 8 g_lead, caI G a_defeat 8 g_defeat, caI G a_defeater 8 g_defeater, caI G a_order 8 g_order, caI G a_w 43 g_w, ceX11 h0 a_w a_kept a_laid s_hasImage a_refusals a_row s_rows a_letters s_lettered a_hit a_lead a_defeat a_defeater s_ins s_outs a_order s_ordered a_is a_was s_reading s_isWell a_depths a_ways s_z, caI G a_refusals 7 g_refusals_10] H := hP
    have hD : va_D A [caI G a_row 12 g_row, caI G a_hit 8 g_hit, caI G a_lead 8 g_lead, caI G a_defeat 8 g_defeat, caI G a_defeater 8 g_defeater, caI G a_order 8 g_order, caI G a_w 43 g_w, ceX11 h0 a_w a_kept a_laid s_hasImage a_refusals a_row s_rows a_letters s_lettered a_hit a_lead a_defeat a_defeater s_ins s_outs a_order s_ordered a_is a_was s_reading s_isWell a_depths a_ways s_z, caI G a_refusals 7 g_refusals_10] := hD
    exact W.iret (v := r10) hx hb hr (fun t ht hW => ⟨⟨_, ⟨g_w, g_refusals_10, g_hit, g_lead, g_defeat, g_defeater, s_ins, s_outs, g_order, s_ordered⟩, rfl, h, ⟨by rw [ht]; exact (hP.sub [7, 6, 8, 0, 1, 2, 3, 4, 5] rfl), (hD.sub [7, 6, 8, 0, 1, 2, 3, 4, 5] (by decide) rfl)⟩⟩, hS.F ht⟩) hS.2.2 dX11_whatIs_13
set_option maxHeartbeats 4000000 in
set_option maxRecDepth 100000 in
theorem c_X11_row (l : Launch) (G : hcG) (h0 : Nat) (a_w : Nat) (a_kept : Nat) (a_laid : Nat) (a_refusals : Nat) (a_row : Nat) (a_letters : Nat) (a_hit : Nat) (a_lead : Nat) (a_defeat : Nat) (a_defeater : Nat) (a_order : Nat) (a_is : Nat) (a_was : Nat) (a_depths : Nat) (a_ways : Nat) (sz : Nat) (s_hasImage : Int32) (s_rows : Int32) (s_lettered : Int32) (s_ins : Int32) (s_outs : Int32) (s_ordered : Int32) (s_reading : Int32) (s_isWell : Int32) (s_z : Int32) (g_refusals : Nat → Int32) (g_row : Nat → Int32) (x1 : Int32) (post : Int32 → (Nat → Int32) → (Nat → Int32) → Int32 → Prop) (h : wp_X11_row post g_refusals g_row s_rows x1) : Met l yX11_row wsX11_row ({ frames := 1, cells := 0, slots := 0, locals := 25 }) (hcPc G [.ref h0, .int x1] [ceX11 h0 a_w a_kept a_laid s_hasImage a_refusals a_row s_rows a_letters s_lettered a_hit a_lead a_defeat a_defeater s_ins s_outs a_order s_ordered a_is a_was s_reading s_isWell a_depths a_ways s_z, caI G a_refusals 7 g_refusals, caI G a_row 12 g_row] sz) (va_Qi (fun (r : Int32) (u : (Nat → Int32) × (Nat → Int32) × Int32) => post r u.1 u.2.1 u.2.2) (hcB G (va_A [ceX11 h0 a_w a_kept a_laid s_hasImage a_refusals a_row s_rows a_letters s_lettered a_hit a_lead a_defeat a_defeater s_ins s_outs a_order s_ordered a_is a_was s_reading s_isWell a_depths a_ways s_z, caI G a_refusals 7 g_refusals, caI G a_row 12 g_row] sz) (fun u : (Nat → Int32) × (Nat → Int32) × Int32 => [ceX11 h0 a_w a_kept a_laid s_hasImage a_refusals a_row u.2.2 a_letters s_lettered a_hit a_lead a_defeat a_defeater s_ins s_outs a_order s_ordered a_is a_was s_reading s_isWell a_depths a_ways s_z, caI G a_refusals 7 u.1, caI G a_row 12 u.2.1])) (va_A [ceX11 h0 a_w a_kept a_laid s_hasImage a_refusals a_row s_rows a_letters s_lettered a_hit a_lead a_defeat a_defeater s_ins s_outs a_order s_ordered a_is a_was s_reading s_isWell a_depths a_ways s_z, caI G a_refusals 7 g_refusals, caI G a_row 12 g_row] sz)) 0 0 (va_A [ceX11 h0 a_w a_kept a_laid s_hasImage a_refusals a_row s_rows a_letters s_lettered a_hit a_lead a_defeat a_defeater s_ins s_outs a_order s_ordered a_is a_was s_reading s_isWell a_depths a_ways s_z, caI G a_refusals 7 g_refusals, caI G a_row 12 g_row] sz) := by
  refine Met.ofW (cc := cX11_row) (maxL := 2) (ret := (some .int)) (by decide) rfl ?_
  intro p e s m args below meth c s₁ B hml hv
  obtain ⟨rfl, hsz, hP, hK, hD0⟩ := hv
  have hx := B.exec
  have hb := B.bytes
  have hr := B.returns
  have hts := atoms_spec (ws := wsX11_row) B.pre
  have hown : s.vm.findClass RX11 = some m.cls := findClass_of_methodNamed B.named
  have hlocks := B.notSynchronized
  subst hsz
  have hD := hD0.self (sz := s.heap.size)
  generalize hAe : va_A [ceX11 h0 a_w a_kept a_laid s_hasImage a_refusals a_row s_rows a_letters s_lettered a_hit a_lead a_defeat a_defeater s_ins s_outs a_order s_ordered a_is a_was s_reading s_isWell a_depths a_ways s_z, caI G a_refusals 7 g_refusals, caI G a_row 12 g_row] s.heap.size = A at hD ⊢
  have hA : ∀ q : Nat, s.heap.size ≤ q → A q := fun q h => by rw [← hAe]; exact Or.inr h
  have hS : va_S A s.heap s.heap [] := va_S.rf
  have hP : va_P G.1 vwCl [ceX11 h0 a_w a_kept a_laid s_hasImage a_refusals a_row s_rows a_letters s_lettered a_hit a_lead a_defeat a_defeater s_ins s_outs a_order s_ordered a_is a_was s_reading s_isWell a_depths a_ways s_z, caI G a_refusals 7 g_refusals, caI G a_row 12 g_row] s.heap := hP
  have hl := lv_entry ([.ref h0, .int x1]) (n := 2) (Nat.le_of_ble_eq_true rfl)
  rw [lg_entry_eq]
  generalize (lg_sl ([.ref h0, .int x1]) ++ List.replicate (2 - (lg_sl ([.ref h0, .int x1])).length) Slot.unset).toArray = ls at hl ⊢
  have hl : lv_has ls 2 [(0, .ref h0), (1, .int x1)] := hl
  have kf0 := hts (.constantLong RX11 208 (9)) (List.mem_of_getElem? (i := 1) (by decide +kernel))
  have kf1 := hts (.fieldLink RX11 269 "HallOfClaimsModel" "rows" "I") (List.mem_of_getElem? (i := 2) (by decide +kernel))
  have kf2 := hts (.fieldLink RX11 22 "HallOfClaimsModel" "row" "[I") (List.mem_of_getElem? (i := 3) (by decide +kernel))
  have ki_X11 : ∀ w ∈ u_ws RX11 TX11 24, w ∈ wsX11_row := by decide +kernel
  unfold wp_X11_row at h
  refine lv_iload_n hx hb dX11_row_0 rfl (lv_at hl 1 rfl) ?_
  refine lv_i2l (v := x1.toInt64) hx hb dX11_row_1 rfl ?_
  refine lv_lconst (v := lN 0) hx hb dX11_row_2 kl_0 ?_
  refine lv_ldc2 (own := RX11) (v := 9) hx hb hown kf0 dX11_row_3 ?_
  refine hc_ki (wr := [ceX11 h0 a_w a_kept a_laid s_hasImage a_refusals a_row s_rows a_letters s_lettered a_hit a_lead a_defeat a_defeater s_ins s_outs a_order s_ordered a_is a_was s_reading s_isWell a_depths a_ways s_z, caI G a_refusals 7 g_refusals, caI G a_row 12 g_row]) (va_runS (As := [.long x1.toInt64, .long (lN 0), .long ((9 : Int64))]) (rest := []) ⟨hx, hb, hml, hown, hts⟩ (c_X11_in l G s.heap.size x1.toInt64 (lN 0) ((9 : Int64)) _ h) (va_cwS 3 hts gX11_row_X11_in rfl rfl rfl (by decide +kernel) ⟨Nat.le_of_ble_eq_true rfl, Nat.le_of_ble_eq_true rfl⟩) (hc_pS hK hP hD [] rfl rfl) rfl rfl hl.1 rfl (lv_room (Nat.le_of_ble_eq_true rfl)) dX11_row_6 ⟨Nat.le_refl _, Nat.le_refl _⟩) hP hD hS hA [] [0, 1, 2] rfl rfl rfl (by decide) (fun r6 u H locs h hP hD hS => ?_)
  try dsimp only at h
  have hP : va_P G.1 vwCl [ceX11 h0 a_w a_kept a_laid s_hasImage a_refusals a_row s_rows a_letters s_lettered a_hit a_lead a_defeat a_defeater s_ins s_outs a_order s_ordered a_is a_was s_reading s_isWell a_depths a_ways s_z, caI G a_refusals 7 g_refusals, caI G a_row 12 g_row] H := hP
  have hD : va_D A [ceX11 h0 a_w a_kept a_laid s_hasImage a_refusals a_row s_rows a_letters s_lettered a_hit a_lead a_defeat a_defeater s_ins s_outs a_order s_ordered a_is a_was s_reading s_isWell a_depths a_ways s_z, caI G a_refusals 7 g_refusals, caI G a_row 12 g_row] := hD
  refine lv_if_ne (tgt := 28) hx hb dX11_row_9 (by decide) (fun c => ?_) (fun c => ?_)
  · replace h := h.1 c
    refine lv_aload_n hx hb dX11_row_28 rfl (lv_at hl 0 rfl) ?_
    refine va_get (D := G.1) (ci := 9) (v := .int s_rows) (C := RX11) (T := TX11) (N := 24) hx hb hts ki_X11 hown hK.1 hP 0 rfl rfl 6 (by decide) kf1 (fun _ h9 => h9) rfl dX11_row_29 ?_
    refine lv_bipush (v := nI 12) hx hb dX11_row_32 kb_12 ?_
    refine lv_icmp_ne (tgt := 44) hx hb dX11_row_34 (by decide) (fun c => ?_) (fun c => ?_)
    · replace h := h.1 c
      refine lv_aload_n hx hb dX11_row_44 rfl (lv_at hl 0 rfl) ?_
      refine va_get (D := G.1) (ci := 9) (v := .ref a_row) (C := RX11) (T := TX11) (N := 24) hx hb hts ki_X11 hown hK.1 hP 0 rfl rfl 5 (by decide) kf2 (fun _ h9 => h9) rfl dX11_row_45 ?_
      refine lv_aload_n hx hb dX11_row_48 rfl (lv_at hl 0 rfl) ?_
      refine va_get (D := G.1) (ci := 9) (v := .int s_rows) (C := RX11) (T := TX11) (N := 24) hx hb hts ki_X11 hown hK.1 hP 0 rfl rfl 6 (by decide) kf1 (fun _ h9 => h9) rfl dX11_row_49 ?_
      refine lv_iload_n hx hb dX11_row_52 rfl (lv_at hl 1 rfl) ?_
      have hin := h.1
      replace h := h.2
      refine va_iast hx hb hK.1 hP hD hS 2 0 rfl rfl hin dX11_row_53 (fun H locs hP hD hS => ?_)
      have hP : va_P G.1 vwCl [ceX11 h0 a_w a_kept a_laid s_hasImage a_refusals a_row s_rows a_letters s_lettered a_hit a_lead a_defeat a_defeater s_ins s_outs a_order s_ordered a_is a_was s_reading s_isWell a_depths a_ways s_z, caI G a_refusals 7 g_refusals, caI G a_row 12 (upd g_row s_rows.toNatClampNeg x1)] H := hP
      have hD : va_D A [ceX11 h0 a_w a_kept a_laid s_hasImage a_refusals a_row s_rows a_letters s_lettered a_hit a_lead a_defeat a_defeater s_ins s_outs a_order s_ordered a_is a_was s_reading s_isWell a_depths a_ways s_z, caI G a_refusals 7 g_refusals, caI G a_row 12 (upd g_row s_rows.toNatClampNeg x1)] := hD
      refine lv_aload_n hx hb dX11_row_54 rfl (lv_at hl 0 rfl) ?_
      refine lv_dup hx hb dX11_row_55 rfl ?_
      refine va_get (D := G.1) (ci := 9) (v := .int s_rows) (C := RX11) (T := TX11) (N := 24) hx hb hts ki_X11 hown hK.1 hP 0 rfl rfl 6 (by decide) kf1 (fun _ h9 => h9) rfl dX11_row_56 ?_
      refine lv_iconst (v := nI 1) hx hb dX11_row_59 kc_1 ?_
      refine lv_iadd hx hb dX11_row_60 ?_
      refine va_put (D := G.1) (ci := 9) (v := .int (s_rows + (nI 1))) (ty := .int) (C := RX11) (T := TX11) (N := 24) hx hb hts ki_X11 tyX11 tyX11_ok nmX11 hown hK.1 hP hD hS 0 rfl rfl 6 (by decide) kf1 (fun _ h9 => h9) rfl (by decide +kernel) rfl rfl (Nat.le_of_ble_eq_true rfl) dX11_row_61 (fun H locs hP hD hS => ?_)
      have hP : va_P G.1 vwCl [ceX11 h0 a_w a_kept a_laid s_hasImage a_refusals a_row (s_rows + (nI 1)) a_letters s_lettered a_hit a_lead a_defeat a_defeater s_ins s_outs a_order s_ordered a_is a_was s_reading s_isWell a_depths a_ways s_z, caI G a_refusals 7 g_refusals, caI G a_row 12 (upd g_row s_rows.toNatClampNeg x1)] H := hP
      have hD : va_D A [ceX11 h0 a_w a_kept a_laid s_hasImage a_refusals a_row (s_rows + (nI 1)) a_letters s_lettered a_hit a_lead a_defeat a_defeater s_ins s_outs a_order s_ordered a_is a_was s_reading s_isWell a_depths a_ways s_z, caI G a_refusals 7 g_refusals, caI G a_row 12 (upd g_row s_rows.toNatClampNeg x1)] := hD
      refine lv_aload_n hx hb dX11_row_64 rfl (lv_at hl 0 rfl) ?_
      refine va_get (D := G.1) (ci := 9) (v := .int (s_rows + (nI 1))) (C := RX11) (T := TX11) (N := 24) hx hb hts ki_X11 hown hK.1 hP 0 rfl rfl 6 (by decide) kf1 (fun _ h9 => h9) rfl dX11_row_65 ?_
      exact W.iret (v := s_rows + (nI 1)) hx hb hr (fun t ht hW => ⟨⟨_, ⟨g_refusals, (upd g_row s_rows.toNatClampNeg x1), (s_rows + (nI 1))⟩, rfl, h, ⟨by rw [ht]; exact hP, hD⟩⟩, hS.F ht⟩) hS.2.2 dX11_row_68
    · replace h := h.2 c
      refine lv_aload_n hx hb dX11_row_37 rfl (lv_at hl 0 rfl) ?_
      refine lv_bipush (v := (-6 : Int32)) hx hb dX11_row_38 kb_m6 ?_
      refine hc_ki (wr := [caI G a_row 12 g_row]) (va_runV (As := [.int ((-6 : Int32))]) (rest := []) ⟨hx, hb, hml, hown, hts⟩ (c_X11_refused l G h0 a_w a_kept a_laid a_refusals a_row a_letters a_hit a_lead a_defeat a_defeater a_order a_is a_was a_depths a_ways H.size s_hasImage s_rows s_lettered s_ins s_outs s_ordered s_reading s_isWell s_z g_refusals ((-6 : Int32)) _ h) (cwV 1 hts gX11_row_X11_refused rfl rfl rfl (by decide +kernel) ⟨Nat.le_of_ble_eq_true rfl, Nat.le_of_ble_eq_true rfl⟩) (hc_pV hK hP hD [0, 1] rfl rfl (ci := 9) 0 rfl rfl) rfl rfl hl.1 rfl (lv_room (Nat.le_of_ble_eq_true rfl)) dX11_row_40 ⟨Nat.le_refl _, Nat.le_refl _⟩) hP hD hS hA [0, 1] [2] rfl rfl rfl (by decide) (fun r40 u H locs h hP hD hS => ?_)
      obtain ⟨g_refusals_40, rfl⟩ : ∃ z, z = u := ⟨_, rfl⟩
      try dsimp only at h
      have hP : va_P G.1 vwCl [caI G a_row 12 g_row, ceX11 h0 a_w a_kept a_laid s_hasImage a_refusals a_row s_rows a_letters s_lettered a_hit a_lead a_defeat a_defeater s_ins s_outs a_order s_ordered a_is a_was s_reading s_isWell a_depths a_ways s_z, caI G a_refusals 7 g_refusals_40] H := hP
      have hD : va_D A [caI G a_row 12 g_row, ceX11 h0 a_w a_kept a_laid s_hasImage a_refusals a_row s_rows a_letters s_lettered a_hit a_lead a_defeat a_defeater s_ins s_outs a_order s_ordered a_is a_was s_reading s_isWell a_depths a_ways s_z, caI G a_refusals 7 g_refusals_40] := hD
      exact W.iret (v := r40) hx hb hr (fun t ht hW => ⟨⟨_, ⟨g_refusals_40, g_row, s_rows⟩, rfl, h, ⟨by rw [ht]; exact (hP.sub [1, 2, 0] rfl), (hD.sub [1, 2, 0] (by decide) rfl)⟩⟩, hS.F ht⟩) hS.2.2 dX11_row_43
  · replace h := h.2 c
    refine lv_aload_n hx hb dX11_row_12 rfl (lv_at hl 0 rfl) ?_
    refine lv_iload_n hx hb dX11_row_13 rfl (lv_at hl 1 rfl) ?_
    refine lv_if_ge (tgt := 22) hx hb dX11_row_14 (by decide) (fun c => ?_) (fun c => ?_)
    · replace h := h.1 c
      refine lv_bipush (v := (-6 : Int32)) hx hb dX11_row_22 kb_m6 ?_
      refine hc_ki (wr := [caI G a_row 12 g_row]) (va_runV (As := [.int ((-6 : Int32))]) (rest := []) ⟨hx, hb, hml, hown, hts⟩ (c_X11_refused l G h0 a_w a_kept a_laid a_refusals a_row a_letters a_hit a_lead a_defeat a_defeater a_order a_is a_was a_depths a_ways H.size s_hasImage s_rows s_lettered s_ins s_outs s_ordered s_reading s_isWell s_z g_refusals ((-6 : Int32)) _ h) (cwV 1 hts gX11_row_X11_refused rfl rfl rfl (by decide +kernel) ⟨Nat.le_of_ble_eq_true rfl, Nat.le_of_ble_eq_true rfl⟩) (hc_pV hK hP hD [0, 1] rfl rfl (ci := 9) 0 rfl rfl) rfl rfl hl.1 rfl (lv_room (Nat.le_of_ble_eq_true rfl)) dX11_row_24 ⟨Nat.le_refl _, Nat.le_refl _⟩) hP hD hS hA [0, 1] [2] rfl rfl rfl (by decide) (fun r24 u H locs h hP hD hS => ?_)
      obtain ⟨g_refusals_24, rfl⟩ : ∃ z, z = u := ⟨_, rfl⟩
      try dsimp only at h
      have hP : va_P G.1 vwCl [caI G a_row 12 g_row, ceX11 h0 a_w a_kept a_laid s_hasImage a_refusals a_row s_rows a_letters s_lettered a_hit a_lead a_defeat a_defeater s_ins s_outs a_order s_ordered a_is a_was s_reading s_isWell a_depths a_ways s_z, caI G a_refusals 7 g_refusals_24] H := hP
      have hD : va_D A [caI G a_row 12 g_row, ceX11 h0 a_w a_kept a_laid s_hasImage a_refusals a_row s_rows a_letters s_lettered a_hit a_lead a_defeat a_defeater s_ins s_outs a_order s_ordered a_is a_was s_reading s_isWell a_depths a_ways s_z, caI G a_refusals 7 g_refusals_24] := hD
      exact W.iret (v := r24) hx hb hr (fun t ht hW => ⟨⟨_, ⟨g_refusals_24, g_row, s_rows⟩, rfl, h, ⟨by rw [ht]; exact (hP.sub [1, 2, 0] rfl), (hD.sub [1, 2, 0] (by decide) rfl)⟩⟩, hS.F ht⟩) hS.2.2 dX11_row_27
    · replace h := h.2 c
      refine lv_bipush (v := (-4 : Int32)) hx hb dX11_row_17 kb_m4 ?_
      refine lv_goto (tgt := 24) hx hb dX11_row_19 (by decide) ?_
      refine hc_ki (wr := [caI G a_row 12 g_row]) (va_runV (As := [.int ((-4 : Int32))]) (rest := []) ⟨hx, hb, hml, hown, hts⟩ (c_X11_refused l G h0 a_w a_kept a_laid a_refusals a_row a_letters a_hit a_lead a_defeat a_defeater a_order a_is a_was a_depths a_ways H.size s_hasImage s_rows s_lettered s_ins s_outs s_ordered s_reading s_isWell s_z g_refusals ((-4 : Int32)) _ h) (cwV 1 hts gX11_row_X11_refused rfl rfl rfl (by decide +kernel) ⟨Nat.le_of_ble_eq_true rfl, Nat.le_of_ble_eq_true rfl⟩) (hc_pV hK hP hD [0, 1] rfl rfl (ci := 9) 0 rfl rfl) rfl rfl hl.1 rfl (lv_room (Nat.le_of_ble_eq_true rfl)) dX11_row_24 ⟨Nat.le_refl _, Nat.le_refl _⟩) hP hD hS hA [0, 1] [2] rfl rfl rfl (by decide) (fun r24 u H locs h hP hD hS => ?_)
      obtain ⟨g_refusals_24, rfl⟩ : ∃ z, z = u := ⟨_, rfl⟩
      try dsimp only at h
      have hP : va_P G.1 vwCl [caI G a_row 12 g_row, ceX11 h0 a_w a_kept a_laid s_hasImage a_refusals a_row s_rows a_letters s_lettered a_hit a_lead a_defeat a_defeater s_ins s_outs a_order s_ordered a_is a_was s_reading s_isWell a_depths a_ways s_z, caI G a_refusals 7 g_refusals_24] H := hP
      have hD : va_D A [caI G a_row 12 g_row, ceX11 h0 a_w a_kept a_laid s_hasImage a_refusals a_row s_rows a_letters s_lettered a_hit a_lead a_defeat a_defeater s_ins s_outs a_order s_ordered a_is a_was s_reading s_isWell a_depths a_ways s_z, caI G a_refusals 7 g_refusals_24] := hD
      exact W.iret (v := r24) hx hb hr (fun t ht hW => ⟨⟨_, ⟨g_refusals_24, g_row, s_rows⟩, rfl, h, ⟨by rw [ht]; exact (hP.sub [1, 2, 0] rfl), (hD.sub [1, 2, 0] (by decide) rfl)⟩⟩, hS.F ht⟩) hS.2.2 dX11_row_27
set_option maxHeartbeats 4000000 in
set_option maxRecDepth 100000 in
theorem c_X11_toldOf (l : Launch) (G : hcG) (h0 : Nat) (a_w : Nat) (a_kept : Nat) (a_laid : Nat) (a_refusals : Nat) (a_row : Nat) (a_letters : Nat) (a_hit : Nat) (a_lead : Nat) (a_defeat : Nat) (a_defeater : Nat) (a_order : Nat) (a_is : Nat) (a_was : Nat) (a_depths : Nat) (a_ways : Nat) (sz : Nat) (s_hasImage : Int32) (s_rows : Int32) (s_lettered : Int32) (s_ins : Int32) (s_outs : Int32) (s_ordered : Int32) (s_reading : Int32) (s_isWell : Int32) (s_z : Int32) (g_row : Nat → Int32) (x1 : Int32) (post : Int32 → Prop) (h : wp_X11_toldOf post g_row s_rows x1) : Met l yX11_toldOf wsX11_toldOf ({ frames := 0, cells := 0, slots := 0, locals := 0 }) (hcPc G [.ref h0, .int x1] [ceX11 h0 a_w a_kept a_laid s_hasImage a_refusals a_row s_rows a_letters s_lettered a_hit a_lead a_defeat a_defeater s_ins s_outs a_order s_ordered a_is a_was s_reading s_isWell a_depths a_ways s_z, caI G a_row 12 g_row] sz) (va_Qi (fun (r : Int32) (u : Unit) => post r) (hcB G (va_A [ceX11 h0 a_w a_kept a_laid s_hasImage a_refusals a_row s_rows a_letters s_lettered a_hit a_lead a_defeat a_defeater s_ins s_outs a_order s_ordered a_is a_was s_reading s_isWell a_depths a_ways s_z, caI G a_row 12 g_row] sz) (fun u : Unit => [ceX11 h0 a_w a_kept a_laid s_hasImage a_refusals a_row s_rows a_letters s_lettered a_hit a_lead a_defeat a_defeater s_ins s_outs a_order s_ordered a_is a_was s_reading s_isWell a_depths a_ways s_z, caI G a_row 12 g_row])) (va_A [ceX11 h0 a_w a_kept a_laid s_hasImage a_refusals a_row s_rows a_letters s_lettered a_hit a_lead a_defeat a_defeater s_ins s_outs a_order s_ordered a_is a_was s_reading s_isWell a_depths a_ways s_z, caI G a_row 12 g_row] sz)) 0 0 (va_A [ceX11 h0 a_w a_kept a_laid s_hasImage a_refusals a_row s_rows a_letters s_lettered a_hit a_lead a_defeat a_defeater s_ins s_outs a_order s_ordered a_is a_was s_reading s_isWell a_depths a_ways s_z, caI G a_row 12 g_row] sz) := by
  refine Met.ofW (cc := cX11_toldOf) (maxL := 2) (ret := (some .int)) (by decide) rfl ?_
  intro p e s m args below meth c s₁ B hml hv
  obtain ⟨rfl, hsz, hP, hK, hD0⟩ := hv
  have hx := B.exec
  have hb := B.bytes
  have hr := B.returns
  have hts := atoms_spec (ws := wsX11_toldOf) B.pre
  have hown : s.vm.findClass RX11 = some m.cls := findClass_of_methodNamed B.named
  have hlocks := B.notSynchronized
  subst hsz
  have hD := hD0.self (sz := s.heap.size)
  generalize hAe : va_A [ceX11 h0 a_w a_kept a_laid s_hasImage a_refusals a_row s_rows a_letters s_lettered a_hit a_lead a_defeat a_defeater s_ins s_outs a_order s_ordered a_is a_was s_reading s_isWell a_depths a_ways s_z, caI G a_row 12 g_row] s.heap.size = A at hD ⊢
  have hA : ∀ q : Nat, s.heap.size ≤ q → A q := fun q h => by rw [← hAe]; exact Or.inr h
  have hS : va_S A s.heap s.heap [] := va_S.rf
  have hP : va_P G.1 vwCl [ceX11 h0 a_w a_kept a_laid s_hasImage a_refusals a_row s_rows a_letters s_lettered a_hit a_lead a_defeat a_defeater s_ins s_outs a_order s_ordered a_is a_was s_reading s_isWell a_depths a_ways s_z, caI G a_row 12 g_row] s.heap := hP
  have hl := lv_entry ([.ref h0, .int x1]) (n := 2) (Nat.le_of_ble_eq_true rfl)
  rw [lg_entry_eq]
  generalize (lg_sl ([.ref h0, .int x1]) ++ List.replicate (2 - (lg_sl ([.ref h0, .int x1])).length) Slot.unset).toArray = ls at hl ⊢
  have hl : lv_has ls 2 [(0, .ref h0), (1, .int x1)] := hl
  have kf0 := hts (.fieldLink RX11 269 "HallOfClaimsModel" "rows" "I") (List.mem_of_getElem? (i := 1) (by decide +kernel))
  have kf1 := hts (.fieldLink RX11 22 "HallOfClaimsModel" "row" "[I") (List.mem_of_getElem? (i := 2) (by decide +kernel))
  have ki_X11 : ∀ w ∈ u_ws RX11 TX11 24, w ∈ wsX11_toldOf := by decide +kernel
  unfold wp_X11_toldOf at h
  refine lv_iload_n hx hb dX11_toldOf_0 rfl (lv_at hl 1 rfl) ?_
  refine lv_aload_n hx hb dX11_toldOf_1 rfl (lv_at hl 0 rfl) ?_
  refine va_get (D := G.1) (ci := 9) (v := .int s_rows) (C := RX11) (T := TX11) (N := 24) hx hb hts ki_X11 hown hK.1 hP 0 rfl rfl 6 (by decide) kf0 (fun _ h9 => h9) rfl dX11_toldOf_2 ?_
  refine lv_icmp_ge (tgt := 17) hx hb dX11_toldOf_5 (by decide) (fun c => ?_) (fun c => ?_)
  · replace h := h.1 c
    refine lv_bipush (v := nI 9) hx hb dX11_toldOf_17 kb_9 ?_
    exact W.iret (v := nI 9) hx hb hr (fun t ht hW => ⟨⟨_, (), rfl, h, ⟨by rw [ht]; exact hP, hD⟩⟩, hS.F ht⟩) hS.2.2 dX11_toldOf_19
  · replace h := h.2 c
    refine lv_aload_n hx hb dX11_toldOf_8 rfl (lv_at hl 0 rfl) ?_
    refine va_get (D := G.1) (ci := 9) (v := .ref a_row) (C := RX11) (T := TX11) (N := 24) hx hb hts ki_X11 hown hK.1 hP 0 rfl rfl 5 (by decide) kf1 (fun _ h9 => h9) rfl dX11_toldOf_9 ?_
    refine lv_iload_n hx hb dX11_toldOf_12 rfl (lv_at hl 1 rfl) ?_
    have hin := h.1
    replace h := h.2
    refine va_iald hx hb hK.1 hP 1 0 rfl rfl hin dX11_toldOf_13 ?_
    refine lv_goto (tgt := 19) hx hb dX11_toldOf_14 (by decide) ?_
    exact W.iret (v := g_row x1.toNatClampNeg) hx hb hr (fun t ht hW => ⟨⟨_, (), rfl, h, ⟨by rw [ht]; exact hP, hD⟩⟩, hS.F ht⟩) hS.2.2 dX11_toldOf_19
