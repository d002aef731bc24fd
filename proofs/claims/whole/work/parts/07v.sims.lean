/-! the simulations, eighteenth part -/
theorem grt_cg {p q : Nat → Bool} : ∀ {n : Nat}, (∀ i, i < n → p i = q i) → grt p n = grt q n
  | 0, _ => rfl
  | n + 1, h => by
    rw [grt, grt, grt_cg (fun i hi => h i (by omega)), h n (by omega)]
theorem m_ideal49 {gw a b gd gr gi gs : Nat → Int32} {h : Nat → Nat} {m : Nat} (hw : ag 43 gw h) (H : hv h) (j3 : ag 8 gd (dft h)) (j4 : ag 8 gr (dfr h)) {post : Int32 → (Nat → Int32) → (Nat → Int32) → (Nat → Int32) → (Nat → Int32) → (Nat → Int32) → (Nat → Int32) → Prop} (hp : post (nI (grt (fun s => admB h s && decide (dif s m = 0)) 256)) a b gd gr gi gs) : ∃ n, wp_X11_ideal_49 post gw n (nI m) (nI 0) (nI 0) a b gd gr gi gs := by
  refine loop_0 (fun n i v => wp_X11_ideal_49 post gw n (nI m) v (nI i) a b gd gr gi gs) (fun i v => v = nI (grt (fun s => admB h s && decide (dif s m = 0)) i)) 256 _ rfl ?_ ?_
  · intro n v hv_
    subst hv_
    show wp_X11_ideal_49 _ _ _ _ _ _ _ _ _ _ _ _
    unfold wp_X11_ideal_49
    exact wt (nI_le (Nat.le_refl _) (by decide)) hp
  · intro n i v hi hv_ ih
    subst hv_
    show wp_X11_ideal_49 _ _ _ _ _ _ _ _ _ _ _ _
    unfold wp_X11_ideal_49
    have l1 := grt_lt (fun s => admB h s && decide (dif s m = 0)) i
    have l2 := pc_le i 8
    have l3 := pc_le (grt (fun s => admB h s && decide (dif s m = 0)) i) 8
    have d1 := dif_lt hi m
    rw [nx_dif hi, nS]
    refine wf (nI_ge hi (by decide)) (wc2 (nI_eq0 (by omega)) (fun q => ?_) (fun q => ih _ ?_))
    · refine m_ones (by omega) (m_ones (by omega) (wc (nI_leI (by omega) (by omega)) (fun y => ih _ ?_) (fun y => m_isAdm hw H j3 j4 hi (zc (fun x => ih _ ?_) (fun x => ih _ ?_)))))
      · rw [grt, if_neg]
        rw [decide_eq_false (show ¬ pc (grt (fun s => admB h s && decide (dif s m = 0)) i) 8 < pc i 8 by omega), Bool.and_false]; decide
      · rw [grt, if_neg]
        rw [x, Bool.false_and, Bool.false_and]; decide
      · rw [grt, if_pos]
        rw [x, decide_eq_true q, decide_eq_true (show pc (grt (fun s => admB h s && decide (dif s m = 0)) i) 8 < pc i 8 by omega)]; rfl
    · rw [grt, if_neg]
      rw [decide_eq_false q, Bool.and_false, Bool.false_and]; decide
theorem m_ideal15 {gw a b gd gr gi gs : Nat → Int32} {p : Nat → Bool} (hg : az 256 gi p) {post : Int32 → (Nat → Int32) → (Nat → Int32) → (Nat → Int32) → (Nat → Int32) → (Nat → Int32) → (Nat → Int32) → Prop} (hp : ∃ n, wp_X11_ideal_49 post gw n (nI (cmm p 255 256)) (nI 0) (nI 0) a b gd gr gi gs) : ∃ n, wp_X11_ideal_15 post gw n (nI 255) (nI 0) a b gd gr gi gs := by
  refine loop_0 (fun n i v => wp_X11_ideal_15 post gw n v (nI i) a b gd gr gi gs) (fun i v => v = nI (cmm p 255 i)) 256 _ rfl ?_ ?_
  · intro n v hv_
    subst hv_
    show wp_X11_ideal_15 _ _ _ _ _ _ _ _ _ _ _
    unfold wp_X11_ideal_15
    exact wt (nI_le (Nat.le_refl _) (by decide)) hp
  · intro n i v hi hv_ ih
    subst hv_
    show wp_X11_ideal_15 _ _ _ _ _ _ _ _ _ _ _
    unfold wp_X11_ideal_15
    refine wf (nI_ge hi (by decide)) ⟨vp_in_nI hi (by decide), ?_⟩
    rw [hg.rd hi (by decide), nS, nx_and, nx_and, Nat.and_self]
    refine zc (fun q => ih _ ?_) (fun q => ih _ ?_)
    · rw [cmm, if_neg (by rw [q]; decide)]
    · rw [cmm, if_pos q]
theorem cmm_and (p : Nat → Bool) (x y : Nat) : ∀ n, cmm p (x &&& y) n = cmm p x n &&& y
  | 0 => rfl
  | n + 1 => by
    rw [cmm, cmm, cmm_and p x y n]
    generalize p n = t
    cases t
    · rw [if_neg (by decide), if_neg (by decide)]
    · rw [if_pos rfl, if_pos rfl, Nat.and_assoc, Nat.and_comm y n, ← Nat.and_assoc]
theorem ideal_eq {h : Nat → Nat} (H : hv h) (p : Nat → Bool) {s : Nat} (hs : s < 256) : (srt h 1 s && decide (dif s (cmm p (h 40) 256) = 0)) = (admB h s && decide (dif s (cmm p 255 256) = 0)) := by
  have e1 : srt h 1 s = admB h s := by
    unfold srt plB
    simp
  rw [e1]
  cases q : admB h s
  · rw [Bool.false_and, Bool.false_and]
  · have e2 : dif s (h 40) = 0 := by
      unfold admB freeB at q
      rw [Bool.and_eq_true, Bool.and_eq_true] at q
      exact of_decide_eq_true q.1.1
    rw [dif_0 hs] at e2
    have e3 : cmm p (h 40) 256 = cmm p 255 256 &&& h 40 := by
      rw [← cmm_and]
      congr 1
      refine tb8_ext (H.heard) (Nat.lt_of_le_of_lt Nat.and_le_left (by decide)) (fun i hi => ?_)
      have : (255 : Nat).testBit i = true := by
        have hi8 : i = 0 ∨ i = 1 ∨ i = 2 ∨ i = 3 ∨ i = 4 ∨ i = 5 ∨ i = 6 ∨ i = 7 := by omega
        rcases hi8 with rfl | rfl | rfl | rfl | rfl | rfl | rfl | rfl <;> rfl
      rw [Nat.testBit_and, this, Bool.true_and]
    have e4 : dif s (cmm p (h 40) 256) = 0 ↔ dif s (cmm p 255 256) = 0 := by
      rw [dif_0 hs, dif_0 hs, e3]
      refine ⟨fun k i hi hb => ?_, fun k i hi hb => ?_⟩
      · have := k i hi hb
        rw [Nat.testBit_and, Bool.and_eq_true] at this
        exact this.1
      · rw [Nat.testBit_and, Bool.and_eq_true]
        exact ⟨k i hi hb, e2 i hi hb⟩
    rw [Bool.true_and, Bool.true_and]
    exact decide_eq_decide.mpr e4
theorem sim_ideal {sz : Int32} {hr : Int32} {md : Int32} {ca : Int64} {fi : Int64} {vo : Int64} {at_ : Int64} {su : Int64} {gw : Nat → Int32} {cs_strife_hits : Int64} {cs_strife_leads : Int64} {cs_strife_defeats : Int64} {cs_strife_defeaters : Int64} {cg_selection_chosen : Nat → Int32} {cg_selection_marked : Nat → Int32} {cg_selection_surpassed : Nat → Int32} {cs_selection_heard : Int32} {cs_selection_defeats : Int64} {cs_selection_defeaters : Int64} {mg_hit : Nat → Int32} {mg_lead : Nat → Int32} {mg_defeat : Nat → Int32} {mg_defeater : Nat → Int32} {mg_is : Nat → Int32} {mg_was : Nat → Int32} (hH : HR sz hr md ca fi vo at_ su gw) {Q : Int32 → Int32 → Int64 → Int64 → Int64 → Int64 → (Nat → Int32) → (Nat → Int32) → (Nat → Int32) → Int32 → Int64 → Int64 → (Nat → Int32) → (Nat → Int32) → (Nat → Int32) → (Nat → Int32) → (Nat → Int32) → (Nat → Int32) → Prop} (hq : ∀ r cs_strife_hits' cs_strife_leads' cs_strife_defeats' cs_strife_defeaters' cg_selection_chosen' cg_selection_marked' cg_selection_surpassed' cs_selection_heard' cs_selection_defeats' cs_selection_defeaters' mg_hit' mg_lead' mg_defeat' mg_defeater' mg_is' mg_was', Q r r cs_strife_hits' cs_strife_leads' cs_strife_defeats' cs_strife_defeaters' cg_selection_chosen' cg_selection_marked' cg_selection_surpassed' cs_selection_heard' cs_selection_defeats' cs_selection_defeaters' mg_hit' mg_lead' mg_defeat' mg_defeater' mg_is' mg_was') : wp_X10_ideal (fun r cs_strife_hits' cs_strife_leads' cs_strife_defeats' cs_strife_defeaters' cg_selection_chosen' cg_selection_marked' cg_selection_surpassed' cs_selection_heard' cs_selection_defeats' cs_selection_defeaters' => wp_X11_ideal (fun r2 mg_hit' mg_lead' mg_defeat' mg_defeater' mg_is' mg_was' => Q r r2 cs_strife_hits' cs_strife_leads' cs_strife_defeats' cs_strife_defeaters' cg_selection_chosen' cg_selection_marked' cg_selection_surpassed' cs_selection_heard' cs_selection_defeats' cs_selection_defeaters' mg_hit' mg_lead' mg_defeat' mg_defeater' mg_is' mg_was') gw mg_hit mg_lead mg_defeat mg_defeater mg_is mg_was) sz hr md ca fi at_ su cs_strife_hits cs_strife_leads cs_strife_defeats cs_strife_defeaters cg_selection_chosen cg_selection_marked cg_selection_surpassed cs_selection_heard cs_selection_defeats cs_selection_defeaters := by
  generalize hP : (fun r cs_strife_hits' cs_strife_leads' cs_strife_defeats' cs_strife_defeaters' cg_selection_chosen' cg_selection_marked' cg_selection_surpassed' cs_selection_heard' cs_selection_defeats' cs_selection_defeaters' => wp_X11_ideal (fun r2 mg_hit' mg_lead' mg_defeat' mg_defeater' mg_is' mg_was' => Q r r2 cs_strife_hits' cs_strife_leads' cs_strife_defeats' cs_strife_defeaters' cg_selection_chosen' cg_selection_marked' cg_selection_surpassed' cs_selection_heard' cs_selection_defeats' cs_selection_defeaters' mg_hit' mg_lead' mg_defeat' mg_defeater' mg_is' mg_was') gw mg_hit mg_lead mg_defeat mg_defeater mg_is mg_was) = P
  obtain ⟨h, H, e, hw⟩ := hH
  have h8 := H.1
  obtain ⟨rfl, rfl, rfl, rfl, rfl, rfl, rfl, rfl⟩ := e
  unfold wp_X10_ideal
  unfold wp_X11_ideal at hP
  have le := cmm_le (srt h 3) (h 40) 256
  have hr := H.heard
  refine s_reckon H (s_select H (sort := 3) (by decide) (fun g1 g2 g3 i1 => s_common i1 (s_select H (sort := 1) (by decide) (fun g4 g5 g6 i2 => s_greatest i2 (by omega) ?_))))
  rw [← hP]
  refine m_reckons hw H (fun _ _ gd gr _ _ j3 j4 => m_finds hw H j3 j4 (sort := 3) (by decide) (fun gi gs k1 => m_ideal15 k1 (m_ideal49 hw H j3 j4 ?_)))
  rw [grt_cg (fun i hi => ideal_eq H (srt h 3) hi)]
  apply hq
