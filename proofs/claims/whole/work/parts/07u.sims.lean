/-! the simulations, seventeenth part -/
theorem dbp_some {T : Nat → Nat → Nat} {dr : Nat → Nat} {s c : Nat} : ∀ {n : Nat} {m : Nat}, dbp T dr s c n = some m → ∀ d, d < n → (dr c).testBit d = true → ∃ b, bst T dr s d = some b
  | 0, _, _, d, hd, _ => absurd hd (Nat.not_lt_zero d)
  | n + 1, m, e, d, hd, hb => by
    rw [dbp] at e
    cases e1 : dbp T dr s c n with
    | none => rw [e1] at e; cases e
    | some m' =>
      rw [e1] at e
      by_cases q : d = n
      · subst q
        simp only [hb, if_true] at e
        cases e2 : bst T dr s d with
        | none => rw [e2] at e; cases e
        | some b => exact ⟨b, rfl⟩
      · exact dbp_some e1 d (by omega) hb
theorem gD_bst {dr : Nat → Nat} (h8 : r8 dr) {s c d : Nat} (hs : s < 256) (hd : d < 8) (hp : 0 < gD dr s c) (hb : (dr c).testBit d = true) : ∃ b, bst (gD dr) dr s d = some b := by
  rw [gD_eq h8 hs] at hp
  unfold dB at hp
  cases e : dbp (gD dr) dr s c 8 with
  | none => rw [e] at hp; exact absurd hp (by decide)
  | some m => exact dbp_some e d hd hb
theorem sim_answer {sz : Int32} {hr : Int32} {md : Int32} {ca : Int64} {fi : Int64} {vo : Int64} {at_ : Int64} {su : Int64} {gw : Nat → Int32} {cg_refusals : Nat → Int32} {mg_refusals : Nat → Int32} {cs_strife_hits : Int64} {cs_strife_leads : Int64} {cs_strife_defeats : Int64} {cs_strife_defeaters : Int64} {cg_dispute_depths : Nat → Int32} {cg_dispute_ways : Nat → Int32} {cs_dispute_defeaters : Int64} {mg_hit : Nat → Int32} {mg_lead : Nat → Int32} {mg_defeat : Nat → Int32} {mg_defeater : Nat → Int32} {mg_depths : Nat → Int32} {mg_ways : Nat → Int64} {x1 : Int32} {x2 : Int32} (hH : HR sz hr md ca fi vo at_ su gw) (hR : rfE cg_refusals mg_refusals) {Q : Int32 → Int32 → Int64 → Int64 → Int64 → Int64 → (Nat → Int32) → (Nat → Int32) → Int64 → (Nat → Int32) → (Nat → Int32) → (Nat → Int32) → (Nat → Int32) → (Nat → Int32) → (Nat → Int32) → (Nat → Int32) → (Nat → Int64) → Prop} (hq : ∀ r cs_strife_hits' cs_strife_leads' cs_strife_defeats' cs_strife_defeaters' cg_dispute_depths' cg_dispute_ways' cs_dispute_defeaters' cg_refusals' mg_refusals' mg_hit' mg_lead' mg_defeat' mg_defeater' mg_depths' mg_ways', rfE cg_refusals' mg_refusals' → Q r r cs_strife_hits' cs_strife_leads' cs_strife_defeats' cs_strife_defeaters' cg_dispute_depths' cg_dispute_ways' cs_dispute_defeaters' cg_refusals' mg_refusals' mg_hit' mg_lead' mg_defeat' mg_defeater' mg_depths' mg_ways') : wp_X10_answer (fun r cs_strife_hits' cs_strife_leads' cs_strife_defeats' cs_strife_defeaters' cg_dispute_depths' cg_dispute_ways' cs_dispute_defeaters' cg_refusals' => wp_X11_answer (fun r2 mg_refusals' mg_hit' mg_lead' mg_defeat' mg_defeater' mg_depths' mg_ways' => Q r r2 cs_strife_hits' cs_strife_leads' cs_strife_defeats' cs_strife_defeaters' cg_dispute_depths' cg_dispute_ways' cs_dispute_defeaters' cg_refusals' mg_refusals' mg_hit' mg_lead' mg_defeat' mg_defeater' mg_depths' mg_ways') gw mg_refusals mg_hit mg_lead mg_defeat mg_defeater mg_depths mg_ways x1 x2) sz hr md ca fi at_ su cs_strife_hits cs_strife_leads cs_strife_defeats cs_strife_defeaters cg_dispute_depths cg_dispute_ways cs_dispute_defeaters cg_refusals x1 x2 := by
  generalize hP : (fun r cs_strife_hits' cs_strife_leads' cs_strife_defeats' cs_strife_defeaters' cg_dispute_depths' cg_dispute_ways' cs_dispute_defeaters' cg_refusals' => wp_X11_answer (fun r2 mg_refusals' mg_hit' mg_lead' mg_defeat' mg_defeater' mg_depths' mg_ways' => Q r r2 cs_strife_hits' cs_strife_leads' cs_strife_defeats' cs_strife_defeaters' cg_dispute_depths' cg_dispute_ways' cs_dispute_defeaters' cg_refusals' mg_refusals' mg_hit' mg_lead' mg_defeat' mg_defeater' mg_depths' mg_ways') gw mg_refusals mg_hit mg_lead mg_defeat mg_defeater mg_depths mg_ways x1 x2) = P
  obtain ⟨h, H, e, hw⟩ := hH
  have h8 := H.1
  obtain ⟨rfl, rfl, rfl, rfl, rfl, rfl, rfl, rfl⟩ := e
  unfold wp_X10_answer
  unfold wp_X11_answer at hP
  refine s_knows (by omega) (fun a ha ea => ?_) (fun q => ?_)
  · subst ea
    have ha8 : a < 8 := by omega
    refine wf n1_0 (s_knows (by omega) (fun b hb eb => ?_) (fun q => ?_))
    · subst eb
      have hb8 : b < 8 := by omega
      refine wf2 n1_0 (s_reckon H (s_has hb8 ha8 ?_))
      have tb : (dfr h a).testBit b = (dft h b).testBit a := by
        show (trn (dft h) a).testBit b = _
        rw [trn_tb, decide_eq_true hb8, Bool.true_and]
      refine zc2 (fun z => ?_) (fun z => ?_)
      · refine s_refuse rx3 (by decide) (by decide) ?_
        rw [← hP]
        refine m_isClaimN hw H ha (wf n1_0 (m_isClaimN hw H hb (wf2 n1_0 (m_plays hw H (fun g1 g2 g3 g4 g5 g6 j1 j2 j3 j4 j5 j6 => ⟨vp_in_nI ha8 (by decide), ?_⟩)))))
        rw [j4.rd ha8 (by decide)]
        refine m_has (by have := dfr_r8 h a ha8; omega) (by omega) ?_
        rw [tb, z]
        refine wt2 rfl (m_refused rx3 (by decide) ?_)
        apply hq
        exact hR.up 3
      · have hda : hd h a = true := dft_in hb8 z
        refine s_play H ha8 (fun gd gw' t1 t2 => ?_)
        have p2 : (2 : Nat) ^ a < 256 := pw_lt8 ha8
        have pc1 : 8 - pc (2 ^ a) 8 < 10 := by omega
        have fin : ∀ v, v = (if 0 < gD (dfr h) (2 ^ a) a then enc9b (bst (gD (dfr h)) (dfr h) (2 ^ a) b) else -9) → P v (pL (hit h)) (pL (lead h)) (pL (dft h)) (pL (dfr h)) gd gw' (pL (dfr h)) cg_refusals := by
          rintro v rfl
          rw [← hP]
          refine m_isClaimN hw H ha (wf n1_0 (m_isClaimN hw H hb (wf2 n1_0 (m_plays hw H (fun g1 g2 g3 g4 g5 g6 j1 j2 j3 j4 j5 j6 => ⟨vp_in_nI ha8 (by decide), ?_⟩)))))
          rw [j4.rd ha8 (by decide)]
          refine m_has (by have := dfr_r8 h a ha8; omega) (by omega) ?_
          rw [tb, z]
          refine wf2 n1_0 ?_
          rw [shl_1 (by omega)]
          refine m_depthAt_t hw H j4 _ _ _ _ p2 ha8 pc1 j5 (fun g' k => ?_)
          by_cases w : 0 < gD (dfr h) (2 ^ a) a
          · rw [if_pos w, encD_pos w]
            have le := gD_le (dfr h) (2 ^ a) a
            refine wt (nI_pos' (by omega)) ?_
            obtain ⟨bb, ebb⟩ := gD_bst (dfr_r8 h) p2 hb8 w (by rw [tb, z])
            refine m_answered_t hw H j4 _ _ _ _ p2 hb8 (by omega) k (fun g2 k2 => ?_)
            rw [ebb]
            apply hq
            exact hR
          · rw [if_neg w, show gD (dfr h) (2 ^ a) a = 0 by omega]
            refine wf (show ¬ (0 : Int32) ≤ encD 0 by decide +kernel) ?_
            apply hq
            exact hR
        refine s_isWon H ha8 hda t1 (zc (fun y => fin _ ?_) (fun y => s_answerTo H ha8 hda t1 hb8 (fin _ ?_)))
        · rw [if_neg (of_decide_eq_false y)]
        · rw [if_pos (of_decide_eq_true y)]
    · refine wt2 rfl (s_refuse rx1 (by decide) (by decide) ?_)
      rw [← hP]
      refine m_isClaimN hw H ha (wf n1_0 (m_isClaim hw H (fun c hc ec => absurd ⟨c, hc, ec⟩ q) (fun _ => wt2 rfl ?_)))
      refine m_refused rx1 (by decide) ?_
      apply hq
      exact hR.up 1
  · refine wt rfl (s_refuse rx1 (by decide) (by decide) ?_)
    rw [← hP]
    refine m_isClaim hw H (fun c hc ec => absurd ⟨c, hc, ec⟩ q) (fun _ => wt rfl ?_)
    refine m_refused rx1 (by decide) ?_
    apply hq
    exact hR.up 1
