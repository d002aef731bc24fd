/-! the simulations, eleventh part -/
theorem neg_nle {x : Int32} {n : Nat} (hn : n < 2 ^ 31) (h : x < 0) : ¬ nI n ≤ x := by
  have e0 : (0 : Int32).toInt = 0 := by decide +kernel
  rw [Int32.lt_iff_toInt_lt, e0] at h
  rw [Int32.le_iff_toInt_le, nI_toInt hn]
  omega
theorem gt_le {x : Int32} {n m : Nat} (hn : n < 2 ^ 31) (hm : m ≤ n) (h : nI n < x) : nI m ≤ x := by
  rw [Int32.lt_iff_toInt_lt, nI_toInt hn] at h
  rw [Int32.le_iff_toInt_le, nI_toInt (by omega)]
  omega
theorem lg_ge (x y : Int64) : 0 ≤ lg_cmp x y ↔ ¬ x < y := by
  rw [← lg_neg, Int32.le_iff_toInt_le, Int32.lt_iff_toInt_lt]
  omega
theorem s_refuseFar {g : Nat → Int32} {x : Int32} {k : Nat} (hx : -x = nI k) (h1 : 1 ≤ k) (h6 : k ≤ 6) {post : Int64 → (Nat → Int32) → Prop} (hp : post ((4000000000000000000 : Int64) - x.toInt64) (upd g k (g k + nI 1))) : wp_X10_refuseFar post g x := by
  unfold wp_X10_refuseFar
  exact s_refuse hx h1 h6 hp
theorem sim_missing {sz : Int32} {hr : Int32} {md : Int32} {ca : Int64} {fi : Int64} {vo : Int64} {at_ : Int64} {su : Int64} {gw : Nat → Int32} {cg_refusals : Nat → Int32} {mg_refusals : Nat → Int32} {cs_trials_draft_size : Int32} {cs_trials_draft_heard : Int32} {cs_trials_draft_mode : Int32} {cs_trials_draft_cast : Int64} {cs_trials_draft_figures : Int64} {cs_trials_draft_voices : Int64} {cs_trials_draft_attacks : Int64} {cs_trials_draft_supports : Int64} {cs_trials_strife_hits : Int64} {cs_trials_strife_leads : Int64} {cs_trials_strife_defeats : Int64} {cs_trials_strife_defeaters : Int64} {cs_trials_settled_in : Int32} {cs_trials_settled_out : Int32} {cs_trials_settled_length : Int32} {cs_trials_settled_order : Int64} {mg_hit : Nat → Int32} {mg_lead : Nat → Int32} {mg_defeat : Nat → Int32} {mg_defeater : Nat → Int32} {ms_ins : Int32} {ms_outs : Int32} {mg_order : Nat → Int32} {ms_ordered : Int32} {x1 : Int32} {x2 : Int32} {x3 : Int32} (hH : HR sz hr md ca fi vo at_ su gw) (hR : rfE cg_refusals mg_refusals) {Q : Int64 → Int64 → Int32 → Int32 → Int32 → Int64 → Int64 → Int64 → Int64 → Int64 → Int64 → Int64 → Int64 → Int64 → Int32 → Int32 → Int32 → Int64 → (Nat → Int32) → (Nat → Int32) → (Nat → Int32) → (Nat → Int32) → (Nat → Int32) → (Nat → Int32) → (Nat → Int32) → Int32 → Int32 → (Nat → Int32) → Int32 → Prop} (hq : ∀ r cs_trials_draft_size' cs_trials_draft_heard' cs_trials_draft_mode' cs_trials_draft_cast' cs_trials_draft_figures' cs_trials_draft_voices' cs_trials_draft_attacks' cs_trials_draft_supports' cs_trials_strife_hits' cs_trials_strife_leads' cs_trials_strife_defeats' cs_trials_strife_defeaters' cs_trials_settled_in' cs_trials_settled_out' cs_trials_settled_length' cs_trials_settled_order' cg_refusals' gw' mg_refusals' mg_hit' mg_lead' mg_defeat' mg_defeater' ms_ins' ms_outs' mg_order' ms_ordered', HR sz hr md ca fi vo at_ su gw' → rfE cg_refusals' mg_refusals' → Q r r cs_trials_draft_size' cs_trials_draft_heard' cs_trials_draft_mode' cs_trials_draft_cast' cs_trials_draft_figures' cs_trials_draft_voices' cs_trials_draft_attacks' cs_trials_draft_supports' cs_trials_strife_hits' cs_trials_strife_leads' cs_trials_strife_defeats' cs_trials_strife_defeaters' cs_trials_settled_in' cs_trials_settled_out' cs_trials_settled_length' cs_trials_settled_order' cg_refusals' gw' mg_refusals' mg_hit' mg_lead' mg_defeat' mg_defeater' ms_ins' ms_outs' mg_order' ms_ordered') : wp_X10_missing (fun r cs_trials_draft_size' cs_trials_draft_heard' cs_trials_draft_mode' cs_trials_draft_cast' cs_trials_draft_figures' cs_trials_draft_voices' cs_trials_draft_attacks' cs_trials_draft_supports' cs_trials_strife_hits' cs_trials_strife_leads' cs_trials_strife_defeats' cs_trials_strife_defeaters' cs_trials_settled_in' cs_trials_settled_out' cs_trials_settled_length' cs_trials_settled_order' cg_refusals' => wp_X11_missing (fun r2 gw' mg_refusals' mg_hit' mg_lead' mg_defeat' mg_defeater' ms_ins' ms_outs' mg_order' ms_ordered' => Q r r2 cs_trials_draft_size' cs_trials_draft_heard' cs_trials_draft_mode' cs_trials_draft_cast' cs_trials_draft_figures' cs_trials_draft_voices' cs_trials_draft_attacks' cs_trials_draft_supports' cs_trials_strife_hits' cs_trials_strife_leads' cs_trials_strife_defeats' cs_trials_strife_defeaters' cs_trials_settled_in' cs_trials_settled_out' cs_trials_settled_length' cs_trials_settled_order' cg_refusals' gw' mg_refusals' mg_hit' mg_lead' mg_defeat' mg_defeater' ms_ins' ms_outs' mg_order' ms_ordered') gw mg_refusals mg_hit mg_lead mg_defeat mg_defeater ms_ins ms_outs mg_order ms_ordered x1 x2 x3) sz hr md ca fi vo at_ su cs_trials_draft_size cs_trials_draft_heard cs_trials_draft_mode cs_trials_draft_cast cs_trials_draft_figures cs_trials_draft_voices cs_trials_draft_attacks cs_trials_draft_supports cs_trials_strife_hits cs_trials_strife_leads cs_trials_strife_defeats cs_trials_strife_defeaters cs_trials_settled_in cs_trials_settled_out cs_trials_settled_length cs_trials_settled_order cg_refusals x1 x2 x3 := by
  generalize hP : (fun r cs_trials_draft_size' cs_trials_draft_heard' cs_trials_draft_mode' cs_trials_draft_cast' cs_trials_draft_figures' cs_trials_draft_voices' cs_trials_draft_attacks' cs_trials_draft_supports' cs_trials_strife_hits' cs_trials_strife_leads' cs_trials_strife_defeats' cs_trials_strife_defeaters' cs_trials_settled_in' cs_trials_settled_out' cs_trials_settled_length' cs_trials_settled_order' cg_refusals' => wp_X11_missing (fun r2 gw' mg_refusals' mg_hit' mg_lead' mg_defeat' mg_defeater' ms_ins' ms_outs' mg_order' ms_ordered' => Q r r2 cs_trials_draft_size' cs_trials_draft_heard' cs_trials_draft_mode' cs_trials_draft_cast' cs_trials_draft_figures' cs_trials_draft_voices' cs_trials_draft_attacks' cs_trials_draft_supports' cs_trials_strife_hits' cs_trials_strife_leads' cs_trials_strife_defeats' cs_trials_strife_defeaters' cs_trials_settled_in' cs_trials_settled_out' cs_trials_settled_length' cs_trials_settled_order' cg_refusals' gw' mg_refusals' mg_hit' mg_lead' mg_defeat' mg_defeater' ms_ins' ms_outs' mg_order' ms_ordered') gw mg_refusals mg_hit mg_lead mg_defeat mg_defeater ms_ins ms_outs mg_order ms_ordered x1 x2 x3) = P
  obtain ⟨h, H, e, hw⟩ := hH
  have h8 := H.1
  have same : HR sz hr md ca fi vo at_ su gw := ⟨h, H, e, hw⟩
  unfold wp_X10_missing
  rw [e.1]
  refine s_knows (by omega) (fun a ha ea => ?_) (fun q => ?_)
  · subst ea
    refine wf2 n1_0 ?_
    have small : ¬ nI 2 ≤ x2 → (¬ ∃ c, (2 ≤ c ∧ c ≤ 20) ∧ x2 = nI c) → P ((4000000000000000000 : Int64) - (-4 : Int32).toInt64) cs_trials_draft_size cs_trials_draft_heard cs_trials_draft_mode cs_trials_draft_cast cs_trials_draft_figures cs_trials_draft_voices cs_trials_draft_attacks cs_trials_draft_supports cs_trials_strife_hits cs_trials_strife_leads cs_trials_strife_defeats cs_trials_strife_defeaters cs_trials_settled_in cs_trials_settled_out cs_trials_settled_length cs_trials_settled_order (upd cg_refusals 4 (cg_refusals 4 + nI 1)) := fun k q => by
      rw [← hP]
      unfold wp_X11_missing
      rw [l_2, l_20]
      refine m_isClaimN hw H ha (wf2 n1_0 (m_inN (by decide) (by decide) (fun c c0 c1 ec => absurd ⟨c, ⟨c0, c1⟩, ec⟩ q) (fun _ => wt2 rfl (wf k (m_refused rx4 (by decide) ?_)))))
      apply hq
      · exact same
      · exact hR.up 4
    rcases i_cases x2 (n := 20) (by decide) with ⟨c, hc, rfl⟩ | ⟨z1, z2⟩ | ⟨⟨z1, z2⟩, ⟨z3, z4⟩, z5, z6⟩
    · by_cases c2 : 2 ≤ c
      · refine wt (nI_le c2 (by omega)) (wt (nI_le hc (by decide)) ?_)
        refine s_is12 (fun w ew => ?_) (fun q => ?_)
        · subst ew
          refine wf2 n1_0 ?_
          rw [e.2.1]
          refine s_allOdds H hc ?_
          rw [← e.1, ← e.2.1]
          refine s_oddsOfIn H e (by omega) hc (by omega) (fun d1 d2 d3 d4 d5 d6 d7 d8 s1 s2 s3 s4 t1 t2 t3 t4 => ?_)
          have lB := p20_le (k := pc (h 40) 5) hc (pc_le _ _)
          have lA := odS_le (h := h) (c := a) hc 32
          have B0 : 0 < c ^ pc (h 40) 5 := Nat.pow_pos (by omega)
          have G0 : 0 < Nat.gcd (odS h a c 32) (c ^ pc (h 40) 5) := Nat.gcd_pos_of_pos_right _ B0
          have G1 := Nat.le_of_dvd B0 (Nat.gcd_dvd_right (odS h a c 32) (c ^ pc (h 40) 5))
          refine s_common2 (by omega) (by omega) ?_
          have fin : ∀ v, v = lN ((if w then c ^ pc (h 40) 5 else odS h a c 32) / Nat.gcd (odS h a c 32) (c ^ pc (h 40) 5)) → P v d1 d2 d3 d4 d5 d6 d7 d8 s1 s2 s3 s4 t1 t2 t3 t4 cg_refusals := by
            rintro v rfl
            rw [← hP]
            refine m_missing hw H ha hc c2 (fun gw q _ _ _ _ _ _ _ _ => ?_)
            apply hq
            · exact ⟨h, H, e, q⟩
            · exact hR
          have gn0 : ¬ lN (Nat.gcd (odS h a c 32) (c ^ pc (h 40) 5)) = 0 := fun k => by have := (lN_z0 (by omega)).mp k; omega
          refine wt ((lg_ge _ _).mpr (fun k => by rw [pk_lLT (by omega) (by decide)] at k; omega)) (zc2 (fun z => ⟨gn0, fin _ ?_⟩) (fun z => ⟨gn0, fin _ ?_⟩))
          · rw [pk_lDiv (by omega) G0 (by omega), z]; rfl
          · rw [pk_lDiv (by omega) G0 (by omega), z]; rfl
        · refine wt2 rfl (s_refuseFar rx2 (by decide) (by decide) ?_)
          rw [← hP]
          unfold wp_X11_missing
          rw [l_2, l_20]
          refine m_isClaimN hw H ha (wf2 n1_0 (m_inN (by decide) (by decide) (fun _ _ _ _ => wf2 n1_0 (m_in12 (fun w ew => absurd ⟨w, ew⟩ q) (fun _ => wt2 rfl (m_refused rx2 (by decide) ?_)))) (fun q => absurd ⟨c, ⟨c2, hc⟩, rfl⟩ q)))
          apply hq
          · exact same
          · exact hR.up 2
      · refine wf (nI_ge (by omega) (by decide)) (s_refuseFar rx4 (by decide) (by decide) (small (nI_ge (by omega) (by decide)) ?_))
        rintro ⟨d, ⟨d1, d2⟩, ed⟩
        have := (nI_eq (by omega) (by omega)).mp ed
        omega
    · refine wf (neg_nle (by decide) z1) (s_refuseFar rx4 (by decide) (by decide) (small (neg_nle (by decide) z1) ?_))
      rintro ⟨d, ⟨d1, d2⟩, rfl⟩
      exact nI_pos (by omega) z1
    · have z7 := gt_le (by decide) (show 2 ≤ 20 by decide) z3
      refine wt z7 (wf z4 (s_refuseFar rx6 (by decide) (by decide) ?_))
      rw [← hP]
      unfold wp_X11_missing
      rw [l_2, l_20]
      refine m_isClaimN hw H ha (wf2 n1_0 (m_inN (by decide) (by decide) (fun c c0 c1 ec => absurd ⟨c, ⟨Nat.zero_le _, c1⟩, ec⟩ (i_no2 (by decide) z3)) (fun _ => wt2 rfl (wt z7 (m_refused rx6 (by decide) ?_)))))
      apply hq
      · exact same
      · exact hR.up 6
  · refine wt2 rfl (s_refuseFar rx1 (by decide) (by decide) ?_)
    rw [← hP]
    unfold wp_X11_missing
    refine m_isClaim hw H (fun c hc ec => absurd ⟨c, hc, ec⟩ q) (fun _ => wt2 rfl ?_)
    refine m_refused rx1 (by decide) ?_
    apply hq
    · exact same
    · exact hR.up 1
