/-! the simulations, first part -/
theorem i_cases (x : Int32) {n : Nat} (hn : n + 1 < 2 ^ 31) : (∃ c, c ≤ n ∧ x = nI c) ∨ (x < 0 ∧ ¬ 0 ≤ x) ∨ ((¬ x < 0 ∧ 0 ≤ x) ∧ (nI n < x ∧ ¬ x ≤ nI n) ∧ (nI (n + 1) ≤ x ∧ ¬ x < nI (n + 1))) := by
  have e0 : (0 : Int32).toInt = 0 := by decide +kernel
  simp only [Int32.lt_iff_toInt_lt, Int32.le_iff_toInt_le, nI_toInt (show n < 2 ^ 31 by omega), nI_toInt hn, e0]
  by_cases a : x.toInt < 0
  · exact Or.inr (Or.inl ⟨a, by omega⟩)
  · by_cases b : x.toInt ≤ n
    · exact Or.inl ⟨x.toInt.toNat, by omega, nI_ofT (by omega) (by omega)⟩
    · refine Or.inr (Or.inr ⟨⟨a, by omega⟩, ⟨by omega, b⟩, ⟨?_, ?_⟩⟩) <;> omega
theorem i_no1 {x : Int32} {n : Nat} (hn : n < 2 ^ 31) (h : x < 0) : ¬ ∃ c, (0 ≤ c ∧ c ≤ n) ∧ x = nI c := by
  rintro ⟨c, ⟨_, hc⟩, rfl⟩
  exact nI_pos (by omega) h
theorem i_no2 {x : Int32} {n : Nat} (hn : n < 2 ^ 31) (h : nI n < x) : ¬ ∃ c, (0 ≤ c ∧ c ≤ n) ∧ x = nI c := by
  rintro ⟨c, ⟨_, hc⟩, rfl⟩
  exact nI_nlt hc (by omega) h
theorem s_full6 {N n : Nat} (hN : N < 2 ^ 31) (hn : n < 2 ^ 31) {post : Int32 → Prop} (hp : post (zI (decide (N ≤ n)))) : wp_X6_isFull post N (nI n) := by
  unfold wp_X6_isFull
  refine wc (nI_ltI hn hN) (fun q => ?_) (fun q => ?_)
  · rw [decide_eq_false (by omega)] at hp; exact hp
  · rw [decide_eq_true (by omega)] at hp; exact hp
theorem s_add6 {N n : Nat} {g : Nat → Int32} {x : Int32} (hN : N < 2 ^ 31) (hn : n < N) {post : Int32 → (Nat → Int32) → Int32 → Prop} (hp : post (nI (n + 1)) (upd g n x) (nI (n + 1))) : wp_X6_add post N g (nI n) x := by
  unfold wp_X6_add
  rw [nS n, nI_clamp (by omega)]
  exact wf (nI_pos (by omega)) (wf (nI_ge hn hN) ⟨vp_in_nI hn hN, hp⟩)
theorem ag.app {n c : Nat} {g : Nat → Int32} {f : Nat → Nat} (a : ag n g f) : ag (n + 1) (upd g n (nI c)) (upN f n c) := (a.set n c).succ (by rw [pk_us, upN_s])
theorem lx_5 : (5 : Int64) = lN 5 := by decide +kernel
theorem lx_9 : (9 : Int64) = lN 9 := by decide +kernel
theorem lx_3 : (3 : Int64) = lN 3 := by decide +kernel
theorem bit_zI (s c : Nat) : nI (s / 2 ^ c) &&& nI 1 = zI (s.testBit c) := by rw [bit_nI, zI_toN]
theorem sim_letter {cg_reader_letters_numbers : Nat → Int32} {cs_reader_letters_length : Int32} {mg_letters : Nat → Int32} {ms_lettered : Int32} {cg_refusals : Nat → Int32} {mg_refusals : Nat → Int32} {x1 : Int32} (hL : LTR 96 256 cg_reader_letters_numbers cs_reader_letters_length mg_letters ms_lettered) (hR : rfE cg_refusals mg_refusals) {Q : Int32 → Int32 → (Nat → Int32) → Int32 → (Nat → Int32) → (Nat → Int32) → (Nat → Int32) → Int32 → Prop} (hq : ∀ r cg_reader_letters_numbers' cs_reader_letters_length' cg_refusals' mg_refusals' mg_letters' ms_lettered', LTR 96 256 cg_reader_letters_numbers' cs_reader_letters_length' mg_letters' ms_lettered' → rfE cg_refusals' mg_refusals' → Q r r cg_reader_letters_numbers' cs_reader_letters_length' cg_refusals' mg_refusals' mg_letters' ms_lettered') : wp_X10_letter (fun r cg_reader_letters_numbers' cs_reader_letters_length' cg_refusals' => wp_X11_letter (fun r2 mg_refusals' mg_letters' ms_lettered' => Q r r2 cg_reader_letters_numbers' cs_reader_letters_length' cg_refusals' mg_refusals' mg_letters' ms_lettered') mg_refusals mg_letters ms_lettered x1) cg_reader_letters_numbers cs_reader_letters_length cg_refusals x1 := by
  generalize hP : (fun r cg_reader_letters_numbers' cs_reader_letters_length' cg_refusals' => wp_X11_letter (fun r2 mg_refusals' mg_letters' ms_lettered' => Q r r2 cg_reader_letters_numbers' cs_reader_letters_length' cg_refusals' mg_refusals' mg_letters' ms_lettered') mg_refusals mg_letters ms_lettered x1) = P
  obtain ⟨n, f, ⟨hn, rfl, rfl⟩, ⟨a1, a2⟩, hb⟩ := hL
  unfold wp_X10_letter
  unfold wp_X11_letter at hP
  rw [l_255] at hP
  rcases i_cases x1 (n := 255) (by decide) with ⟨c, hc, rfl⟩ | ⟨z1, z2⟩ | ⟨⟨z1, z2⟩, ⟨z3, z4⟩, z5, z6⟩
  · refine wt (nI_pos' (by omega)) (wf (nI_nlt (by omega) (by omega)) ?_)
    refine s_full6 (by decide) (by omega) ?_
    refine zc (fun y => ?_) (fun y => ?_)
    · have y1 := of_decide_eq_false y
      refine s_add6 (by decide) (by omega) ?_
      rw [← hP]
      refine m_inN (by decide) (by decide) (fun _ _ _ _ => ?_) (fun q => absurd ⟨c, ⟨Nat.zero_le _, hc⟩, rfl⟩ q)
      refine wf2 n1_0 (wf2 (fun k => by have := (nI_eq (by omega) (by decide)).mp k; omega) ⟨vp_in_nI (by omega) (by decide), ?_⟩)
      rw [nS n, nI_clamp (by omega)]
      refine hq _ _ _ _ _ _ _ ⟨n + 1, upN f n c, ⟨by omega, rfl, rfl⟩, ⟨a1.app, a2.app⟩, fun k hk => ?_⟩ hR
      by_cases e : k = n
      · subst e; rw [upN_s]; omega
      · rw [upN_n _ e]; exact hb k (by omega)
    · have y1 := of_decide_eq_true y
      refine s_refuse rx6 (by decide) (by decide) ?_
      rw [← hP]
      refine m_inN (by decide) (by decide) (fun _ _ _ _ => ?_) (fun q => absurd ⟨c, ⟨Nat.zero_le _, hc⟩, rfl⟩ q)
      refine wf2 n1_0 (wt2 (by rw [show n = 96 by omega]) ?_)
      exact m_refused rx6 (by decide) (hq _ _ _ _ _ _ _ ⟨n, f, ⟨hn, rfl, rfl⟩, ⟨a1, a2⟩, hb⟩ (hR.up 6))
  · refine wf z2 (s_refuse rx4 (by decide) (by decide) ?_)
    rw [← hP]
    refine m_inN (by decide) (by decide) (fun c _ hc e => absurd ⟨c, ⟨Nat.zero_le _, hc⟩, e⟩ (i_no1 (by decide) z1)) (fun _ => ?_)
    refine wt2 rfl (wf z2 ?_)
    exact m_refused rx4 (by decide) (hq _ _ _ _ _ _ _ ⟨n, f, ⟨hn, rfl, rfl⟩, ⟨a1, a2⟩, hb⟩ (hR.up 4))
  · refine wt z2 (wt z3 (s_refuse rx6 (by decide) (by decide) ?_))
    rw [← hP]
    refine m_inN (by decide) (by decide) (fun c _ hc e => absurd ⟨c, ⟨Nat.zero_le _, hc⟩, e⟩ (i_no2 (by decide) z3)) (fun _ => ?_)
    refine wt2 rfl (wt z2 ?_)
    exact m_refused rx6 (by decide) (hq _ _ _ _ _ _ _ ⟨n, f, ⟨hn, rfl, rfl⟩, ⟨a1, a2⟩, hb⟩ (hR.up 6))
theorem sim_turns {sz : Int32} {hr : Int32} {md : Int32} {ca : Int64} {fi : Int64} {vo : Int64} {at_ : Int64} {su : Int64} {gw : Nat → Int32} {cg_refusals : Nat → Int32} {mg_refusals : Nat → Int32} {x1 : Int32} (hH : HR sz hr md ca fi vo at_ su gw) (hR : rfE cg_refusals mg_refusals) {Q : Int32 → Int32 → Int32 → (Nat → Int32) → (Nat → Int32) → (Nat → Int32) → Prop} (hq : ∀ r hr' cg_refusals' gw' mg_refusals', HR sz hr' md ca fi vo at_ su gw' → rfE cg_refusals' mg_refusals' → Q r r hr' cg_refusals' gw' mg_refusals') : wp_X10_turns (fun r hr' cg_refusals' => wp_X11_turns (fun r2 gw' mg_refusals' => Q r r2 hr' cg_refusals' gw' mg_refusals') gw mg_refusals x1) sz hr cg_refusals x1 := by
  generalize hP : (fun r hr' cg_refusals' => wp_X11_turns (fun r2 gw' mg_refusals' => Q r r2 hr' cg_refusals' gw' mg_refusals') gw mg_refusals x1) = P
  obtain ⟨h, H, e, hw⟩ := hH
  have h8 := H.1
  have he := e
  obtain ⟨rfl, rfl, rfl, rfl, rfl, rfl, rfl, rfl⟩ := e
  unfold wp_X10_turns
  refine s_knows (by omega) (fun c hc ec => ?_) (fun q => ?_)
  · subst ec
    refine wf2 n1_0 ?_
    have H2 : hv (upN h 40 (h 40 ^^^ 2 ^ c)) := H.set_hd (Nat.xor_lt_two_pow H.2.2.1 (pw_lt hc))
    have e2 := he.hd_up (h 40 ^^^ 2 ^ c)
    unfold wp_X3_flipHeard
    rw [shl_1 (by omega), nx_xor]
    have hr := H2.heard
    have sh : ∀ post : Int32 → Prop, post (zI ((h 40 ^^^ 2 ^ c).testBit c)) → wp_X3_hears post (nI (h 42)) (nI (h 40 ^^^ 2 ^ c)) (nI c) := fun post hp => by
      have := s_hears H2 (c := c) (by rw [upN_n _ (by omega)]; exact hc) (post := post) (by unfold hd; rw [upN_s]; exact hp)
      rw [upN_s, upN_n _ (by omega)] at this
      exact this
    refine (fun (fin : P (zI ((h 40 ^^^ 2 ^ c).testBit c)) (nI (h 40 ^^^ 2 ^ c)) cg_refusals) => ?_) ?_
    · exact sh _ (zc (fun z => by rw [z] at fin; exact fin) (fun z => by rw [z] at fin; exact fin))
    rw [← hP]
    unfold wp_X11_turns
    refine m_isClaimN hw H hc (wf2 n1_0 ⟨vp_in_nI (by decide) (by decide), vp_in_nI (by decide) (by decide), vp_in_nI (by decide) (by decide), ?_⟩)
    rw [nI_clamp (show 40 < 2 ^ 31 by decide), pk_us, hw 40 (by decide), shl_1 (by omega), nx_xor]
    rw [upN_s] at hr
    rw [shr_nI (by omega) (by omega), bit_zI]
    exact hq _ _ _ _ _ ⟨_, H2, e2, hw.set 40 _⟩ hR
  · refine wt2 rfl (s_refuse rx1 (by decide) (by decide) ?_)
    rw [← hP]
    unfold wp_X11_turns
    refine m_isClaim hw H (fun c hc ec => absurd ⟨c, hc, ec⟩ q) (fun _ => wt2 rfl ?_)
    exact m_refused rx1 (by decide) (hq _ _ _ _ _ ⟨h, H, he, hw⟩ (hR.up 1))
