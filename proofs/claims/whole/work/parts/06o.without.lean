/-! the reference's bounds; changes, without -/
theorem lg_pos (x y : Int64) : 0 < lg_cmp x y ↔ y < x := by
  unfold lg_cmp
  by_cases h : x > y
  · rw [if_pos h]
    exact ⟨fun _ => h, fun _ => by decide +kernel⟩
  · rw [if_neg h]
    by_cases h2 : x = y
    · rw [if_pos h2]
      exact ⟨fun e => absurd e (by decide +kernel), fun e => absurd e h⟩
    · rw [if_neg h2]
      exact ⟨fun e => absurd e (by decide +kernel), fun e => absurd e h⟩
theorem m_in {x lo hi : Int64} {post : Int32 → Prop} (ht : lo.toInt ≤ x.toInt → x.toInt ≤ hi.toInt → post (nI 1)) (hf : ¬ (lo.toInt ≤ x.toInt ∧ x.toInt ≤ hi.toInt) → post (nI 0)) : wp_X11_in post x lo hi := by
  unfold wp_X11_in
  refine ⟨fun c => hf ?_, fun c => ⟨fun c2 => hf ?_, fun c2 => ht ?_ ?_⟩⟩
  · rw [lg_neg, Int64.lt_iff_toInt_lt] at c; omega
  · rw [lg_pos, Int64.lt_iff_toInt_lt] at c2; omega
  · rw [lg_neg, Int64.lt_iff_toInt_lt] at c; omega
  · rw [lg_pos, Int64.lt_iff_toInt_lt] at c2; omega
theorem nI_ofT {x : Int32} {c : Nat} (hc : c < 2 ^ 31) (e : x.toInt = (c : Int)) : x = nI c := Int32.toInt_inj.mp (by rw [e, nI_toInt hc])
theorem m_inN {x : Int32} {lo n : Nat} (hn : n < 2 ^ 31) (hl : lo < 2 ^ 31) {post : Int32 → Prop} (ht : ∀ c, lo ≤ c → c ≤ n → x = nI c → post (nI 1)) (hf : (¬ ∃ c, (lo ≤ c ∧ c ≤ n) ∧ x = nI c) → post (nI 0)) : wp_X11_in post x.toInt64 (lN lo) (lN n) := by
  refine m_in (fun h1 h2 => ?_) (fun h => hf ?_)
  · rw [Int32.toInt_toInt64, lN_toInt hl] at h1
    rw [Int32.toInt_toInt64, lN_toInt hn] at h2
    exact ht x.toInt.toNat (by omega) (by omega) (nI_ofT (by omega) (by omega))
  · rintro ⟨c, ⟨c1, c2⟩, rfl⟩
    apply h
    rw [Int32.toInt_toInt64, lN_toInt hl, lN_toInt hn, nI_toInt (by omega)]
    omega
theorem m_isClaim {g : Nat → Int32} {h : Nat → Nat} (hw : ag 43 g h) (H : hv h) {x : Int32} {post : Int32 → Prop} (ht : ∀ c, c < h 42 → x = nI c → post (nI 1)) (hf : (¬ ∃ c, c < h 42 ∧ x = nI c) → post (nI 0)) : wp_X11_isClaim post g x := by
  have h8 := H.1
  unfold wp_X11_isClaim
  refine ⟨vp_in_nI (by decide) (by decide), ?_⟩
  rw [hw.rd (by decide) (by decide)]
  have em : (nI (h 42) - nI 1).toInt64.toInt = (h 42 : Int) - 1 := by
    rw [Int32.toInt_toInt64, pk_sub_toInt (by omega) (by omega)]
    rfl
  have e0 : (lN 0).toInt = 0 := lN_toInt (by decide)
  refine m_in (fun h1 h2 => ⟨Or.inr rfl, ?_⟩) (fun q => ⟨Or.inl rfl, hf ?_⟩)
  · rw [e0, Int32.toInt_toInt64] at h1
    rw [em, Int32.toInt_toInt64] at h2
    exact ht x.toInt.toNat (by omega) (nI_ofT (by omega) (by omega))
  · rintro ⟨c, hc, rfl⟩
    apply q
    rw [e0, em, Int32.toInt_toInt64, nI_toInt (by omega)]
    omega
theorem m_isClaimN {g : Nat → Int32} {h : Nat → Nat} (hw : ag 43 g h) (H : hv h) {c : Nat} (hc : c < h 42) {post : Int32 → Prop} (hp : post (nI 1)) : wp_X11_isClaim post g (nI c) := m_isClaim hw H (fun _ _ _ => hp) (fun q => absurd ⟨c, hc, rfl⟩ q)
theorem zI_nI (w : Bool) : ∃ k, k ≤ 1 ∧ zI w = nI k := by
  cases w
  · exact ⟨0, by omega, rfl⟩
  · exact ⟨1, by omega, rfl⟩
theorem m_inZ {w : Bool} {post : Int32 → Prop} (hp : post (nI 1)) : wp_X11_in post (zI w).toInt64 (lN 0) (lN 1) := m_inN (by decide) (by decide) (fun _ _ _ _ => hp) (fun q => absurd (by obtain ⟨k, k1, k2⟩ := zI_nI w; exact ⟨k, ⟨Nat.zero_le _, k1⟩, k2⟩) q)
theorem n1_0 : ¬ nI 1 = 0 := by decide +kernel
theorem ag_fl2 {gw : Nat → Int32} {h : Nat → Nat} (hw : ag 43 gw h) (a b : Nat) : ag 43 (upd (upd gw (24 + a) (nI (h (24 + a) ^^^ 2 ^ b))) (24 + a) (nI (h (24 + a) ^^^ 2 ^ b ^^^ 2 ^ b))) h := fun j hj => by
  by_cases e : j = 24 + a
  · subst e; rw [pk_us, Nat.xor_assoc, Nat.xor_self, Nat.xor_zero]
  · rw [pk_un e, pk_un e]; exact hw j hj
section MCH
variable {gw : Nat → Int32} {h : Nat → Nat}
theorem m_isIn (hw : ag 43 gw h) (H : hv h) {c : Nat} (hc : c < 8) {gh gl gd gr : Nat → Int32} {i1 i2 : Int32} {go : Nat → Int32} {i3 : Int32} {post : Int32 → (Nat → Int32) → (Nat → Int32) → (Nat → Int32) → (Nat → Int32) → Int32 → Int32 → (Nat → Int32) → Int32 → Prop} (hp : ∀ gh gl gd gr i1 i2 go i3, post (zI ((tI h).testBit c)) gh gl gd gr i1 i2 go i3) : wp_X11_isIn post gw gh gl gd gr i1 i2 go i3 (nI c) := by
  unfold wp_X11_isIn
  refine m_turnsAll hw H (fun _ _ _ _ _ _ _ _ _ _ => ?_)
  refine m_has (by have := tI_lt H; omega) (by omega) ⟨zI_Z _, ?_⟩
  exact hp _ _ _ _ _ _ _ _
theorem m_changes (hw : ag 43 gw h) (H : hv h) {c : Nat} (hc : c < h 42) (hh : hd h c = true) {w : Bool} {grf : Nat → Int32} {gh gl gd gr : Nat → Int32} {i1 i2 : Int32} {go : Nat → Int32} {i3 : Int32} {post : Int32 → (Nat → Int32) → (Nat → Int32) → (Nat → Int32) → (Nat → Int32) → (Nat → Int32) → (Nat → Int32) → Int32 → Int32 → (Nat → Int32) → Int32 → Prop} (hp : ∀ gw, ag 43 gw h → ∀ gh gl gd gr i1 i2 go i3, post (if w then enc9 (chG h c (h 42)) else nI (chT h c (h 42))) gw grf gh gl gd gr i1 i2 go i3) : wp_X11_changes post gw grf gh gl gd gr i1 i2 go i3 (nI c) (zI w) := by
  have h8 := H.1
  unfold wp_X11_changes
  refine m_isClaimN hw H hc (wf2 n1_0 ?_)
  refine m_isHeard hw H.heard (by omega) ?_
  rw [hh]
  refine wf2 n1_0 (m_inZ (wf2 n1_0 ?_))
  refine m_isIn hw H (by omega) (fun gh gl gd gr i1 i2 go i3 => ?_)
  refine lo11 (fun n a v u gw gh gl gd gr i1 i2 go i3 => wp_X11_changes_62 post (nI c) (zI w) n (zI ((tI h).testBit c)) v u (nI a) gw grf gh gl gd gr i1 i2 go i3) (fun a v u gw gh gl gd gr i1 i2 go i3 => ag 43 gw h ∧ (v = nI (chT h c a) ∧ u = enc9 (chG h c a))) (h 42) _ _ _ _ _ _ _ _ _ _ _ ⟨hw, rfl, rfl⟩ ?_ ?_
  · rintro n v u gw gh gl gd gr i1 i2 go i3 ⟨hw, rfl, rfl⟩
    show wp_X11_changes_62 _ _ _ _ _ _ _ _ _ _ _ _ _ _ _ _ _ _
    unfold wp_X11_changes_62
    refine ⟨vp_in_nI (by decide) (by decide), ?_⟩
    rw [hw.rd (by decide) (by decide)]
    refine wt (nI_le (Nat.le_refl _) (by omega)) (zc2 (fun z => ?_) (fun z => ?_))
    · have r := hp
      rw [z] at r
      exact r gw hw _ _ _ _ _ _ _ _
    · have r := hp
      rw [z] at r
      exact r gw hw _ _ _ _ _ _ _ _
  · rintro n a v u gw gh gl gd gr i1 i2 go i3 ha ⟨hw, rfl, rfl⟩ ih
    show wp_X11_changes_62 _ _ _ _ _ _ _ _ _ _ _ _ _ _ _ _ _ _
    unfold wp_X11_changes_62
    refine ⟨vp_in_nI (by decide) (by decide), ?_⟩
    rw [hw.rd (by decide) (by decide)]
    refine wf (nI_ge ha (by omega)) ?_
    refine lo11 (fun m b v u gw gh gl gd gr i1 i2 go i3 => wp_X11_changes_77 post (nI c) (zI w) (wp_X11_changes_62 post (nI c) (zI w) n) m (zI ((tI h).testBit c)) v u (nI a) (nI b) gw grf gh gl gd gr i1 i2 go i3) (fun b v u gw gh gl gd gr i1 i2 go i3 => ag 43 gw h ∧ (v = nI (chT h c a + chN h c a b) ∧ u = enc9 (chH h c a b))) (h 42) _ _ _ _ _ _ _ _ _ _ _ ⟨hw, rfl, by rw [chH_0]⟩ ?_ ?_
    · rintro m v u gw gh gl gd gr i1 i2 go i3 ⟨hw, rfl, rfl⟩
      show wp_X11_changes_77 _ _ _ _ _ _ _ _ _ _ _ _ _ _ _ _ _ _ _ _
      unfold wp_X11_changes_77
      refine ⟨vp_in_nI (by decide) (by decide), ?_⟩
      rw [hw.rd (by decide) (by decide), nS a]
      refine wt (nI_le (Nat.le_refl _) (by omega)) ?_
      exact ih _ _ _ _ _ _ _ _ _ _ _ ⟨hw, rfl, by rw [chH_e]⟩
    · rintro m b v u gw gh gl gd gr i1 i2 go i3 hb ⟨hw, rfl, rfl⟩ ih2
      show wp_X11_changes_77 _ _ _ _ _ _ _ _ _ _ _ _ _ _ _ _ _ _ _ _
      unfold wp_X11_changes_77 wp_X11_changes_168
      refine ⟨vp_in_nI (by decide) (by decide), ?_⟩
      rw [hw.rd (by decide) (by decide), nS b]
      refine wf (nI_ge hb (by omega)) ?_
      have skip : chB h c a b = false → ∀ gw, ag 43 gw h → ∀ gh gl gd gr i1 i2 go i3, wp_X11_changes_77 post (nI c) (zI w) (wp_X11_changes_62 post (nI c) (zI w) n) m (zI ((tI h).testBit c)) (nI (chT h c a + chN h c a b)) (enc9 (chH h c a b)) (nI a) (nI (b + 1)) gw grf gh gl gd gr i1 i2 go i3 := fun z gw q gh gl gd gr i1 i2 go i3 => ih2 _ _ _ _ _ _ _ _ _ _ _ ⟨q, by rw [chN, z]; rfl, by rw [chH_s, z]; cases chH h c a b <;> rfl⟩
      refine wc (nI_eq (by omega) (by omega)) (fun q => skip (by unfold chB; rw [decide_eq_true q]; rfl) gw hw _ _ _ _ _ _ _ _) (fun q => ?_)
      refine m_isHeard hw H.heard (by omega) ?_
      refine zc (fun y => skip (by unfold chB; rw [y, decide_eq_false q]; rfl) gw hw _ _ _ _ _ _ _ _) (fun y => ?_)
      refine m_isHeard hw H.heard (by omega) ?_
      refine zc (fun x => skip (by unfold chB; rw [x, y, decide_eq_false q]; rfl) gw hw _ _ _ _ _ _ _ _) (fun x => ?_)
      rw [nI_add]
      refine ⟨vp_in_nI (by omega) (by decide), vp_in_nI (by omega) (by decide), ?_⟩
      rw [nI_clamp (by omega), hw (24 + a) (by omega), shl_1 (by omega), nx_xor, pk_us, nx_xor]
      have hw2 : ag 43 (upd gw (24 + a) (nI (h (24 + a) ^^^ 2 ^ b))) (fl h a b) := hw.set (24 + a) _
      have hw3 := ag_fl2 hw a b
      have Hf := H.fl_ok ha hb q
      refine m_isIn hw2 Hf (by omega) (fun gh gl gd gr i1 i2 go i3 => ?_)
      refine ⟨vp_in_nI (by omega) (by decide), vp_in_nI (by omega) (by decide), ?_⟩
      refine wc zI_inj (fun k => ?_) (fun k => ?_)
      · have zz : chB h c a b = false := by unfold chB; rw [decide_eq_true k]; simp
        refine wt (zI_inj.mpr k) ?_
        refine ih2 _ _ _ _ _ _ _ _ _ _ _ ⟨hw3, ?_, ?_⟩
        · rw [chN, zz]; exact nI_add _ 0
        · rw [chH_s, zz]; cases chH h c a b <;> rfl
      · have zz : chB h c a b = true := by unfold chB; rw [decide_eq_false k, decide_eq_false q, x, y]; rfl
        refine wf (fun k2 => k (zI_inj.mp k2)) ?_
        cases eh : chH h c a b with
        | some x =>
          have lx := chH_lt h8 (by omega) (by omega) eh
          refine wt (nI_pos' (show x < 2 ^ 31 by omega)) ?_
          refine ih2 _ _ _ _ _ _ _ _ _ _ _ ⟨hw3, ?_, ?_⟩
          · rw [chN, zz]; exact nI_add _ 1
          · rw [chH_s, eh]
        | none =>
          refine wf (show ¬ (0 : Int32) ≤ -9 by decide +kernel) ?_
          refine ih2 _ _ _ _ _ _ _ _ _ _ _ ⟨hw3, ?_, ?_⟩
          · rw [chN, zz]; exact nI_add _ 1
          · rw [chH_s, eh, zz, pk_mul, nI_add]; rfl
/-- the hall without some -/
def wo (h : Nat → Nat) (x : Nat) : Nat → Nat := upN h 40 (dif (h 40) x)
theorem wo_ok (H : hv h) (x : Nat) : hv (wo h x) := H.set_hd (Nat.lt_of_le_of_lt Nat.and_le_left H.2.2.1)
theorem ag_hd2 (hw : ag 43 gw h) (v : Int32) : ag 43 (upd (upd gw 40 v) 40 (nI (h 40))) h := fun j hj => by
  by_cases e : j = 40
  · subst e; rw [pk_us]
  · rw [pk_un e, pk_un e]; exact hw j hj
theorem m_without (hw : ag 43 gw h) (H : hv h) {c : Nat} (hc : c < h 42) {grf : Nat → Int32} {gh gl gd gr : Nat → Int32} {i1 i2 : Int32} {go : Nat → Int32} {i3 : Int32} {post : Int32 → (Nat → Int32) → (Nat → Int32) → (Nat → Int32) → (Nat → Int32) → (Nat → Int32) → (Nat → Int32) → Int32 → Int32 → (Nat → Int32) → Int32 → Prop} (hp : ∀ gw, ag 43 gw h → ∀ gh gl gd gr i1 i2 go i3, post (nI (pc (tI (wo h (2 ^ c))) 8)) gw grf gh gl gd gr i1 i2 go i3) : wp_X11_without post gw grf gh gl gd gr i1 i2 go i3 (nI c) := by
  have h8 := H.1
  have l4 := H.heard
  unfold wp_X11_without
  refine m_isClaimN hw H hc (wf2 n1_0 ?_)
  refine ⟨vp_in_nI (by decide) (by decide), vp_in_nI (by decide) (by decide), vp_in_nI (by decide) (by decide), ?_⟩
  rw [nI_clamp (by decide), hw 40 (by decide), shl_1 (by omega), nx_dif l4]
  have hw2 : ag 43 (upd gw 40 (nI (dif (h 40) (2 ^ c)))) (wo h (2 ^ c)) := hw.set 40 _
  have Hf := wo_ok H (2 ^ c)
  refine m_turnsAll hw2 Hf (fun _ _ _ _ _ _ _ _ _ _ => ⟨vp_in_nI (by decide) (by decide), ?_⟩)
  refine m_ones (by have := tI_lt Hf; omega) ?_
  exact hp _ (ag_hd2 hw _) _ _ _ _ _ _ _ _
end MCH
section SWO
variable {h : Nat → Nat} {sz hr md : Int32} {ca fi vo at_ su : Int64} {d1 d2 d3 : Int32} {d4 d5 d6 d7 d8 : Int64} {s1 s2 s3 s4 : Int64} {t1 t2 t3 : Int32} {t4 : Int64}
theorem s_draftWithout (H : hv h) (e : HC h sz hr md ca fi vo at_ su) {x : Nat} {post : Int32 → Int32 → Int32 → Int64 → Int64 → Int64 → Int64 → Int64 → Prop} (hp : ∀ d1 d2 d3 d4 d5 d6 d7 d8, HC (wo h x) d1 d2 d3 d4 d5 d6 d7 d8 → post d1 d2 d3 d4 d5 d6 d7 d8) : wp_X8_draftWithout post d1 d2 d3 d4 d5 d6 d7 d8 sz hr md ca fi vo at_ su (nI x) := by
  unfold wp_X8_draftWithout wp_X3_take
  have u := e.hd_up (dif (h 40) x)
  obtain ⟨rfl, rfl, rfl, rfl, rfl, rfl, rfl, rfl⟩ := e
  rw [nx_dif H.heard]
  exact hp _ _ _ _ _ _ _ _ u
theorem s_inWithout (H : hv h) (e : HC h sz hr md ca fi vo at_ su) {x : Nat} {post : Int32 → Int32 → Int32 → Int32 → Int64 → Int64 → Int64 → Int64 → Int64 → Int64 → Int64 → Int64 → Int64 → Int32 → Int32 → Int32 → Int64 → Prop} (hp : ∀ d1 d2 d3 d4 d5 d6 d7 d8 s1 s2 s3 s4 t1 t2 t3 t4, post (nI (pc (tI (wo h x)) 8)) d1 d2 d3 d4 d5 d6 d7 d8 s1 s2 s3 s4 t1 t2 t3 t4) : wp_X8_inWithout post d1 d2 d3 d4 d5 d6 d7 d8 s1 s2 s3 s4 t1 t2 t3 t4 sz hr md ca fi vo at_ su (nI x) := by
  unfold wp_X8_inWithout
  refine s_draftWithout H e (fun d1 d2 d3 d4 d5 d6 d7 d8 e2 => ?_)
  refine s_draftIn (wo_ok H x) e2 ?_
  intro _ _ _ _ _
  refine s_bitCount (tI_lt (wo_ok H x)) ?_
  exact hp _ _ _ _ _ _ _ _ _ _ _ _ _ _ _ _
end SWO
