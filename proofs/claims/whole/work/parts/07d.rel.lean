/-! the relation of the two; refusals -/
def HR (sz hr md : Int32) (ca fi vo at_ su : Int64) (gw : Nat → Int32) : Prop := ∃ h, hv h ∧ HC h sz hr md ca fi vo at_ su ∧ ag 43 gw h
def KPR (sz hr md : Int32) (ca fi vo at_ su : Int64) (ik : Int32) (gk : Nat → Int32) (hi : Int32) : Prop := (ik = nI 0 ∧ hi = nI 0) ∨ (ik = nI 1 ∧ hi = nI 1) ∧ HR sz hr md ca fi vo at_ su gk
def LTR (N B : Nat) (gc : Nat → Int32) (lc : Int32) (gm : Nat → Int32) (lm : Int32) : Prop := ∃ n f, (n ≤ N ∧ lc = nI n ∧ lm = nI n) ∧ (ag n gc f ∧ ag n gm f) ∧ ∀ k, k < n → f k < B
def rfE (gc gm : Nat → Int32) : Prop := ∀ j, j < 7 → gc j = gm j
theorem rfE.up {gc gm : Nat → Int32} (h : rfE gc gm) (k : Nat) : rfE (upd gc k (gc k + nI 1)) (upd gm k (gm k + nI 1)) := fun j hj => by
  by_cases e : j = k
  · subst e; rw [pk_us, pk_us, h j hj]
  · rw [pk_un e, pk_un e]; exact h j hj
theorem s_refuse {g : Nat → Int32} {x : Int32} {k : Nat} (hx : -x = nI k) (h1 : 1 ≤ k) (h6 : k ≤ 6) {post : Int32 → (Nat → Int32) → Prop} (hp : post x (upd g k (g k + nI 1))) : wp_X10_refuse post g x := by
  unfold wp_X10_refuse
  rw [hx, nI_clamp (by omega)]
  exact wf (nI_nle (by omega) (by omega)) (wf (nI_ge (by omega) (by decide)) ⟨vp_in_nI (by omega) (by decide), vp_in_nI (by omega) (by decide), hp⟩)
theorem m_refused {g : Nat → Int32} {x : Int32} {k : Nat} (hx : -x = nI k) (h6 : k ≤ 6) {post : Int32 → (Nat → Int32) → Prop} (hp : post x (upd g k (g k + nI 1))) : wp_X11_refused post g x := by
  unfold wp_X11_refused
  rw [hx, nI_clamp (by omega)]
  exact ⟨vp_in_nI (by omega) (by decide), vp_in_nI (by omega) (by decide), hp⟩
theorem rx1 : -(-1 : Int32) = nI 1 := by decide +kernel
theorem rx2 : -(-2 : Int32) = nI 2 := by decide +kernel
theorem rx3 : -(-3 : Int32) = nI 3 := by decide +kernel
theorem rx4 : -(-4 : Int32) = nI 4 := by decide +kernel
theorem rx6 : -(-6 : Int32) = nI 6 := by decide +kernel
theorem zI_toN (b : Bool) : zI b = nI b.toNat := by cases b <;> rfl
theorem s_is12 {x : Int32} {post : Int32 → Prop} (ht : ∀ w, x = zI w → post (nI 1)) (hf : (¬ ∃ w, x = zI w) → post (nI 0)) : wp_X10_isFirstOrSecond post x := by
  unfold wp_X10_isFirstOrSecond
  refine ⟨fun e => ht false e, fun e => ⟨fun e2 => hf ?_, fun e2 => ht true e2⟩⟩
  rintro ⟨w, rfl⟩
  cases w
  · exact e rfl
  · exact e2 rfl
theorem m_in12 {x : Int32} {post : Int32 → Prop} (ht : ∀ w, x = zI w → post (nI 1)) (hf : (¬ ∃ w, x = zI w) → post (nI 0)) : wp_X11_in post x.toInt64 (lN 0) (lN 1) := by
  refine m_inN (by decide) (by decide) (fun c _ c1 e => ?_) (fun q => hf ?_)
  · have : c = 0 ∨ c = 1 := by omega
    rcases this with rfl | rfl
    · exact ht false e
    · exact ht true e
  · rintro ⟨w, rfl⟩
    obtain ⟨k, k1, k2⟩ := zI_nI w
    exact q ⟨k, ⟨Nat.zero_le _, k1⟩, k2⟩
