/-! the other holders at a READ -/
def hN (S : SX) (p b : Nat) : Nat → Nat → Bool
  | 0, _ => true
  | n + 1, k => (decide (k = p) || !xHo S k b) && hN S p b n (k + 1)
theorem hN_f {S : SX} {p b : Nat} : ∀ n k : Nat, hN S p b n k = true → ∀ q, k ≤ q → q < k + n → q ≠ p → xHo S q b = false := by
  intro n
  induction n with
  | zero => exact fun k _ q h1 h2 => absurd h2 (by omega)
  | succ n ih =>
    intro k h q h1 h2 h3
    have h' : ((decide (k = p) || !xHo S k b) && hN S p b n (k + 1)) = true := h
    rw [Bool.and_eq_true] at h'
    by_cases e : q = k
    · have h4 := h'.1
      rw [← e] at h4
      simpa [h3] using h4
    · exact ih (k + 1) h'.2 q (by omega) (by omega) h3
theorem sh_flag {p b : Nat} : ∀ (n k : Nat) (S : SX) (al : Bool), (xShF p b n k (S, al)).2 = (al && hN S p b n k) := by
  intro n
  induction n with
  | zero => exact fun k S al => (Bool.and_true al).symm
  | succ n ih =>
    intro k S al
    show (xShF p b n (k + 1) (xSh1 p b k (S, al))).2 = (al && ((decide (k = p) || !xHo S k b) && hN S p b n (k + 1)))
    by_cases e : k = p
    · rw [show xSh1 p b k (S, al) = (S, al) by simp [xSh1, e], ih]
      simp [e]
    · by_cases hh : xHo S k b = true
      · rw [show xSh1 p b k (S, al) = (xYi S (2 * k + b % 2), false) by simp [xSh1, e, hh], ih]
        simp [e, hh]
      · have hh' := Bool.eq_false_iff.mpr hh
        rw [show xSh1 p b k (S, al) = (S, al) by simp [xSh1, hh'], ih]
        simp [hh']
theorem ot_flag {N : Nat} {S M : SX} (h : RA N S M) {p b : Nat} (hb : b < 16) : ∀ n k c : Nat, n + k ≤ 4 → (mOtF M p b n k c = 0 ↔ (c = 0 ∧ hN S p b n k = true)) := by
  intro n
  induction n with
  | zero => exact fun k c _ => ⟨fun h => ⟨h, rfl⟩, fun h => h.1⟩
  | succ n ih =>
    intro k c hk
    show mOtF M p b n (k + 1) (if (!decide (k = p) && decide (¬ M.1 0 (16 * k + b) ≤ 0)) = true then c + 1 else c) = 0 ↔ (c = 0 ∧ ((decide (k = p) || !xHo S k b) && hN S p b n (k + 1)) = true)
    rw [ih (k + 1) _ (by omega)]
    have hs := ra_st h (show k < 4 by omega) hb
    have hh := ra_held h (show k < 4 by omega) hb
    by_cases e : k = p
    · simp [e]
    · by_cases hz : M.1 0 (16 * k + b) = 0
      · have h1 : xHo S k b = false := Bool.eq_false_iff.mpr (fun hx => hh.mp hx hz)
        have h2 : M.1 0 (16 * k + b) ≤ 0 := (st5_le hs).mpr hz
        simp [e, h1, h2]
      · have h1 : xHo S k b = true := hh.mpr hz
        have h2 : ¬ M.1 0 (16 * k + b) ≤ 0 := fun hx => hz ((st5_le hs).mp hx)
        simp [e, h1, h2]
theorem sh_none {p b : Nat} : ∀ (n k : Nat) (S : SX) (al : Bool), (∀ q, k ≤ q → q < k + n → q ≠ p → xHo S q b = false) → xShF p b n k (S, al) = (S, al) := by
  intro n
  induction n with
  | zero => exact fun k S al _ => rfl
  | succ n ih =>
    intro k S al h
    show xShF p b n (k + 1) (xSh1 p b k (S, al)) = (S, al)
    have e : xSh1 p b k (S, al) = (S, al) := by
      by_cases e : k = p
      · simp [xSh1, e]
      · simp [xSh1, h k (by omega) (by omega) e]
    rw [e]
    exact ih (k + 1) S al (fun q h1 h2 h3 => h q (by omega) (by omega) h3)
theorem xYi_ne {S : SX} {i j : Nat} (h : j ≠ i) : (xYi S i).1 0 j = S.1 0 j := by
  unfold xYi
  split
  · show upd (S.1 0) i 3 j = _
    rw [pk_un h]
  · split
    · show upd (S.1 0) i 1 j = _
      rw [pk_un h]
    · show upd (S.1 0) i 1 j = _
      rw [pk_un h]
theorem xYi_2 (S : SX) (i : Nat) : (xYi S i).1 2 = S.1 2 := by
  unfold xYi
  split
  · rfl
  · split <;> rfl
theorem xYi_s (S : SX) (i : Nat) : (xYi S i).2 = S.2 := by
  unfold xYi
  split
  · rfl
  · split <;> rfl
theorem sh_one {p b q : Nat} (hqp : q ≠ p) : ∀ (n k : Nat) (S : SX) (al : Bool), k ≤ q → q < k + n → xHo S q b = true → (∀ r, k ≤ r → r < k + n → r ≠ q → xHo S r b = false) → xShF p b n k (S, al) = (xYi S (2 * q + b % 2), false) := by
  intro n
  induction n with
  | zero => exact fun k S al h1 h2 => absurd h2 (by omega)
  | succ n ih =>
    intro k S al h1 h2 hh h
    show xShF p b n (k + 1) (xSh1 p b k (S, al)) = _
    by_cases e : k = q
    · subst e
      rw [show xSh1 p b k (S, al) = (xYi S (2 * k + b % 2), false) by simp [xSh1, hqp, hh]]
      refine sh_none n (k + 1) _ _ (fun r g1 g2 _ => ?_)
      rw [← h r (by omega) (by omega) (by omega)]
      exact xHo_c (xYi_ne (by omega)) (by rw [xYi_1])
    · rw [show xSh1 p b k (S, al) = (S, al) by
        have := h k (by omega) (by omega) e
        simp [xSh1, this]]
      exact ih (k + 1) S al (by omega) (by omega) hh (fun r g1 g2 g3 => h r (by omega) (by omega) g3)
theorem rl_none {p b : Nat} : ∀ (n k : Nat) (M : SX), (∀ q, k ≤ q → q < k + n → q ≠ p → M.1 0 (16 * q + b) = 0) → mRlF p b n k M = M := by
  intro n
  induction n with
  | zero => exact fun k M _ => rfl
  | succ n ih =>
    intro k M h
    show mRlF p b n (k + 1) (mRl1 p b k M) = M
    have e : mRl1 p b k M = M := by
      by_cases e : k = p
      · simp [mRl1, e]
      · simp [mRl1, h k (by omega) (by omega) e]
    rw [e]
    exact ih (k + 1) M (fun q h1 h2 h3 => h q (by omega) (by omega) h3)
theorem rl_one {p b q : Nat} (hb : b < 16) (hqp : q ≠ p) : ∀ (n k : Nat) (M : SX), ¬ 2 ≤ M.2 0 → k ≤ q → q < k + n → ¬ M.1 0 (16 * q + b) = 0 → (∀ r, k ≤ r → r < k + n → r ≠ q → M.1 0 (16 * r + b) = 0) → mRlF p b n k M = mSe M q b 1 := by
  intro n
  induction n with
  | zero => exact fun k M _ h1 h2 => absurd h2 (by omega)
  | succ n ih =>
    intro k M hpr h1 h2 hh h
    show mRlF p b n (k + 1) (mRl1 p b k M) = _
    by_cases e : k = q
    · subst e
      rw [show mRl1 p b k M = mSe M k b 1 by simp [mRl1, hqp, hh, hpr]]
      refine rl_none n (k + 1) _ (fun r g1 g2 _ => ?_)
      show upd (M.1 0) (16 * k + b) 1 (16 * r + b) = 0
      rw [pk_un (by omega)]
      exact h r (by omega) (by omega) (by omega)
    · rw [show mRl1 p b k M = M by
        have := h k (by omega) (by omega) e
        simp [mRl1, this]]
      exact ih (k + 1) M hpr (by omega) (by omega) hh (fun r g1 g2 g3 => h r (by omega) (by omega) g3)
theorem i32_3 : ¬ (0 : Int32) < 0 ∧ (0 : Int32) < 2 ∧ (1 : Int32) < 2 ∧ ¬ (2 : Int32) < 2 ∧ ¬ (3 : Int32) < 2 ∧ ¬ (2 : Int32) ≤ 0 ∧ ¬ (2 : Int32) ≤ 1 ∧ (2 : Int32) ≤ 2 ∧ (2 : Int32) ≤ 3 := by decide
/-- one other holder yields, where nothing goes to memory -/
theorem ra_y {N : Nat} {S M : SX} (h : RA N S M) {p k b : Nat} (hk : k < 4) (hb : b < 16) (hkp : k ≠ p) (hh : xHo S k b = true) (hd : ¬ S.2 0 < 2 ∨ mDi (M.1 0 (16 * k + b)) = false) :
    RA N (xYi S (2 * k + b % 2)) (mRl1 p b k M) ∧ ∃ v, st5 v ∧ ¬ v = 0 ∧ mRl1 p b k M = mSe M k b v ∧ (S.2 0 < 2 → v = 1) := by
  have e0 : M.1 0 (16 * k + b) = S.1 0 (2 * k + b % 2) := by rw [h.1 k b hk hb, if_pos hh]
  have h4 := h.2.2.2.1 (2 * k + b % 2) (by omega)
  have hnz := (xHo_t.mp hh).1
  have s0 := h.2.2.2.2.2.2.2.1.1
  obtain ⟨-, c1, c2, c3, c4, c5, c6, c7, c8⟩ := i32_3
  by_cases hpr : S.2 0 < 2
  · -- no owner: the state was 1 or 2
    have hm : ¬ 2 ≤ M.2 0 := by
      rw [s0]
      rcases h.2.2.2.2.2.2.2.2 with e | e | e | e <;> rw [e] at hpr ⊢ <;> first | assumption | exact absurd hpr (by assumption)
    have hnd : xDi (S.1 0 (2 * k + b % 2)) = false := by
      rw [di_eq h4, ← e0]
      exact hd.resolve_left (fun hx => hx hpr)
    have e1 : mRl1 p b k M = mSe M k b 1 := by
      unfold mRl1
      rw [if_neg hkp, if_neg (by rw [e0]; exact hnz), if_pos hm]
    have e2 : xYi S (2 * k + b % 2) = zA S 0 (upd (S.1 0) (2 * k + b % 2) 1) := by
      unfold xYi
      rw [hnd, if_neg (by simp), if_neg (by decide)]
    rw [e1, e2]
    exact ⟨ra_set h hk hb hh (Or.inr (Or.inl rfl)), 1, Or.inr (Or.inl rfl), by decide, rfl, fun _ => rfl⟩
  · have hm : 2 ≤ M.2 0 := by
      rw [s0]
      rcases h.2.2.2.2.2.2.2.2 with e | e | e | e <;> rw [e] at hpr ⊢ <;> first | assumption | exact absurd (by assumption) hpr
    have key : ∀ v : Int32, st5 v → ¬ v = 0 → mRl1 p b k M = mSe M k b v → xYi S (2 * k + b % 2) = zA S 0 (upd (S.1 0) (2 * k + b % 2) v) → RA N (xYi S (2 * k + b % 2)) (mRl1 p b k M) ∧ ∃ v, st5 v ∧ ¬ v = 0 ∧ mRl1 p b k M = mSe M k b v ∧ (S.2 0 < 2 → v = 1) := by
      intro v hv hv0 e1 e2
      rw [e2]
      exact ⟨e1 ▸ ra_set h hk hb hh hv, v, hv, hv0, e1, fun hx => absurd hx hpr⟩
    have hre : mRl1 p b k M = if M.1 0 (16 * k + b) = 4 then mSe M k b 3 else if M.1 0 (16 * k + b) = 2 then mSe M k b 1 else M := by
      unfold mRl1
      rw [if_neg hkp, if_neg (by rw [e0]; exact hnz), if_neg (fun hx => hx hm)]
    have hxe : xYi S (2 * k + b % 2) = if xDi (S.1 0 (2 * k + b % 2)) = true then zA S 0 (upd (S.1 0) (2 * k + b % 2) 3) else zA S 0 (upd (S.1 0) (2 * k + b % 2) 1) := by
      unfold xYi
      by_cases hx : xDi (S.1 0 (2 * k + b % 2)) = true
      · rw [hx, if_pos (by simp [hpr]), if_pos rfl]
      · rw [Bool.eq_false_iff.mpr hx]
        rfl
    rw [e0] at hre
    have e0' := e0
    rcases h4 with e | e | e | e | e
    · exact absurd e hnz
    · refine key 1 (Or.inr (Or.inl rfl)) (by decide) ?_ ?_
      · rw [hre, e, if_neg (by decide), if_neg (by decide), mSe_0 (e0.trans e)]
      · rw [hxe, e, if_neg (by decide)]
    · refine key 1 (Or.inr (Or.inl rfl)) (by decide) ?_ ?_
      · rw [hre, e, if_neg (by decide), if_pos rfl]
      · rw [hxe, e, if_neg (by decide)]
    · refine key 3 (Or.inr (Or.inr (Or.inr (Or.inl rfl)))) (by decide) ?_ ?_
      · rw [hre, e, if_neg (by decide), if_neg (by decide), mSe_0 (e0.trans e)]
      · rw [hxe, e, if_pos (by decide)]
    · refine key 3 (Or.inr (Or.inr (Or.inr (Or.inl rfl)))) (by decide) ?_ ?_
      · rw [hre, e, if_pos rfl]
      · rw [hxe, e, if_pos (by decide)]
/-- what a READ leaves of the other holders, on both sides -/
def ShOut (N : Nat) (S M S' M' : SX) (p b : Nat) : Prop :=
  RA N S' M' ∧ S'.1 2 = S.1 2 ∧ M'.1 1 = M.1 1 ∧ S'.1 0 (2 * p + b % 2) = S.1 0 (2 * p + b % 2) ∧ S'.2 = S.2 ∧ M'.2 = M.2 ∧
  (∀ q c, q < 4 → c < 16 → c ≠ b → M'.1 0 (16 * q + c) = M.1 0 (16 * q + c)) ∧ (∀ q, q < 4 → (M'.1 0 (16 * q + b) = 0 ↔ M.1 0 (16 * q + b) = 0)) ∧ M'.1 0 (16 * p + b) = M.1 0 (16 * p + b)
theorem sh_steps {N p b : Nat} (hp : p < 4) (hb : b < 16) : ∀ (n k : Nat) (S M : SX) (al : Bool), n + k ≤ 4 → RA N S M → (¬ S.2 0 < 2 ∨ ∀ q, q < 4 → mDi (M.1 0 (16 * q + b)) = false) →
    ShOut N S M (xShF p b n k (S, al)).1 (mRlF p b n k M) p b ∧ (S.2 0 < 2 → ∀ q, k ≤ q → q < k + n → q ≠ p → (mRlF p b n k M).1 0 (16 * q + b) = 0 ∨ (mRlF p b n k M).1 0 (16 * q + b) = 1) ∧ (∀ q, q < k → (mRlF p b n k M).1 0 (16 * q + b) = M.1 0 (16 * q + b)) := by
  intro n
  induction n with
  | zero => exact fun k S M al _ h _ => ⟨⟨h, rfl, rfl, rfl, rfl, rfl, fun _ _ _ _ _ => rfl, fun _ _ => Iff.rfl, rfl⟩, fun _ q h1 h2 => absurd h2 (by omega), fun _ _ => rfl⟩
  | succ n ih =>
    intro k S M al hk h hd
    show ShOut N S M (xShF p b n (k + 1) (xSh1 p b k (S, al))).1 (mRlF p b n (k + 1) (mRl1 p b k M)) p b ∧ (S.2 0 < 2 → ∀ q, k ≤ q → q < k + (n + 1) → q ≠ p → (mRlF p b n (k + 1) (mRl1 p b k M)).1 0 (16 * q + b) = 0 ∨ (mRlF p b n (k + 1) (mRl1 p b k M)).1 0 (16 * q + b) = 1) ∧ (∀ q, q < k → (mRlF p b n (k + 1) (mRl1 p b k M)).1 0 (16 * q + b) = M.1 0 (16 * q + b))
    by_cases e : k = p
    · rw [show xSh1 p b k (S, al) = (S, al) by simp [xSh1, e], show mRl1 p b k M = M by simp [mRl1, e]]
      obtain ⟨a1, a2, a3⟩ := ih (k + 1) S M al (by omega) h hd
      exact ⟨a1, fun hx q h1 h2 h3 => a2 hx q (by omega) (by omega) h3, fun q hq => a3 q (by omega)⟩
    · by_cases hh : xHo S k b = true
      · obtain ⟨b1, v, hv, hv0, b2, b3⟩ := ra_y h (p := p) (show k < 4 by omega) hb e hh (hd.imp id (fun g => g k (by omega)))
        rw [show xSh1 p b k (S, al) = (xYi S (2 * k + b % 2), false) by simp [xSh1, e, hh]]
        rw [b2] at b1 ⊢
        have gs : (xYi S (2 * k + b % 2)).2 = S.2 := xYi_s S _
        obtain ⟨⟨c1, c2, c3, c4, c5, c6, c7, c8, c10⟩, a2, a3⟩ := ih (k + 1) (xYi S (2 * k + b % 2)) (mSe M k b v) false (by omega) b1 (by
          rw [gs]
          by_cases hpr : S.2 0 < 2
          · refine Or.inr (fun q hq => ?_)
            show mDi (upd (M.1 0) (16 * k + b) v (16 * q + b)) = false
            by_cases e2 : q = k
            · rw [e2, pk_us, b3 hpr]
              decide
            · rw [pk_un (by omega)]
              exact (hd.resolve_left (fun hx => hx hpr)) q hq
          · exact Or.inl hpr)
        have gm : (mSe M k b v).1 0 = upd (M.1 0) (16 * k + b) v := rfl
        have hmk : ¬ M.1 0 (16 * k + b) = 0 := (ra_held h (by omega) hb).mp hh
        refine ⟨⟨c1, c2.trans (xYi_2 S _), c3, c4.trans (xYi_ne (by omega)), c5.trans gs, c6, fun q c hq hc hne => ?_, fun q hq => ?_, ?_⟩, fun hx q h1 h2 h3 => ?_, fun q hq => ?_⟩
        · rw [c7 q c hq hc hne, gm, pk_un (by omega)]
        · rw [c8 q hq, gm]
          by_cases e2 : q = k
          · rw [e2, pk_us]
            exact ⟨fun hx => absurd hx hv0, fun hx => absurd hx hmk⟩
          · rw [pk_un (by omega)]
        · rw [c10, gm, pk_un (by omega)]
        · by_cases e2 : q = k
          · rw [a3 q (by omega), gm, e2, pk_us]
            exact Or.inr (b3 hx)
          · exact a2 (by rw [gs]; exact hx) q (by omega) (by omega) h3
        · rw [a3 q (by omega), gm, pk_un (by omega)]
      · have hh' := Bool.eq_false_iff.mpr hh
        have hz : M.1 0 (16 * k + b) = 0 := by rw [h.1 k b (by omega) hb, if_neg hh]
        rw [show xSh1 p b k (S, al) = (S, al) by simp [xSh1, hh'], show mRl1 p b k M = M by simp [mRl1, hz]]
        obtain ⟨a1, a2, a3⟩ := ih (k + 1) S M al (by omega) h hd
        refine ⟨a1, fun hx q h1 h2 h3 => ?_, fun q hq => a3 q (by omega)⟩
        by_cases e2 : q = k
        · rw [a3 q (by omega), e2, hz]
          exact Or.inl rfl
        · exact a2 hx q (by omega) (by omega) h3
theorem pr_lt {v : Int32} (h : v = 0 ∨ v = 1 ∨ v = 2 ∨ v = 3) : (v < 2 ↔ (v = 0 ∨ v = 1)) ∧ (¬ 2 ≤ v ↔ (v = 0 ∨ v = 1)) ∧ (¬ v ≤ 0 ↔ ¬ v = 0) ∧ (3 ≤ v ↔ v = 3) := by
  rcases h with rfl | rfl | rfl | rfl <;> decide
/-- the whole READ over the other holders -/
theorem ra_sh {N : Nat} {S M : SX} (h : RA N S M) (hc : Co M) {p b : Nat} (hp : p < 4) (hb : b < 16) (he : S.1 0 (2 * p + b % 2) = 0) :
    ShOut N S M (xShF p b 4 0 (S, true)).1 (mRlF p b 4 0 (mLoM (mDhF M b 4 0) M b)) p b ∧ (S.2 0 < 2 → ∀ q, q < 4 → q ≠ p → (mRlF p b 4 0 (mLoM (mDhF M b 4 0) M b)).1 0 (16 * q + b) = 0 ∨ (mRlF p b 4 0 (mLoM (mDhF M b 4 0) M b)).1 0 (16 * q + b) = 1) := by
  have s0 := h.2.2.2.2.2.2.2.1.1
  have r9 := h.2.2.2.2.2.2.2.2
  by_cases hpr : S.2 0 < 2
  · rcases ra_dl h hb 4 0 (by omega) with ⟨-, g2, g3⟩ | ⟨q, hq, -, g2, g3, g4⟩
    · have e1 : mLoM (mDhF M b 4 0) M b = M := by
        rw [g2]
        unfold mLoM
        rw [if_neg (by simp)]
      rw [e1]
      obtain ⟨a1, a2, -⟩ := sh_steps hp hb 4 0 S M true (by omega) h (Or.inr (fun q hq => g3 q (by omega) (by omega)))
      exact ⟨a1, fun hx q hq hne => a2 hx q (by omega) (by omega) hne⟩
    · -- one dirty holder, and it is the only one
      have hm : ¬ 2 ≤ M.2 0 := by
        rw [s0]
        exact (pr_lt r9).2.1.mpr ((pr_lt r9).1.mp hpr)
      have hqz : ¬ M.1 0 (16 * q + b) = 0 := (ra_held h hq hb).mp g3
      have hqp : q ≠ p := fun e => by
        have := (xHo_t.mp g3).1
        rw [e] at this
        exact this he
      have honly : ∀ r, r < 4 → r ≠ q → M.1 0 (16 * r + b) = 0 := fun r hr hne => Classical.byContradiction fun hx => by
        have h1 := hc (by rw [s0]; exact (pr_lt r9).1.mp hpr) q r b hq hr hb (fun z => hne z.symm) hqz hx
        rw [h1] at g4
        exact absurd g4 (by decide)
      have e1 : mLoM (mDhF M b 4 0) M b = mTm M q b := by
        rw [g2]
        unfold mLoM
        rw [if_pos (by simp [hm, nI_pos (show q < 2 ^ 31 by omega)]), nI_clamp (by omega)]
      have e2 : mRlF p b 4 0 (mTm M q b) = mSe (mTm M q b) q b 1 := rl_one hb hqp 4 0 (mTm M q b) hm (by omega) (by omega) hqz (fun r _ h2 h3 => honly r (by omega) h3)
      have e3 : xShF p b 4 0 (S, true) = (xYi S (2 * q + b % 2), false) := sh_one hqp 4 0 S true (by omega) (by omega) g3 (fun r _ h2 h3 => Bool.eq_false_iff.mpr (fun hx => (ra_held h (show r < 4 by omega) hb).mp hx (honly r (by omega) h3)))
      have hdi : xDi (S.1 0 (2 * q + b % 2)) = true := by
        rw [← ra_c h hq hb, Bool.and_eq_true] at g4
        exact g4.2
      have e4 : xYi S (2 * q + b % 2) = zA (xCp S (2 * q + b % 2)) 0 (upd ((xCp S (2 * q + b % 2)).1 0) (2 * q + b % 2) 1) := by
        unfold xYi
        rw [hdi, if_neg (by simp [hpr]), if_pos rfl]
      rw [e1, e2, e3]
      show ShOut N S M (xYi S (2 * q + b % 2)) (mSe (mTm M q b) q b 1) p b ∧ _
      have gm : (mSe (mTm M q b) q b 1).1 0 = upd (M.1 0) (16 * q + b) 1 := rfl
      refine ⟨⟨?_, xYi_2 S _, rfl, xYi_ne (by omega), xYi_s S _, rfl, fun r c hr hcc hne => ?_, fun r hr => ?_, ?_⟩, fun _ r hr hne => ?_⟩
      · rw [e4]
        exact ra_set (ra_cp h hq hb g3) hq hb g3 (Or.inr (Or.inl rfl))
      · rw [gm, pk_un (by omega)]
      · rw [gm]
        by_cases e5 : r = q
        · rw [e5, pk_us]
          exact ⟨fun hx => absurd hx (by decide), fun hx => absurd hx hqz⟩
        · rw [pk_un (by omega)]
      · rw [gm, pk_un (by omega)]
      · rw [gm]
        by_cases e5 : r = q
        · rw [e5, pk_us]
          exact Or.inr rfl
        · rw [pk_un (by omega)]
          exact Or.inl (honly r hr e5)
  · have hm : 2 ≤ M.2 0 := by
      rw [s0]
      exact Classical.byContradiction fun hx => hpr ((pr_lt r9).1.mpr ((pr_lt r9).2.1.mp hx))
    have e1 : mLoM (mDhF M b 4 0) M b = M := by
      unfold mLoM
      rw [if_neg (by simp [hm])]
    rw [e1]
    obtain ⟨a1, a2, -⟩ := sh_steps hp hb 4 0 S M true (by omega) h (Or.inl hpr)
    exact ⟨a1, fun hx q hq hne => a2 hx q (by omega) (by omega) hne⟩
