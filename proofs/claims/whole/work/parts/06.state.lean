/-! what a state is: arrays by their number, scalars by theirs; the class's and the reference's methods as functions of it -/
abbrev SX : Type := (Nat → Nat → Int32) × (Nat → Int32)
def zA (S : SX) (k : Nat) (f : Nat → Int32) : SX := (fun j => if j = k then f else S.1 j, S.2)
def zF (S : SX) (k : Nat) (v : Int32) : SX := (S.1, fun j => if j = k then v else S.2 j)
theorem zA_s (S : SX) (k : Nat) (f : Nat → Int32) : (zA S k f).1 k = f := by simp [zA]
theorem zA_n {S : SX} {k j : Nat} {f : Nat → Int32} (h : j ≠ k) : (zA S k f).1 j = S.1 j := by simp [zA, h]
theorem zA_2 (S : SX) (k : Nat) (f : Nat → Int32) : (zA S k f).2 = S.2 := rfl
theorem zF_1 (S : SX) (k : Nat) (v : Int32) : (zF S k v).1 = S.1 := rfl
theorem zF_s (S : SX) (k : Nat) (v : Int32) : (zF S k v).2 k = v := by simp [zF]
theorem zF_n {S : SX} {k j : Nat} {v : Int32} (h : j ≠ k) : (zF S k v).2 j = S.2 j := by simp [zF, h]
theorem zA_zA (S : SX) (k : Nat) (f g : Nat → Int32) : zA (zA S k f) k g = zA S k g := by
  unfold zA
  congr 1
  funext j
  by_cases h : j = k <;> simp [h]
theorem zA_id (S : SX) (k : Nat) : zA S k (S.1 k) = S := by
  unfold zA
  refine Prod.ext (funext fun j => ?_) rfl
  by_cases h : j = k <;> simp [h]
def bI (b : Bool) : Int32 := if b = true then 1 else 0
theorem bI_t : bI true = 1 := rfl
theorem bI_f : bI false = 0 := rfl
theorem bI_z {b : Bool} : bI b = 0 ↔ b = false := by cases b <;> decide
theorem bI_n {b : Bool} : ¬ bI b = 0 ↔ b = true := by cases b <;> decide
theorem bI_nar (b : Bool) : narrow .boolean (.int (bI b)) = .int (bI b) := by cases b <;> decide
def inR (x n : Int32) : Bool := decide (¬ x < 0) && decide (¬ n ≤ x)
def inW (x n : Int32) : Bool := decide (¬ x < 0) && decide (¬ n < x)
def shF : Nat → (Nat → Int32) → (Nat → Int32)
  | 0, f => f
  | n + 1, f => shF n (upd f (n + 1) (f n))
-- the class: arrays 0 lineStates, 1 lineBlocks, 2 lineWords, 3 memoryWords, 4 kindCounts, 5 recent; scalars 0 chosen, 1 transactions, 2 hitCount, 3 missCount
def xHo (S : SX) (p b : Nat) : Bool := decide (¬ S.1 0 (2 * p + b % 2) = 0) && decide (S.1 1 (2 * p + b % 2) = nI b)
def xDi (v : Int32) : Bool := decide (v = 3) || decide (v = 4)
def xEl (v : Int32) : Bool := decide (v = 1) || decide (v = 3)
def xTr (S : SX) (k p b : Nat) : SX :=
  zF (zA (zA S 5 (upd (shF 7 (S.1 5)) 0 (nI (64 * k + 16 * p + b)))) 4 (upd (S.1 4) k (S.1 4 k + 1))) 1 (S.2 1 + 1)
def xCp (S : SX) (i : Nat) : SX := zA S 3 (va_cpy (S.1 2) (S.1 3) (2 * i) (2 * (S.1 1 i).toNatClampNeg) 2)
def xEmT (S : SX) (i : Nat) : SX := if xDi (S.1 0 i) = true then xCp (xTr S 4 (i / 2) (S.1 1 i).toNatClampNeg) i else S
def xEm (S : SX) (i : Nat) : SX := zA (xEmT S i) 0 (upd ((xEmT S i).1 0) i 0)
def xDlF (S : SX) (b : Nat) : Nat → Nat → Int32
  | 0, _ => -1
  | n + 1, k => if (xHo S k b && xDi (S.1 0 (2 * k + b % 2))) = true then nI (2 * k + b % 2) else xDlF S b n (k + 1)
def xDl (S : SX) (b : Nat) : Int32 := xDlF S b 4 0
def xFe (S : SX) (i b : Nat) : SX :=
  if xDl S b = -1 then zA S 2 (va_cpy (S.1 3) (S.1 2) (2 * b) (2 * i) 2)
  else zA S 2 (va_cpy (S.1 2) (S.1 2) (2 * (xDl S b).toNatClampNeg) (2 * i) 2)
def xDr1 (p b k : Nat) (S : SX) : SX := if (!decide (k = p) && xHo S k b) = true then zA S 0 (upd (S.1 0) (2 * k + b % 2) 0) else S
def xDrF (p b : Nat) : Nat → Nat → SX → SX
  | 0, _, S => S
  | n + 1, k, S => xDrF p b n (k + 1) (xDr1 p b k S)
def xYi (S : SX) (i : Nat) : SX :=
  if (xDi (S.1 0 i) && decide (¬ S.2 0 < 2)) = true then zA S 0 (upd (S.1 0) i 3)
  else if xDi (S.1 0 i) = true then zA (xCp S i) 0 (upd ((xCp S i).1 0) i 1)
  else zA S 0 (upd (S.1 0) i 1)
def xSh1 (p b k : Nat) (S : SX × Bool) : SX × Bool := if (!decide (k = p) && xHo S.1 k b) = true then (xYi S.1 (2 * k + b % 2), false) else S
def xShF (p b : Nat) : Nat → Nat → SX × Bool → SX × Bool
  | 0, _, S => S
  | n + 1, k, S => xShF p b n (k + 1) (xSh1 p b k S)
def xSh (S : SX) (p b : Nat) : SX × Int32 :=
  ((xShF p b 4 0 (S, true)).1, if ((xShF p b 4 0 (S, true)).2 && decide (¬ (xShF p b 4 0 (S, true)).1.2 0 = 0)) = true then 2 else 1)
def xLoT (S : SX) (p b k : Nat) : SX := xFe (xTr (xEm S (2 * p + b % 2)) k p b) (2 * p + b % 2) b
def xLoR (T : SX) (p b k : Nat) : SX × Int32 := if k = 1 then (xDrF p b 4 0 T, 4) else xSh T p b
def xLoE (r : SX × Int32) (i b : Nat) : SX := zA (zA r.1 1 (upd (r.1.1 1) i (nI b))) 0 (upd (r.1.1 0) i r.2)
def xLo (S : SX) (p b k : Nat) : SX := xLoE (xLoR (xLoT S p b k) p b k) (2 * p + b % 2) b
def xBr (S : SX) (p b k : Nat) : SX := if xHo S p b = true then zF S 2 (S.2 2 + 1) else xLo (zF S 3 (S.2 3 + 1)) p b k
def xClT (S : SX) (p b : Nat) : SX := if xEl (S.1 0 (2 * p + b % 2)) = true then xDrF p b 4 0 (xTr S 2 p b) else S
def xCl (S : SX) (p b : Nat) : SX := zA (xClT S p b) 0 (upd ((xClT S p b).1 0) (2 * p + b % 2) 4)
def xUp1 (p a : Nat) (w : Int32) (k : Nat) (S : SX × Bool) : SX × Bool :=
  if (!decide (k = p) && xHo S.1 k (a / 2)) = true then
    (zA (zA S.1 2 (upd (S.1.1 2) (2 * (2 * k + a / 2 % 2) + a % 2) w)) 0 (upd (S.1.1 0) (2 * k + a / 2 % 2) 1), true) else S
def xUpF (p a : Nat) (w : Int32) : Nat → Nat → SX × Bool → SX × Bool
  | 0, _, S => S
  | n + 1, k, S => xUpF p a w n (k + 1) (xUp1 p a w k S)
def xTeR (S : SX) (p a : Nat) (w : Int32) : SX × Bool := if xEl (S.1 0 (2 * p + a / 2 % 2)) = true then xUpF p a w 4 0 (xTr S 3 p (a / 2), false) else (S, false)
def xTe (S : SX) (p a : Nat) (w : Int32) : SX := zA (xTeR S p a w).1 0 (upd ((xTeR S p a w).1.1 0) (2 * p + a / 2 % 2) (if (xTeR S p a w).2 = true then 3 else 4))
def xWi (p a : Nat) : Nat := 2 * (2 * p + a / 2 % 2) + a % 2
def xWrB (S : SX) (p a : Nat) : SX := xBr S p (a / 2) (if S.2 0 = 3 then 0 else 1)
def xWrT (S : SX) (p a : Nat) (w : Int32) : SX := if (xWrB S p a).2 0 = 3 then xTe (xWrB S p a) p a w else xCl (xWrB S p a) p (a / 2)
def xWr (S : SX) (p a : Nat) (w : Int32) : SX := zA (xWrT S p a w) 2 (upd ((xWrT S p a w).1 2) (xWi p a) w)
def xFlF : Nat → Nat → SX × Nat → SX × Nat
  | 0, _, S => S
  | n + 1, k, S => xFlF n (k + 1) (xEm S.1 k, if xDi (S.1.1 0 k) = true then S.2 + 1 else S.2)
def xSo (S : SX) (v : Int32) : SX :=
  zF (zF (zF (zF (zA (zA (zA (zA S 0 (fun _ => 0)) 3 (fun _ => 0)) 4 (fun _ => 0)) 5 (fun _ => -1)) 0 v) 1 0) 2 0) 3 0
def okB (S : SX) : Prop := ∀ i, i < 8 → ∃ b, b < 16 ∧ S.1 1 i = nI b
-- the reference: arrays 0 states, 1 words, 2 memory, 3 counts, 4 last; scalars 0 protocol, 1 all, 2 hits, 3 misses, 4 thrown
def mSe (S : SX) (p b : Nat) (v : Int32) : SX := zA S 0 (upd (S.1 0) (16 * p + b) v)
def mTr (S : SX) (k p b : Nat) : SX :=
  zF (zA (zA S 3 (upd (S.1 3) k (S.1 3 k + 1))) 4 (upd (shF 7 (S.1 4)) 0 (nI (64 * k + 16 * p + b)))) 1 (S.2 1 + 1)
def mTm (S : SX) (p b : Nat) : SX := zA S 2 (upd (upd (S.1 2) (2 * b) (S.1 1 (32 * p + 2 * b))) (2 * b + 1) (S.1 1 (32 * p + 2 * b + 1)))
def mDi (v : Int32) : Bool := decide (¬ v < 3)
def mEmT (S : SX) (p b : Nat) : SX := if mDi (S.1 0 (16 * p + b)) = true then mTm (mTr S 4 p b) p b else S
def mEm (S : SX) (p b : Nat) : SX := mSe (mEmT S p b) p b 0
def mOtF (S : SX) (p b : Nat) : Nat → Nat → Nat → Nat
  | 0, _, c => c
  | n + 1, k, c => mOtF S p b n (k + 1) (if (!decide (k = p) && decide (¬ S.1 0 (16 * k + b) ≤ 0)) = true then c + 1 else c)
def mDhF (S : SX) (b : Nat) : Nat → Nat → Int32
  | 0, _ => -1
  | n + 1, k => if mDi (S.1 0 (16 * k + b)) = true then nI k else mDhF S b n (k + 1)
def mEoF (p b : Nat) : Nat → Nat → SX → SX
  | 0, _, S => S
  | n + 1, k, S => mEoF p b n (k + 1) (if k = p then S else mSe S k b 0)
def mEv1 (p c : Nat) (S : SX) : SX := if S.1 0 (16 * p + c) ≤ 0 then S else mEm S p c
def mEvF (p : Nat) : Nat → Nat → SX → SX
  | 0, _, S => S
  | n + 1, c, S => mEvF p n (c + 2) (mEv1 p c S)
def mCw1 (p b : Nat) (f : Int32) (k : Nat) (S : SX) : SX :=
  zA S 1 (upd (S.1 1) (32 * p + (2 * b + k)) (if f < 0 then S.1 2 (2 * b + k) else S.1 1 (32 * f.toNatClampNeg + (2 * b + k))))
def mCw (p b : Nat) (f : Int32) (S : SX) : SX := mCw1 p b f 1 (mCw1 p b f 0 S)
def mRl1 (p b k : Nat) (S : SX) : SX :=
  if k = p then S else if S.1 0 (16 * k + b) = 0 then S
  else if ¬ 2 ≤ S.2 0 then mSe S k b 1
  else if S.1 0 (16 * k + b) = 4 then mSe S k b 3
  else if S.1 0 (16 * k + b) = 2 then mSe S k b 1 else S
def mRlF (p b : Nat) : Nat → Nat → SX → SX
  | 0, _, S => S
  | n + 1, k, S => mRlF p b n (k + 1) (mRl1 p b k S)
def mLoT (S : SX) (p b k : Nat) : SX := mTr (mEvF p 8 (b % 2) S) k p b
def mLoU (T : SX) (p b : Nat) : SX := mCw p b (mDhF T b 4 0) T
def mLoM (f : Int32) (U : SX) (b : Nat) : SX := if (decide (¬ 2 ≤ U.2 0) && decide (¬ f < 0)) = true then mTm U f.toNatClampNeg b else U
def mLoE (al : Bool) (V : SX) (p b : Nat) : SX := mSe V p b (if (decide (¬ V.2 0 ≤ 0) && al) = true then 2 else 1)
def mLo (S : SX) (p b k : Nat) : SX :=
  if k = 1 then mSe (mEoF p b 4 0 (mLoU (mLoT S p b k) p b)) p b 4
  else mLoE (decide (mOtF (mLoU (mLoT S p b k) p b) p b 4 0 0 = 0)) (mRlF p b 4 0 (mLoM (mDhF (mLoT S p b k) b 4 0) (mLoU (mLoT S p b k) p b) b)) p b
def mHo (S : SX) (p b : Nat) : Bool := decide (¬ S.1 0 (16 * p + b) ≤ 0)
def mHi (S : SX) (p b : Nat) : SX := if mHo S p b = true then zF S 2 (S.2 2 + 1) else zF S 3 (S.2 3 + 1)
def mUp1 (p a : Nat) (w : Int32) (k : Nat) (S : SX) : SX :=
  if k = p then S else if S.1 0 (16 * k + a / 2) = 0 then S else mSe (zA S 1 (upd (S.1 1) (32 * k + a) w)) k (a / 2) 1
def mUpF (p a : Nat) (w : Int32) : Nat → Nat → SX → SX
  | 0, _, S => S
  | n + 1, k, S => mUpF p a w n (k + 1) (mUp1 p a w k S)
def mRd (S : SX) (p a : Nat) : SX := if mHo S p (a / 2) = true then mHi S p (a / 2) else mLo (mHi S p (a / 2)) p (a / 2) 0
def mWrB (S : SX) (p a : Nat) : SX := if mHo S p (a / 2) = true then mHi S p (a / 2) else mLo (mHi S p (a / 2)) p (a / 2) (if 3 ≤ (mHi S p (a / 2)).2 0 then 0 else 1)
def mWrE (S : SX) (p a : Nat) (w : Int32) (due : Int32) : SX := zA (mSe S p (a / 2) due) 1 (upd (S.1 1) (32 * p + a) w)
def mWrT (T : SX) (p a : Nat) (w : Int32) : SX :=
  if xEl (T.1 0 (16 * p + a / 2)) = true then
    if 3 ≤ T.2 0 then mWrE (mUpF p a w 4 0 (mTr T 3 p (a / 2))) p a w (if 0 < mOtF (mTr T 3 p (a / 2)) p (a / 2) 4 0 0 then 3 else 4)
    else mWrE (mEoF p (a / 2) 4 0 (mTr T 2 p (a / 2))) p a w 4
  else mWrE T p a w 4
def mWr (S : SX) (p a : Nat) (w : Int32) : SX := mWrT (mWrB S p a) p a w
def mFl1 (p b : Nat) (S : SX × Nat) : SX × Nat := if S.1.1 0 (16 * p + b) ≤ 0 then S else (mEm S.1 p b, if mDi (S.1.1 0 (16 * p + b)) = true then S.2 + 1 else S.2)
def mFlB (p : Nat) : Nat → Nat → SX × Nat → SX × Nat
  | 0, _, S => S
  | n + 1, b, S => mFlB p n (b + 2) (mFl1 p b S)
def mFlL (p : Nat) (S : SX × Nat) : SX × Nat := mFlB p 8 1 (mFlB p 8 0 S)
def mFlP : Nat → Nat → SX × Nat → SX × Nat
  | 0, _, S => S
  | n + 1, p, S => mFlP n (p + 1) (mFlL p S)
def mCh (S : SX) (v : Int32) : SX := zF (zF (zF (zF (zA (zA (zA S 0 (fun _ => 0)) 2 (fun _ => 0)) 3 (fun _ => 0)) 0 v) 1 0) 2 0) 3 0
-- public answers by their Int32 arguments
def xStV (S : SX) (x y : Int32) : Int32 := if (inR x 4 && inR y 16) = true then (if xHo S x.toNatClampNeg y.toNatClampNeg = true then S.1 0 (2 * x.toNatClampNeg + y.toNatClampNeg % 2) else 0) else -1
def xCaV (S : SX) (x y : Int32) : Int32 := if (inR x 4 && inR y 32) = true then (if xHo S x.toNatClampNeg (y.toNatClampNeg / 2) = true then S.1 2 (2 * (2 * x.toNatClampNeg + y.toNatClampNeg / 2 % 2) + y.toNatClampNeg % 2) else 0) else 0
def xMeV (S : SX) (x : Int32) : Int32 := if inR x 32 = true then S.1 3 x.toNatClampNeg else 0
def xCoV (S : SX) (x : Int32) : Int32 := if inR x 5 = true then S.1 4 x.toNatClampNeg else -1
def xLaV (S : SX) (x : Int32) : Int32 := if inR x 8 = true then S.1 5 x.toNatClampNeg else -1
theorem inR_of {x : Int32} {n : Nat} (hn : n < 2 ^ 31) (h : inR x (nI n) = true) : ∃ j, j < n ∧ x = nI j := by
  simp only [inR, Bool.and_eq_true, decide_eq_true_eq] at h
  rcases pk_ix x hn with h1 | h1 | h1
  · exact absurd h1 h.1
  · exact absurd h1 h.2
  · exact h1
theorem inR_of2 {x : Int32} {n : Nat} (hn : n < 2 ^ 31) (h1 : ¬ x < 0) (h2 : ¬ nI n ≤ x) : ∃ j, j < n ∧ x = nI j :=
  inR_of hn (by simp only [inR, Bool.and_eq_true, decide_eq_true_eq]; exact ⟨h1, h2⟩)
theorem inR_t {j n : Nat} (h : j < n) (hn : n < 2 ^ 31) : inR (nI j) (nI n) = true := by
  simp only [inR, Bool.and_eq_true, decide_eq_true_eq]
  exact ⟨nI_pos (Nat.lt_trans h hn), nI_ge h hn⟩
theorem xYi_1 (S : SX) (i : Nat) : (xYi S i).1 1 = S.1 1 := by
  unfold xYi
  split
  · rfl
  · split <;> rfl
theorem xEm_1 (S : SX) (i : Nat) : (xEm S i).1 1 = S.1 1 := by
  unfold xEm xEmT
  split <;> rfl
theorem xFe_1 (S : SX) (i b : Nat) : (xFe S i b).1 1 = S.1 1 := by
  unfold xFe
  split <;> rfl
theorem xLoT_1 (S : SX) (p b k : Nat) : (xLoT S p b k).1 1 = S.1 1 := by
  unfold xLoT
  rw [xFe_1]
  exact xEm_1 S _
theorem xDlF_nat {S : SX} {b : Nat} (hb : b < 16) : ∀ n k : Nat, n + k ≤ 4 → ¬ xDlF S b n k = -1 → ∃ c, c < 8 ∧ xDlF S b n k = nI c
  | 0, _, _, h => absurd rfl h
  | n + 1, k, hk, h => by
    unfold xDlF at h ⊢
    split
    · exact ⟨2 * k + b % 2, by omega, rfl⟩
    · rename_i h2
      rw [if_neg h2] at h
      exact xDlF_nat hb n (k + 1) (by omega) h
theorem xDl_nat {S : SX} {b : Nat} (hb : b < 16) (h : ¬ xDl S b = -1) : ∃ c, c < 8 ∧ xDl S b = nI c := xDlF_nat hb 4 0 (by omega) h
-- the reference's public answers
def mStV (S : SX) (x y : Int32) : Int32 := if (inW x 3 && inW y 15) = true then S.1 0 (16 * x.toNatClampNeg + y.toNatClampNeg) else -1
def mCaV (S : SX) (x y : Int32) : Int32 := if (inW x 3 && inW y 31) = true then (if S.1 0 (16 * x.toNatClampNeg + y.toNatClampNeg / 2) = 0 then 0 else S.1 1 (32 * x.toNatClampNeg + y.toNatClampNeg)) else 0
def mMeV (S : SX) (x : Int32) : Int32 := if inW x 31 = true then S.1 2 x.toNatClampNeg else 0
def mCoV (S : SX) (x : Int32) : Int32 := if inW x 4 = true then S.1 3 x.toNatClampNeg else -1
def mLaV (S : SX) (x : Int32) : Int32 := if inW x 7 = true then (if S.2 1 ≤ x then -1 else S.1 4 x.toNatClampNeg) else -1
theorem inW_R {x : Int32} {n : Nat} (hn : n + 1 < 2 ^ 31) : inW x (nI n) = inR x (nI (n + 1)) := by
  rcases pk_ix x hn with h | h | ⟨j, hj, rfl⟩
  · simp [inW, inR, h]
  · have h2 : nI n < x := by
      rw [Int32.lt_iff_toInt_lt, nI_toInt (by omega)]
      rw [Int32.le_iff_toInt_le, nI_toInt hn] at h
      omega
    simp [inW, inR, h, h2]
  · have h1 : ¬ nI j < 0 := nI_pos (by omega)
    have h2 : ¬ nI n < nI j := nI_nlt (by omega) (by omega)
    have h3 : ¬ nI (n + 1) ≤ nI j := nI_ge hj hn
    simp [inW, inR, h1, h2, h3]
theorem inW_of {x : Int32} {n : Nat} (hn : n + 1 < 2 ^ 31) (h : inW x (nI n) = true) : ∃ j, j < n + 1 ∧ x = nI j := inR_of hn (by rw [← inW_R hn]; exact h)
theorem inW_t {j n : Nat} (h : j < n + 1) (hn : n + 1 < 2 ^ 31) : inW (nI j) (nI n) = true := by rw [inW_R hn]; exact inR_t h hn
theorem mDhF_nat {S : SX} {b : Nat} : ∀ n k : Nat, n + k ≤ 4 → mDhF S b n k = -1 ∨ ∃ c, c < 4 ∧ mDhF S b n k = nI c
  | 0, _, _ => Or.inl rfl
  | n + 1, k, hk => by
    unfold mDhF
    split
    · exact Or.inr ⟨k, by omega, rfl⟩
    · exact mDhF_nat n (k + 1) (by omega)
theorem mOtF_le {S : SX} {p b : Nat} : ∀ n k c : Nat, mOtF S p b n k c ≤ n + c
  | 0, _, _ => by simp [mOtF]
  | n + 1, k, c => by
    unfold mOtF
    split
    · exact Nat.le_trans (mOtF_le n (k + 1) (c + 1)) (by omega)
    · exact Nat.le_trans (mOtF_le n (k + 1) c) (by omega)
