/-! the reference's methods of the face: what each writes and answers -/
theorem mSvr_up (μ : Nat → Nat → Int32) {k : Nat} (v : Nat → Int32) (s p : Nat) (h2 : k ≠ 2) (h4 : k ≠ 4) : ∀ n, mSvr (va_up μ k v) s p n = mSvr μ s p n
  | 0 => rfl
  | n + 1 => by
    have e2 : va_up μ k v 2 = μ 2 := va_up_ne _ _ (Ne.symm h2)
    have e4 : va_up μ k v 4 = μ 4 := va_up_ne _ _ (Ne.symm h4)
    rw [mSvr, mSvr, mSvr_up μ v s p h2 h4 n, e2, e4]
theorem mSrv_up (μ : Nat → Nat → Int32) {k : Nat} (v : Nat → Int32) (s p : Nat) (h1 : k ≠ 1) (h2 : k ≠ 2) (h4 : k ≠ 4) : mSrv (va_up μ k v) s p = mSrv μ s p := by
  have e1 : va_up μ k v 1 = μ 1 := va_up_ne _ _ (Ne.symm h1)
  rw [mSrv, mSrv, e1, mSvr_up μ v s p h2 h4]
def mThr (μ : Nat → Nat → Int32) (x : Int32) : Nat → Nat → Int32 := va_up μ 0 (fun _ => x)
def mHb (μ : Nat → Nat → Int32) (p : Nat) : Int32 := (1 : Int32) <<< (nI (tn (μ 2 p)) &&& 31)
def mTwo (μ : Nat → Nat → Int32) (p q : Int32) : Bool := mIn p 0 (μ 1 0 - 1) && mIn q 0 (μ 1 0 - 1)
def mPer (μ : Nat → Nat → Int32) (v : Int32) : Nat → Nat → Int32 := if mIn v 0 3 = false then va_up μ 0 (fun _ => 1) else if tn (μ 1 0) = 10 then va_up μ 0 (fun _ => 2) else va_up (va_up (va_up μ 0 (fun _ => 0)) 2 (upd (μ 2) (tn (μ 1 0)) v)) 1 (fun _ => nI (tn (μ 1 0) + 1))
def mPerR (μ : Nat → Nat → Int32) (v : Int32) : Int32 := if mIn v 0 3 = false then 0 else if tn (μ 1 0) = 10 then 0 else nI (tn (μ 1 0))
def mFlw (μ : Nat → Nat → Int32) (p q : Int32) : Nat → Nat → Int32 := if mTwo μ p q = false then va_up μ 0 (fun _ => 1) else if tn p = tn q then va_up μ 0 (fun _ => 2) else if ¬ μ 3 (100 * tn (μ 2 (tn p)) + 10 * tn p + tn q) = 0 ∨ ¬ μ 4 (100 * tn (μ 2 (tn p)) + 10 * tn p + tn q) = 0 ∨ mIsA μ (tn (μ 2 (tn p))) (tn p) (tn q) = true then va_up μ 0 (fun _ => 3) else mAct (va_up μ 0 (fun _ => 0)) 0 (tn p) (tn q) 0 (mHb μ (tn q))
def mAns (μ : Nat → Nat → Int32) (p q : Int32) (b : Bool) : Nat → Nat → Int32 := if mTwo μ p q = false then va_up μ 0 (fun _ => 1) else if μ 3 (100 * tn (μ 2 (tn p)) + 10 * tn q + tn p) = 0 then va_up μ 0 (fun _ => 2) else mAct (va_up μ 0 (fun _ => 0)) (if b = true then 1 else 2) (tn p) (tn q) 0 (mHb μ (tn q))
def mLea (μ : Nat → Nat → Int32) (p q : Int32) : Nat → Nat → Int32 := if mTwo μ p q = false then va_up μ 0 (fun _ => 1) else if μ 3 (100 * tn (μ 2 (tn p)) + 10 * tn p + tn q) = 0 ∧ μ 4 (100 * tn (μ 2 (tn p)) + 10 * tn p + tn q) = 0 then va_up μ 0 (fun _ => 2) else mAct (va_up μ 0 (fun _ => 0)) 3 (tn p) (tn q) 0 (mHb μ (tn q))
def mBlo (μ : Nat → Nat → Int32) (p q : Int32) (b : Bool) : Nat → Nat → Int32 := if mTwo μ p q = false then va_up μ 0 (fun _ => 1) else if tn p = tn q then va_up μ 0 (fun _ => 2) else if μ 5 (100 * tn (μ 2 (tn p)) + 10 * tn p + tn q) = bI b then va_up μ 0 (fun _ => 3) else mAct (va_up μ 0 (fun _ => 0)) (if b = true then 4 else 5) (tn p) (tn q) 0 (mHb μ (tn q))
def mAli (μ : Nat → Nat → Int32) (p q : Int32) : Nat → Nat → Int32 := if mTwo μ p q = false then va_up μ 0 (fun _ => 1) else if tn p = tn q then va_up μ 0 (fun _ => 2) else mAct (va_up μ 0 (fun _ => 0)) 6 (tn p) (tn q) 0 (mHb μ (tn q))
def mAll (μ : Nat → Nat → Int32) (s p : Nat) : Nat → Int32
  | 0 => 0
  | f + 1 => mAll μ s p f ||| (if μ 4 (100 * s + 10 * f + p) = 0 then 0 else (1 : Int32) <<< (nI f &&& 31))
def mCnt (μ : Nat → Nat → Int32) (s p : Nat) : Nat → Int32
  | 0 => 0
  | f + 1 => mCnt μ s p f + (if μ 4 (100 * s + 10 * f + p) = 0 then 0 else 1)
def mMveT (μ : Nat → Nat → Int32) (p q : Int32) : Int32 := if mTwo μ p q = false then 1 else if μ 6 (10 * tn (μ 2 (tn p)) + tn q) = nI (tn p + 1) then 0 else 2
def mMve (μ : Nat → Nat → Int32) (p q : Int32) : Nat → Nat → Int32 := if mMveT μ p q = 0 then mAct (va_up μ 0 (fun _ => 0)) 7 (tn p) (tn q) (mAll μ (tn (μ 2 (tn p))) (tn p) (tn (μ 1 0))) (mSrv μ (tn (μ 2 (tn p))) (tn p) ||| mHb μ (tn q)) else va_up μ 0 (fun _ => mMveT μ p q)
def mMveR (μ : Nat → Nat → Int32) (p q : Int32) : Int32 := if mMveT μ p q = 0 then mCnt μ (tn (μ 2 (tn p))) (tn p) (tn (μ 1 0)) else 0
def mNam (μ : Nat → Nat → Int32) (n p : Nat) : Bool := decide ((μ 14 n >>> (nI p &&& 31)) &&& 1 = 1)
def mSeen (μ : Nat → Nat → Int32) (p n : Nat) : Bool := !decide (μ 7 (50 * tn (μ 2 p) + n) = 0) && !mIsA μ (tn (μ 2 p)) p (tn (μ 12 n)) && (decide (tn (μ 12 n) = p) || mNam μ n p || decide (μ 13 n = 0) || (decide (μ 13 n = 1) && !decide (μ 4 (100 * tn (μ 2 p) + 10 * p + tn (μ 12 n)) = 0)))
def mPosT (μ : Nat → Nat → Int32) (p k a r : Int32) : Int32 := if mIn p 0 (μ 1 0 - 1) = false ∨ (¬ r = -1 ∧ mIn r 0 (μ 11 0 - 1) = false) then 1 else if mIn k 0 2 = false ∨ mIn a 0 (((1 : Int32) <<< (μ 1 0 &&& 31)) - 1) = false then 2 else if tn (μ 11 0) = 50 ∨ (¬ r < 0 ∧ mSeen μ (tn p) (tn r) = false) then 3 else 0
def mToR (μ : Nat → Nat → Int32) (a : Int32) : Nat → Int32 → Int32
  | 0, x => x
  | q + 1, x => mToR μ a q x ||| (if (a >>> (nI q &&& 31)) &&& 1 = 1 then (1 : Int32) <<< (μ 2 q &&& 31) else 0)
def mTo (μ : Nat → Nat → Int32) (p k a r : Int32) : Int32 := mToR μ a (tn (μ 1 0)) (if k = 2 then 0 else mSrv μ (tn (μ 2 (tn p))) (tn p)) ||| (if r < 0 then 0 else mHb μ (tn (μ 12 (tn r))))
def mPos0 (μ : Nat → Nat → Int32) (p k a r : Int32) : Nat → Nat → Int32 := va_up (va_up (va_up (va_up (va_up (va_up (va_up μ 0 (fun _ => 0)) 12 (upd (μ 12) (tn (μ 11 0)) (nI (tn p)))) 13 (upd (μ 13) (tn (μ 11 0)) k)) 14 (upd (μ 14) (tn (μ 11 0)) a)) 15 (upd (μ 15) (tn (μ 11 0)) r)) 16 (upd (μ 16) (tn (μ 11 0)) (mTo μ p k a r &&& (mHb μ (tn p) ^^^ (-1))))) 11 (fun _ => nI (tn (μ 11 0) + 1))
def mPos (μ : Nat → Nat → Int32) (p k a r : Int32) : Nat → Nat → Int32 := if mPosT μ p k a r = 0 then mAct (mPos0 μ p k a r) 8 (tn p) (tn (μ 11 0)) 0 (mTo μ p k a r) else va_up μ 0 (fun _ => mPosT μ p k a r)
def mPosR (μ : Nat → Nat → Int32) (p k a r : Int32) : Int32 := if mPosT μ p k a r = 0 then nI (tn (μ 11 0)) else 0
def mBits (x : Int32) : Nat → Int32
  | 0 => 0
  | k + 1 => mBits x k + ((x >>> (nI k &&& 31)) &&& 1)
def mDelT (μ : Nat → Nat → Int32) (n : Int32) : Int32 := if mIn n 0 (μ 11 0 - 1) = false then 1 else if μ 8 (50 * tn (μ 2 (tn (μ 12 (tn n)))) + tn n) = 0 then 0 else 2
def mDelS (μ : Nat → Nat → Int32) (n : Int32) : Int32 := μ 16 (tn n) ||| μ 9 (50 * tn (μ 2 (tn (μ 12 (tn n)))) + tn n)
def mDel (μ : Nat → Nat → Int32) (n : Int32) : Nat → Nat → Int32 := if mDelT μ n = 0 then mAct (va_up μ 0 (fun _ => 0)) 9 (tn (μ 12 (tn n))) (tn n) 0 (mDelS μ n) else va_up μ 0 (fun _ => mDelT μ n)
def mDelR (μ : Nat → Nat → Int32) (n : Int32) : Int32 := if mDelT μ n = 0 then mBits (mDelS μ n) 4 else 0
def mBooT (μ : Nat → Nat → Int32) (p n : Int32) : Int32 := if mIn p 0 (μ 1 0 - 1) = false ∨ mIn n 0 (μ 11 0 - 1) = false then 1 else if mSeen μ (tn p) (tn n) = false ∨ ¬ μ 13 (tn n) = 0 ∨ ¬ μ 10 (500 * tn (μ 2 (tn p)) + 50 * tn p + tn n) = 0 then 2 else 0
def mBoo (μ : Nat → Nat → Int32) (p n : Int32) : Nat → Nat → Int32 := if mBooT μ p n = 0 then mAct (va_up μ 0 (fun _ => 0)) 10 (tn p) (tn n) 0 (mSrv μ (tn (μ 2 (tn p))) (tn p) ||| mHb μ (tn (μ 12 (tn n)))) else va_up μ 0 (fun _ => mBooT μ p n)
def mDlvA (μ : Nat → Nat → Int32) (s : Nat) : Nat := tn (μ 23 (1200 * s + tn (μ 24 s)))
def mDlv (μ : Nat → Nat → Int32) (v : Int32) : Nat → Nat → Int32 := if mIn v 0 3 = false then va_up μ 0 (fun _ => 1) else if tn (μ 24 (tn v)) = tn (μ 25 (tn v)) then va_up μ 0 (fun _ => 0) else if μ 22 (600 * tn v + mDlvA μ (tn v)) = 0 then mDo (va_up (va_up μ 0 (fun _ => 0)) 24 (upd (μ 24) (tn v) (nI (tn (μ 24 (tn v)) + 1)))) (tn v) (mDlvA μ (tn v)) else va_up (va_up μ 0 (fun _ => 0)) 24 (upd (μ 24) (tn v) (nI (tn (μ 24 (tn v)) + 1)))
def mDlvR (μ : Nat → Nat → Int32) (v : Int32) : Int32 := if mIn v 0 3 = false then 0 else if tn (μ 24 (tn v)) = tn (μ 25 (tn v)) then -1 else μ 18 (mDlvA μ (tn v))
def mRep (μ : Nat → Nat → Int32) (v : Int32) : Nat → Nat → Int32 := va_up μ 0 (fun _ => if mIn v 0 3 = false then 1 else 0)
def mRepR (μ : Nat → Nat → Int32) (v : Int32) : Int32 := if mIn v 0 3 = false then 0 else if tn (μ 24 (tn v)) = 0 then -1 else μ 18 (tn (μ 23 (1200 * tn v + tn (μ 24 (tn v)) - 1)))
def mKnR (μ : Nat → Nat → Int32) (k s : Nat) (z : Nat) : Nat → Int32
  | 0 => 0
  | j + 1 => mKnR μ k s z j + (if μ k (z * s + j) = 0 then 0 else 1)
def mKn (μ : Nat → Nat → Int32) (s w : Nat) : Int32 := if w < 4 then mKnR μ (if w = 2 then 7 else 8) s 50 50 else mKnR μ (if w = 4 then 4 else 3) s 100 100
def mOfsT (μ : Nat → Nat → Int32) (v w : Int32) : Int32 := if mIn v 0 3 = false then 1 else if mIn w 0 5 = false then 2 else 0
def mOfsR (μ : Nat → Nat → Int32) (v w : Int32) : Int32 := if mOfsT μ v w = 0 then (if tn w = 0 then nI (tn (μ 25 (tn v))) - nI (tn (μ 24 (tn v))) else if tn w = 1 then mKnR μ 22 (tn v) 600 (tn (μ 17 0)) else mKn μ (tn v) (tn w)) else 0
def mBetT (μ : Nat → Nat → Int32) (v p q : Int32) : Int32 := if mIn v 0 3 = true ∧ mTwo μ p q = true then 0 else 1
def mBetR (μ : Nat → Nat → Int32) (v p q : Int32) : Int32 := if mBetT μ v p q = 0 then (if μ 4 (100 * tn v + 10 * tn p + tn q) = 0 then (if μ 3 (100 * tn v + 10 * tn p + tn q) = 0 then 0 else 1) else 2) + (if μ 5 (100 * tn v + 10 * tn p + tn q) = 0 then 0 else 4) else 0
def mSeeT (μ : Nat → Nat → Int32) (p n : Int32) : Bool := mIn p 0 (μ 1 0 - 1) && mIn n 0 (μ 11 0 - 1)
def mSee (μ : Nat → Nat → Int32) (p n : Int32) : Nat → Nat → Int32 := va_up μ 0 (fun _ => if mSeeT μ p n = true then 0 else 1)
def mSeeR (μ : Nat → Nat → Int32) (p n : Int32) : Bool := mSeeT μ p n && mSeen μ (tn p) (tn n)
def mAtHR (μ : Nat → Nat → Int32) (p n : Nat) : Nat → Bool
  | 0 => decide (tn (μ 12 n) = p) || mNam μ n p || !decide (μ 4 (100 * tn (μ 2 p) + 10 * p + tn (μ 12 n)) = 0)
  | q + 1 => mAtHR μ p n q || (!decide (μ 4 (100 * tn (μ 2 p) + 10 * p + q) = 0) && !decide (μ 10 (500 * tn (μ 2 p) + 50 * q + n) = 0))
def mAtH (μ : Nat → Nat → Int32) (p n : Nat) : Bool := mAtHR μ p n (tn (μ 1 0)) && mSeen μ p n
def mHomT (μ : Nat → Nat → Int32) (p w : Int32) : Int32 := if mIn p 0 (μ 1 0 - 1) = true ∧ ¬ w < 0 then 0 else 1
/-- the search from n - 1 downwards, left to skip -/
def mHomF (μ : Nat → Nat → Int32) (p : Nat) : Nat → Int32 → Int32
  | 0, _ => -1
  | n + 1, w => if mAtH μ p n = true then (if w = 0 then nI n else mHomF μ p n (w + Int32.ofInt (-1))) else mHomF μ p n w
def mHomR (μ : Nat → Nat → Int32) (p w : Int32) : Int32 := if mHomT μ p w = 0 then mHomF μ (tn p) (tn (μ 11 0)) w else 0
theorem mSdo_k (μ : Nat → Nat → Int32) (s : Nat) (act : Int32) (n : Nat) {k : Nat} (h9 : k ≠ 9) (h23 : k ≠ 23) (h25 : k ≠ 25) : mSdo μ s act n k = μ k := by
  rw [mSdo]
  split
  · rfl
  · rw [mSnd_k _ _ _ h23 h25, va_up_ne _ _ h9]
theorem mDoP_k (μ : Nat → Nat → Int32) (s a : Nat) {k : Nat} (h7 : k ≠ 7) (h8 : k ≠ 8) (h9 : k ≠ 9) (h10 : k ≠ 10) (h23 : k ≠ 23) (h25 : k ≠ 25) : mDoP μ s a k = μ k := by
  rw [mDoP]
  split
  · rw [mSdo_k _ _ _ _ h9 h23 h25, va_up_ne _ _ h7]
  · split
    · split
      · rw [va_up_ne _ _ h8, va_up_ne _ _ h7]
      · rw [mSnd_k _ _ _ h23 h25, va_up_ne _ _ h8, va_up_ne _ _ h7]
    · rw [va_up_ne _ _ h7, va_up_ne _ _ h10]
theorem mFol_k (μ : Nat → Nat → Int32) (s p q : Nat) {k : Nat} (h3 : k ≠ 3) (h4 : k ≠ 4) : mFol μ s p q k = μ k := by rw [mFol, va_up_ne _ _ h3, va_up_ne _ _ h4]
theorem mPar_k (μ : Nat → Nat → Int32) (s p q : Nat) {k : Nat} (h3 : k ≠ 3) (h4 : k ≠ 4) : mPar μ s p q k = μ k := by rw [mPar, va_up_ne _ _ h3, va_up_ne _ _ h4]
theorem mDo1_k (μ : Nat → Nat → Int32) (s j p q : Nat) (told : Int32) {k : Nat} (h3 : k ≠ 3) (h4 : k ≠ 4) (h5 : k ≠ 5) (h6 : k ≠ 6) : mDo1 μ s j p q told k = μ k := by
  rw [mDo1]
  split
  · rw [va_up_ne _ _ h3]
  split
  · split
    · rfl
    · rw [mFol_k _ _ _ _ h3 h4]
  split
  · rw [va_up_ne _ _ h3]
  split
  · rw [mPar_k _ _ _ _ h3 h4]
  split
  · rw [va_up_ne _ _ h6]
  split
  · rw [mMov_k _ _ _ _ _ h3 h4]
  split
  · rw [mPar_k _ _ _ _ h3 h4, mPar_k _ _ _ _ h3 h4, va_up_ne _ _ h5]
  · rw [va_up_ne _ _ h5]
theorem mDo_k (μ : Nat → Nat → Int32) (s a : Nat) {k : Nat} (h3 : k ≠ 3) (h4 : k ≠ 4) (h5 : k ≠ 5) (h6 : k ≠ 6) (h7 : k ≠ 7) (h8 : k ≠ 8) (h9 : k ≠ 9) (h10 : k ≠ 10) (h22 : k ≠ 22) (h23 : k ≠ 23) (h25 : k ≠ 25) : mDo μ s a k = μ k := by
  rw [mDo]
  split
  · rw [mDoP_k _ _ _ h7 h8 h9 h10 h23 h25, va_up_ne _ _ h22]
  · rw [mDo1_k _ _ _ _ _ _ h3 h4 h5 h6, va_up_ne _ _ h22]
theorem mDo_18 (μ : Nat → Nat → Int32) (s a : Nat) : mDo μ s a 18 = μ 18 := mDo_k μ s a (by decide) (by decide) (by decide) (by decide) (by decide) (by decide) (by decide) (by decide) (by decide) (by decide) (by decide)
theorem mWF_post (μ : Nat → Nat → Int32) {p n : Nat} {r : Int32} (h : mWF μ) (hp : p < 10) (hr : r < 0 ∨ isN r 50) : mWF (va_up (va_up μ 12 (upd (μ 12) n (nI p))) 15 (upd (μ 15) n r)) := by
  obtain ⟨h1, h2, h3, h4, h5⟩ := h
  refine ⟨h1, h2, fun j hj => ?_, fun j hj => ?_, h5⟩
  · show isN (upd (μ 12) n (nI p) j) 10
    by_cases e : j = n
    · simp only [upd, e, if_true]; exact isN_nI hp (by omega)
    · simp only [upd, e, if_false]; exact h3 j hj
  · show upd (μ 15) n r j < 0 ∨ isN (upd (μ 15) n r j) 50
    by_cases e : j = n
    · simp only [upd, e, if_true]; exact hr
    · simp only [upd, e, if_false]; exact h4 j hj
theorem mKnR_up (μ : Nat → Nat → Int32) (v : Nat → Int32) (k s z : Nat) (hk : k ≠ 0) : ∀ n, mKnR (va_up μ 0 v) k s z n = mKnR μ k s z n
  | 0 => rfl
  | n + 1 => by rw [mKnR, mKnR, mKnR_up μ v k s z hk n, va_up_ne _ _ hk]
theorem mKn_up (μ : Nat → Nat → Int32) (v : Nat → Int32) (s w : Nat) : mKn (va_up μ 0 v) s w = mKn μ s w := by
  rw [mKn, mKn, mKnR_up, mKnR_up]
  · split <;> decide
  · split <;> decide
theorem mAtHR_up (μ : Nat → Nat → Int32) (v : Nat → Int32) (p n : Nat) : ∀ q, mAtHR (va_up μ 0 v) p n q = mAtHR μ p n q
  | 0 => rfl
  | q + 1 => by
    rw [mAtHR, mAtHR, mAtHR_up μ v p n q]
    rfl
theorem mAtH_up (μ : Nat → Nat → Int32) (v : Nat → Int32) (p n : Nat) : mAtH (va_up μ 0 v) p n = mAtH μ p n := by
  rw [mAtH, mAtH, show (va_up μ 0 v) 1 0 = μ 1 0 from rfl, mAtHR_up]
  rfl
theorem sub1 (x : Int32) : x - 1 = x + Int32.ofInt (-1) := by
  rw [Int32.sub_eq_add_neg]
  rfl
