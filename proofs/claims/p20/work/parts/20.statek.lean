/-! what a Knowledge is: κ k, the rows of ints asks 0, follows 1, blocks 2, aliases 3; ζ 0 boosts, ζ 1 0 arrived, ζ 2 0 marked -/
def Kw (cy : Nat → ClassId) (ko : Nat) (ka : Nat → Nat) (κ : Nat → Nat → Int32) (ζ : Nat → Nat → Int64) : va_W := [(ko, .inr (2, [.ref (ka 0), .ref (ka 1), .ref (ka 2), .ref (ka 3), .ref (ka 4), .long (ζ 1 0), .long (ζ 2 0)])), (ka 0, .inl (cy 0, 10, .inl (κ 0))), (ka 1, .inl (cy 0, 10, .inl (κ 1))), (ka 2, .inl (cy 0, 10, .inl (κ 2))), (ka 3, .inl (cy 0, 10, .inl (κ 3))), (ka 4, .inl (cy 1, 10, .inr (.inl (ζ 0))))]
def Aw (ac an ak ap ab : Nat) (td : Int32) : va_W := [(ac, .inr (1, [.int (nI an), .int (nI ak), .int (nI ap), .int (nI ab), .int td]))]
def Ow (no au : Nat) (kd na th we so : Int32) : va_W := [(no, .inr (3, [.int (nI au), .int kd, .int na, .int th, .int we, .int so]))]
def kHas (x : Int32) (n : Nat) : Bool := !decide ((x >>> (nI n &&& 31)) &&& 1 = 0)
def kBit (n : Nat) : Int32 := (1 : Int32) <<< (nI n &&& 31)
def kHsL (x : Int64) (n : Nat) : Bool := !decide ((x >>> ((nI n).toInt64 &&& 63)) &&& 1 = 0)
def kBL (n : Nat) : Int64 := (1 : Int64) <<< ((nI n).toInt64 &&& 63)
def kBet (κ : Nat → Nat → Int32) (p q : Nat) : Bool := kHas (κ 2 p) q || kHas (κ 2 q) p
def kSt (κ : Nat → Nat → Int32) (p o : Nat) : Nat → Nat → Int32 := va_up (va_up κ 0 (upd (κ 0) p (κ 0 p &&& (kBit o ^^^ (-1))))) 1 (upd (κ 1) p (κ 1 p ||| kBit o))
def kPart (κ : Nat → Nat → Int32) (p o : Nat) : Nat → Nat → Int32 := va_up (va_up κ 0 (upd (κ 0) p (κ 0 p &&& (kBit o ^^^ (-1))))) 1 (upd (κ 1) p (κ 1 p &&& (kBit o ^^^ (-1))))
theorem kPart_2 (κ : Nat → Nat → Int32) (p o : Nat) : kPart κ p o 2 = κ 2 := rfl
def kLF (κ : Nat → Nat → Int32) (p o : Nat) : Nat → Nat → Int32 := if kHas (κ 1 p) o = true ∨ kBet κ p o = true then κ else va_up κ 0 (upd (κ 0) p (κ 0 p ||| kBit o))
def kLA (κ : Nat → Nat → Int32) (p a : Nat) : Nat → Nat → Int32 := if kHas (κ 0 a) p = true then kSt κ a p else κ
def kLM1 (κ : Nat → Nat → Int32) (p q i : Nat) : Nat → Nat → Int32 := if i = q ∨ kBet κ i q = true then va_up κ 1 (upd (κ 1) i (κ 1 i &&& (kBit p ^^^ (-1)))) else kSt (va_up κ 1 (upd (κ 1) i (κ 1 i &&& (kBit p ^^^ (-1))))) i q
def kLM (κ : Nat → Nat → Int32) (p q : Nat) (td : Int32) : Nat → Nat → Nat → Int32
  | 0 => κ
  | i + 1 => if kHas td i = true then kLM1 (kLM κ p q td i) p q i else kLM κ p q td i
def kFo (κ : Nat → Nat → Int32) (p : Nat) : Nat → Int32
  | 0 => 0
  | o + 1 => if kHas (κ 1 o) p = true then kFo κ p o ||| kBit o else kFo κ p o
def kLearn (κ : Nat → Nat → Int32) (k p q : Nat) (td : Int32) : Nat → Nat → Int32 :=
  if k = 0 then kLF κ p q else if k = 1 then kLA κ p q
  else if k = 2 then va_up κ 0 (upd (κ 0) q (κ 0 q &&& (kBit p ^^^ (-1))))
  else if k = 3 then kPart κ p q
  else if k = 4 then va_up (kPart (kPart κ p q) q p) 2 (upd (κ 2) p (κ 2 p ||| kBit q))
  else if k = 5 then va_up κ 2 (upd (κ 2) p (κ 2 p &&& (kBit q ^^^ (-1))))
  else if k = 6 then va_up κ 3 (upd (κ 3) p (kBit q))
  else if k = 7 then kLM κ p q td 10 else κ
def zLearn (ζ : Nat → Nat → Int64) (k p n : Nat) : Nat → Nat → Int64 :=
  if k = 8 then va_up ζ 1 (fun _ => ζ 1 0 ||| kBL n)
  else if k = 9 then va_up ζ 2 (fun _ => ζ 2 0 ||| kBL n)
  else if k = 10 then va_up (va_up ζ 1 (fun _ => ζ 1 0 ||| kBL n)) 0 (vp_updL (ζ 0) p (ζ 0 p ||| kBL n)) else ζ
def kLive (ζ : Nat → Nat → Int64) : Int64 := ζ 1 0 &&& (ζ 2 0 ^^^ (-1))
def kSee (κ : Nat → Nat → Int32) (ζ : Nat → Nat → Int64) (p n au : Nat) (kd na : Int32) : Bool := kHsL (kLive ζ) n && !kBet κ p au && (decide (au = p) || kHas na p || decide (kd = 0) || (decide (kd = 1) && kHas (κ 1 p) au))
def kBf (κ : Nat → Nat → Int32) (ζ : Nat → Nat → Int64) (p n : Nat) : Nat → Bool
  | 0 => false
  | o + 1 => kBf κ ζ p n o || (kHas (κ 1 p) o && kHsL (ζ 0 o) n)
theorem kBf_of (κ : Nat → Nat → Int32) (ζ : Nat → Nat → Int64) (p n : Nat) {i : Nat} (h1 : kHas (κ 1 p) i = true) (h2 : kHsL (ζ 0 i) n = true) : ∀ j, i < j → kBf κ ζ p n j = true
  | 0, h => absurd h (Nat.not_lt_zero i)
  | j + 1, h => by
    rw [kBf]
    by_cases e : i = j
    · subst e; simp [h1, h2]
    · rw [kBf_of κ ζ p n h1 h2 j (by omega)]; rfl
def kAth (κ : Nat → Nat → Int32) (ζ : Nat → Nat → Int64) (p n au : Nat) (kd na : Int32) : Bool := kSee κ ζ p n au kd na && (decide (au = p) || kHas na p || kHas (κ 1 p) au || kBf κ ζ p n 10)
def kFg (κ : Nat → Nat → Int32) : Nat → Nat → Nat → Int32
  | 0 => κ
  | i + 1 => va_up (va_up (va_up (va_up (kFg κ i) 0 (upd (kFg κ i 0) i 0)) 1 (upd (kFg κ i 1) i 0)) 2 (upd (kFg κ i 2) i 0)) 3 (upd (kFg κ i 3) i 0)
def zFg (ζ : Nat → Nat → Int64) : Nat → Nat → Nat → Int64
  | 0 => ζ
  | i + 1 => va_up (zFg ζ i) 0 (vp_updL (zFg ζ i 0) i 0)
def jI1 (x : Int32) : Int32 := x - ((x.toUInt32 >>> ((1 : Int32).toUInt32 &&& Int32.toUInt32 31)).toInt32 &&& 1431655765)
def jI2 (x : Int32) : Int32 := (x &&& 858993459) + ((x.toUInt32 >>> ((2 : Int32).toUInt32 &&& Int32.toUInt32 31)).toInt32 &&& 858993459)
def jI3 (x : Int32) : Int32 := (x + (x.toUInt32 >>> ((4 : Int32).toUInt32 &&& Int32.toUInt32 31)).toInt32) &&& 252645135
def jI4 (x : Int32) : Int32 := x + (x.toUInt32 >>> ((8 : Int32).toUInt32 &&& Int32.toUInt32 31)).toInt32
def jI5 (x : Int32) : Int32 := x + (x.toUInt32 >>> ((16 : Int32).toUInt32 &&& Int32.toUInt32 31)).toInt32
def jIbc (x : Int32) : Int32 := jI5 (jI4 (jI3 (jI2 (jI1 x)))) &&& 63
def jL1 (x : Int64) : Int64 := x - ((x.toUInt64 >>> ((1 : Int32).toInt64.toUInt64 &&& Int64.toUInt64 63)).toInt64 &&& 6148914691236517205)
def jL2 (x : Int64) : Int64 := (x &&& 3689348814741910323) + ((x.toUInt64 >>> ((2 : Int32).toInt64.toUInt64 &&& Int64.toUInt64 63)).toInt64 &&& 3689348814741910323)
def jL3 (x : Int64) : Int64 := (x + (x.toUInt64 >>> ((4 : Int32).toInt64.toUInt64 &&& Int64.toUInt64 63)).toInt64) &&& 1085102592571150095
def jL4 (x : Int64) : Int64 := x + (x.toUInt64 >>> ((8 : Int32).toInt64.toUInt64 &&& Int64.toUInt64 63)).toInt64
def jL5 (x : Int64) : Int64 := x + (x.toUInt64 >>> ((16 : Int32).toInt64.toUInt64 &&& Int64.toUInt64 63)).toInt64
def jL6 (x : Int64) : Int64 := x + (x.toUInt64 >>> ((32 : Int32).toInt64.toUInt64 &&& Int64.toUInt64 63)).toInt64
def jLbc (x : Int64) : Int32 := (jL6 (jL5 (jL4 (jL3 (jL2 (jL1 x)))))).toInt32 &&& 127
def kSz (f : Nat → Int32) : Nat → Int32
  | 0 => 0
  | i + 1 => kSz f i + jIbc (f i)
