-- scripts: what they do
abbrev Stk : Type := List (List Int32)
def truB : List Int32 → Bool
  | [] => false
  | [x] => decide (x ≠ 0) && decide (x ≠ -128)
  | x :: y :: L => decide (x ≠ 0) || truB (y :: L)
def numL (L : List Int32) : Int := if 128 ≤ By (L.getLastD 0) then -((leL L : Int) - 2 ^ (8 * L.length - 1)) else (leL L : Int)
def isNu (L : List Int32) : Bool := decide (L.length ≤ 4)
def bT (b : Bool) : List Int32 := if b then [1] else []
def ar1 (o : Nat) (a : Int) : Option (List Int32) := if o = 139 then some (nb (a + 1)) else if o = 140 then some (nb (a - 1)) else if o = 143 then some (nb (-a)) else if o = 144 then some (nb (if a < 0 then -a else a)) else if o = 145 then some (bT (decide (a = 0))) else if o = 146 then some (bT (decide (a ≠ 0))) else none
/-- what an op on two numbers pushes -/
def ar2 (o : Nat) (a b : Int) : Option Stk := if o = 147 then some [nb (a + b)] else if o = 148 then some [nb (a - b)] else if o = 154 then some [bT (decide (a ≠ 0 ∧ b ≠ 0))] else if o = 155 then some [bT (decide (a ≠ 0 ∨ b ≠ 0))] else if o = 156 then some [bT (decide (a = b))] else if o = 157 then (if a = b then some [] else none) else if o = 158 then some [bT (decide (a ≠ b))] else if o = 159 then some [bT (decide (a < b))] else if o = 160 then some [bT (decide (b < a))] else if o = 161 then some [bT (decide (a ≤ b))] else if o = 162 then some [bT (decide (b ≤ a))] else if o = 163 then some [nb (if a < b then a else b)] else if o = 164 then some [nb (if b < a then a else b)] else none
def cml (sg : List Int32 → List Int32 → Bool) : Stk → Stk → Bool
  | _, [] => true
  | [], _ :: _ => false
  | k :: ks, s :: ss => if sg k s then cml sg ks ss else cml sg ks (s :: ss)
set_option maxHeartbeats 400000 in
theorem cml_len (sg : List Int32 → List Int32 → Bool) : ∀ ks ss, ks.length < ss.length → cml sg ks ss = false
  | _, [], h => absurd h (Nat.not_lt_zero _)
  | [], _ :: _, _ => rfl
  | k :: ks, s :: ss, h => by
    replace h : ks.length + 1 < ss.length + 1 := h
    unfold cml
    split
    · exact cml_len sg ks ss (by omega)
    · exact cml_len sg ks (s :: ss) (by show ks.length < ss.length + 1; omega)
/-- ops 174 and 175: the stack without what is taken, the number of keys, whether all are signed -/
def cmS (sg : List Int32 → List Int32 → Bool) (S : Stk) (ops : Nat) : Option (Stk × Nat × Bool) := match S with
  | [] => none
  | n :: S => if isNu n = true ∧ 0 ≤ numL n ∧ numL n ≤ 20 ∧ ops + (numL n).toNat ≤ 201 ∧ (numL n).toNat + 1 ≤ S.length then
      (if isNu (S.getD (numL n).toNat []) = true ∧ 0 ≤ numL (S.getD (numL n).toNat []) ∧ numL (S.getD (numL n).toNat []) ≤ numL n ∧ (numL n).toNat + 1 + (numL (S.getD (numL n).toNat [])).toNat + 1 ≤ S.length then
        some (S.drop ((numL n).toNat + 1 + (numL (S.getD (numL n).toNat [])).toNat + 1), (numL n).toNat, cml sg (S.take (numL n).toNat) ((S.drop ((numL n).toNat + 1)).take (numL (S.getD (numL n).toNat [])).toNat))
      else none) else none
/-- an op that is neither a push nor a branch -/
def opS (sg : List Int32 → List Int32 → Bool) (hs : Nat → List Int32 → List Int32) (o : Nat) (S A : Stk) (ops : Nat) : Option (Stk × Stk × Nat) :=
  if o = 79 ∨ 81 ≤ o ∧ o ≤ 96 then some (nb ((o : Int) - 80) :: S, A, ops)
  else if o = 97 then some (S, A, ops)
  else if o = 105 then (match S with | x :: S => if truB x then some (S, A, ops) else none | _ => none)
  else if o = 107 then (match S with | x :: S => some (S, x :: A, ops) | _ => none)
  else if o = 108 then (match A with | x :: A => some (x :: S, A, ops) | _ => none)
  else if o = 109 then (match S with | _ :: _ :: S => some (S, A, ops) | _ => none)
  else if o = 110 then (match S with | x :: y :: S => some (x :: y :: x :: y :: S, A, ops) | _ => none)
  else if o = 115 then (match S with | x :: S => some (if truB x then x :: x :: S else x :: S, A, ops) | _ => none)
  else if o = 116 then some (nb (S.length : Int) :: S, A, ops)
  else if o = 117 then (match S with | _ :: S => some (S, A, ops) | _ => none)
  else if o = 118 then (match S with | x :: S => some (x :: x :: S, A, ops) | _ => none)
  else if o = 119 then (match S with | x :: _ :: S => some (x :: S, A, ops) | _ => none)
  else if o = 120 then (match S with | x :: y :: S => some (y :: x :: y :: S, A, ops) | _ => none)
  else if o = 121 ∨ o = 122 then (match S with | n :: S => if 1 ≤ S.length ∧ isNu n = true ∧ 0 ≤ numL n ∧ numL n < (S.length : Int) then some (S.getD (numL n).toNat [] :: (if o = 121 then S else S.eraseIdx (numL n).toNat), A, ops) else none | _ => none)
  else if o = 123 then (match S with | x :: y :: w :: S => some (w :: x :: y :: S, A, ops) | _ => none)
  else if o = 124 then (match S with | x :: y :: S => some (y :: x :: S, A, ops) | _ => none)
  else if o = 125 then (match S with | x :: y :: S => some (x :: y :: x :: S, A, ops) | _ => none)
  else if o = 130 then (match S with | x :: S => some (nb (x.length : Int) :: x :: S, A, ops) | _ => none)
  else if o = 135 then (match S with | x :: y :: S => some (bT (decide (x = y)) :: S, A, ops) | _ => none)
  else if o = 136 then (match S with | x :: y :: S => if x = y then some (S, A, ops) else none | _ => none)
  else if 139 ≤ o ∧ o ≤ 146 then (match S with | x :: S => if isNu x then (ar1 o (numL x)).map fun w => (w :: S, A, ops) else none | _ => none)
  else if 147 ≤ o ∧ o ≤ 164 then (match S with | y :: x :: S => if isNu x && isNu y then (ar2 o (numL x) (numL y)).map fun w => (w ++ S, A, ops) else none | _ => none)
  else if o = 165 then (match S with | c :: b :: a :: S => if isNu a && isNu b && isNu c then some (bT (decide (numL b ≤ numL a ∧ numL a < numL c)) :: S, A, ops) else none | _ => none)
  else if o = 166 ∨ o = 168 ∨ o = 169 ∨ o = 170 then (match S with | x :: S => some (hs o x :: S, A, ops) | _ => none)
  else if o = 172 then (match S with | k :: s :: S => some (bT (sg k s) :: S, A, ops) | _ => none)
  else if o = 173 then (match S with | k :: s :: S => if sg k s then some (S, A, ops) else none | _ => none)
  else if o = 174 then (cmS sg S ops).map fun w => (bT w.2.2 :: w.1, A, ops + w.2.1)
  else if o = 175 then (cmS sg S ops).bind fun w => if w.2.2 then some (w.1, A, ops + w.2.1) else none
  else none
def offB (I : List Bool) : Bool := I.any fun b => !b
/-- the branches' ops -/
def brS (o : Nat) (S : Stk) (I : List Bool) : Option (Stk × List Bool) :=
  if o = 99 ∨ o = 100 then (if offB I then some (S, false :: I) else match S with | x :: S => some (S, decide (truB x = decide (o = 99)) :: I) | _ => none)
  else match I with | b :: I => some (S, if o = 103 then (!b) :: I else I) | _ => none
/-- one step: script, stack, other stack, ops, branches -/
def stS (sg : List Int32 → List Int32 → Bool) (hs : Nat → List Int32 → List Int32) (o : Int32) (r : List Int32) (S A : Stk) (ops : Nat) (I : List Bool) : Option (List Int32 × Stk × Stk × Nat × List Bool) :=
  if By o < 76 then (if By o ≤ r.length then some (r.drop (By o), if offB I then S else r.take (By o) :: S, A, ops, I) else none)
  else if By o = 76 then (match r with | m :: r => if By m ≤ r.length then some (r.drop (By m), if offB I then S else r.take (By m) :: S, A, ops, I) else none | _ => none)
  else if 201 < (if 96 < By o then ops + 1 else ops) then none
  else if By o = 99 ∨ By o = 100 ∨ By o = 103 ∨ By o = 104 then (brS (By o) S I).map fun w => (r, w.1, A, ops + 1, w.2)
  else if offB I then some (r, S, A, (if 96 < By o then ops + 1 else ops), I)
  else (opS sg hs (By o) S A (if 96 < By o then ops + 1 else ops)).map fun w => (r, w.1, w.2.1, w.2.2, I)
/-- a script, run to its end -/
def rnS (sg : List Int32 → List Int32 → Bool) (hs : Nat → List Int32 → List Int32) : Nat → List Int32 → Stk → Stk → Nat → List Bool → Option Stk
  | 0, _, _, _, _, _ => none
  | _ + 1, [], S, _, _, I => if I = [] then some S else none
  | f + 1, o :: r, S, A, ops, I => (stS sg hs o r S A ops I).bind fun w => if w.2.1.length + w.2.2.1.length ≤ 200 then rnS sg hs f w.1 w.2.1 w.2.2.1 w.2.2.2.1 w.2.2.2.2 else none
def scrS (sg : List Int32 → List Int32 → Bool) (hs : Nat → List Int32 → List Int32) (a b : List Int32) : Bool := match rnS sg hs 1001 a [] [] 0 [] with
  | none => false
  | some S => match rnS sg hs 1001 b S [] 0 [] with
    | some (x :: _) => truB x
    | _ => false
-- the reference's stack
def sl (th sz : Nat → Int32) (k : Nat) (L : List Int32) : Prop := sz k = nI L.length ∧ L.length ≤ 255 ∧ bl th (256 * k) L.length = L
/-- a stack from slot c on; its first thing is on top -/
def stU (th sz : Nat → Int32) (c : Nat) : Stk → Prop
  | [] => True
  | x :: S => sl th sz (c + S.length) x ∧ stU th sz c S
/-- the other stack -/
def stA (th sz : Nat → Int32) : Stk → Prop
  | [] => True
  | x :: S => sl th sz (407 - S.length) x ∧ stA th sz S
set_option maxHeartbeats 400000 in
theorem sl_k {th sz th' sz' : Nat → Int32} {k : Nat} {L : List Int32} (h : sl th sz k L) (h1 : ∀ j, 256 * k ≤ j → j < 256 * k + 256 → th' j = th j) (h2 : sz' k = sz k) : sl th' sz' k L := by
  obtain ⟨a, b, c⟩ := h
  refine ⟨by rw [h2]; exact a, b, ?_⟩
  rw [← c, bl_len]
  exact bl_c _ _ _ fun i hi => h1 _ (by omega) (by omega)
set_option maxHeartbeats 400000 in
theorem stU_k {th sz th' sz' : Nat → Int32} {c : Nat} : ∀ {S : Stk}, stU th sz c S → (∀ j, 256 * c ≤ j → j < 256 * (c + S.length) → th' j = th j) → (∀ k, c ≤ k → k < c + S.length → sz' k = sz k) → stU th' sz' c S
  | [], _, _, _ => trivial
  | x :: S, h, h1, h2 => by
    replace h1 : ∀ j, 256 * c ≤ j → j < 256 * (c + (S.length + 1)) → th' j = th j := h1
    replace h2 : ∀ k, c ≤ k → k < c + (S.length + 1) → sz' k = sz k := h2
    refine ⟨sl_k h.1 (fun j a b => h1 j (by omega) (by omega)) (h2 _ (by omega) (by omega)), stU_k h.2 (fun j a b => h1 j a (by omega)) (fun k a b => h2 k a (by omega))⟩
set_option maxHeartbeats 400000 in
theorem stA_k {th sz th' sz' : Nat → Int32} : ∀ {S : Stk}, stA th sz S → S.length ≤ 400 → (∀ j, 256 * (408 - S.length) ≤ j → j < 256 * 408 → th' j = th j) → (∀ k, 408 - S.length ≤ k → k < 408 → sz' k = sz k) → stA th' sz' S
  | [], _, _, _, _ => trivial
  | x :: S, h, hl, h1, h2 => by
    replace hl : S.length + 1 ≤ 400 := hl
    replace h1 : ∀ j, 256 * (408 - (S.length + 1)) ≤ j → j < 256 * 408 → th' j = th j := h1
    replace h2 : ∀ k, 408 - (S.length + 1) ≤ k → k < 408 → sz' k = sz k := h2
    refine ⟨sl_k h.1 (fun j a b => h1 j (by omega) (by omega)) (h2 _ (by omega) (by omega)), stA_k h.2 (by omega) (fun j a b => h1 j (by omega) b) (fun k a b => h2 k (by omega) b)⟩
set_option maxHeartbeats 400000 in
theorem stU_ap {th sz : Nat → Int32} {c : Nat} : ∀ X Y, stU th sz c (X ++ Y) ↔ stU th sz (c + Y.length) X ∧ stU th sz c Y
  | [], Y => ⟨fun h => ⟨trivial, h⟩, fun h => h.2⟩
  | x :: X, Y => by
    show sl th sz (c + (X ++ Y).length) x ∧ stU th sz c (X ++ Y) ↔ (sl th sz (c + Y.length + X.length) x ∧ stU th sz (c + Y.length) X) ∧ stU th sz c Y
    rw [stU_ap X Y, List.length_append, show c + (X.length + Y.length) = c + Y.length + X.length from by omega, and_assoc]
set_option maxHeartbeats 400000 in
theorem stU_g {th sz : Nat → Int32} {c : Nat} : ∀ {S : Stk} {i : Nat}, i < S.length → stU th sz c S → sl th sz (c + (S.length - 1 - i)) (S.getD i [])
  | [], i, hi, _ => absurd hi (Nat.not_lt_zero _)
  | x :: S, 0, hi, h => h.1
  | x :: S, i + 1, hi, h => by
    have := stU_g (Nat.lt_of_succ_lt_succ hi) h.2
    show sl th sz (c + (S.length + 1 - 1 - (i + 1))) (S.getD i [])
    rw [show S.length + 1 - 1 - (i + 1) = S.length - 1 - i from by omega]
    exact this
/-- a slot is written, all else is as it was -/
def wS (th sz : Nat → Int32) (t : Nat) (L : List Int32) (th' sz' : Nat → Int32) : Prop := sl th' sz' t L ∧ (∀ j, j < 256 * t ∨ 256 * t + 256 ≤ j → th' j = th j) ∧ (∀ k, k ≠ t → sz' k = sz k) ∧ ftB th'
