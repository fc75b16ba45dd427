-- SHA-256: the words of a chunk, the schedule, the rounds
theorem inb_nI {t n : Nat} (h : t < n) (hn : n < 2 ^ 31) : inb (nI t) n = true := decide_eq_true (vp_in_nI h hn)
theorem gd_t {β : Type} {b : Bool} {x : Option β} (h : b = true) : gd b x = x := if_pos h
def s_ror (x : Int32) (a b : Int32) : Int32 := (x.toUInt32 >>> (a.toUInt32 &&& Int32.toUInt32 31)).toInt32 ||| (x <<< (b &&& 31))
def s_shr (x : Int32) (a : Int32) : Int32 := (x.toUInt32 >>> (a.toUInt32 &&& Int32.toUInt32 31)).toInt32
/-- the next word of the schedule -/
def s_ex (w : Nat → Int32) (t : Nat) : Int32 :=
  ((w (t - 16) + ((s_ror (w (t - 15)) 7 25 ^^^ s_ror (w (t - 15)) 18 14) ^^^ s_shr (w (t - 15)) 3)) + w (t - 7)) + ((s_ror (w (t - 2)) 17 15 ^^^ s_ror (w (t - 2)) 19 13) ^^^ s_shr (w (t - 2)) 10)
def s_sch (w : Nat → Int32) : Nat → Nat → Int32
  | 0 => w
  | i + 1 => upd (s_sch w i) (16 + i) (s_ex (s_sch w i) (16 + i))
abbrev S8 : Type := Int32 × Int32 × Int32 × Int32 × Int32 × Int32 × Int32 × Int32
/-- one round -/
def s_rd (k w : Int32) (v : S8) : S8 := match v with
  | (a, b, c, d, e, f, g, h) =>
    let t1 := (((h + ((s_ror e 6 26 ^^^ s_ror e 11 21) ^^^ s_ror e 25 7)) + ((e &&& f) ^^^ ((e ^^^ (-1)) &&& g))) + k) + w
    let t2 := ((s_ror a 2 30 ^^^ s_ror a 13 19) ^^^ s_ror a 22 10) + (((a &&& b) ^^^ (a &&& c)) ^^^ (b &&& c))
    (t1 + t2, a, b, c, d + t1, e, f, g)
def s_rds (kf wf : Nat → Int32) (v : S8) : Nat → S8
  | 0 => v
  | i + 1 => s_rd (kf i) (wf i) (s_rds kf wf v i)
theorem sh_sch1 (fu : Nat) (jl : Int64) (ck : Nat → Int32) (n : Nat) (u0 : Int32) (u1 w : Nat → Int32) (t : Nat) (h1 : 16 ≤ t) (h2 : t < 64) :
    x_Sh_mix_81 fu jl ck (n + 1) (nI t) u0 u1 w = x_Sh_mix_81 fu jl ck n (nI (t + 1)) u0 u1 (upd w t (s_ex w t)) := by
  show xb_Sh_mix_81 fu jl ck (x_Sh_mix_81 fu jl ck n) (nI t) u0 u1 w = _
  unfold xb_Sh_mix_81
  rw [if_neg (show ¬ (64 : Int32) ≤ nI t from nI_ge (b := 64) (by omega) (by decide))]
  have e15 : nI t - (15 : Int32) = nI (t - 15) := pk_sub (b := 15) (by omega)
  have e2 : nI t - (2 : Int32) = nI (t - 2) := pk_sub (b := 2) (by omega)
  have e16 : nI t - (16 : Int32) = nI (t - 16) := pk_sub (b := 16) (by omega)
  have e7 : nI t - (7 : Int32) = nI (t - 7) := pk_sub (b := 7) (by omega)
  simp only [bnd, e15, e2, e16, e7, nI_1]
  rw [gd_t (inb_nI (by omega) (by omega)), gd_t (inb_nI (by omega) (by omega)), gd_t (inb_nI (by omega) (by omega)), gd_t (inb_nI (by omega) (by omega)), gd_t (inb_nI (by omega) (by omega))]
  rw [nI_clamp (n := t - 15) (by omega), nI_clamp (n := t - 2) (by omega), nI_clamp (n := t - 16) (by omega), nI_clamp (n := t - 7) (by omega), nI_clamp (n := t) (by omega)]
  rfl
theorem sh_sch (fu : Nat) (jl : Int64) (ck : Nat → Int32) (u0 : Int32) (u1 w : Nat → Int32) (n : Nat) : ∀ i, i ≤ 48 →
    x_Sh_mix_81 fu jl ck (n + 48) 16 u0 u1 w = x_Sh_mix_81 fu jl ck (n + (48 - i)) (nI (16 + i)) u0 u1 (s_sch w i)
  | 0, _ => rfl
  | i + 1, h => by
    rw [sh_sch fu jl ck u0 u1 w n i (by omega)]
    have e1 : n + (48 - i) = (n + (48 - (i + 1))) + 1 := by omega
    rw [e1, sh_sch1 fu jl ck _ u0 u1 _ (16 + i) (by omega) (by omega)]
    rfl
def s_fin (st : Nat → Int32) (v : S8) : Nat → Int32 :=
  upd (upd (upd (upd (upd (upd (upd (upd st 0 (st 0 + v.1)) 1 (st 1 + v.2.1)) 2 (st 2 + v.2.2.1)) 3 (st 3 + v.2.2.2.1)) 4 (st 4 + v.2.2.2.2.1)) 5 (st 5 + v.2.2.2.2.2.1)) 6 (st 6 + v.2.2.2.2.2.2.1)) 7 (st 7 + v.2.2.2.2.2.2.2)
def s_st (st : Nat → Int32) : S8 := (st 0, st 1, st 2, st 3, st 4, st 5, st 6, st 7)
/-- a chunk's words into a state -/
def s_cmp (kf : Nat → Int32) (st w : Nat → Int32) : Nat → Int32 := s_fin st (s_rds kf (s_sch w 48) (s_st st) 64)
def kc (j : Nat) : Int32 := tb_2.getD j 0
theorem sh_rd1 (fu : Nat) (jl : Int64) (ck : Nat → Int32) (n : Nat) (v : S8) (u0 : Int32) (u1 w : Nat → Int32) (t : Nat) (h2 : t < 64) :
    x_Sh_mix_252 fu jl ck (n + 1) v.1 v.2.1 v.2.2.1 v.2.2.2.1 v.2.2.2.2.1 v.2.2.2.2.2.1 v.2.2.2.2.2.2.1 v.2.2.2.2.2.2.2 (nI t) u0 u1 w
      = x_Sh_mix_252 fu jl ck n (s_rd (kc t) (w t) v).1 (s_rd (kc t) (w t) v).2.1 (s_rd (kc t) (w t) v).2.2.1 (s_rd (kc t) (w t) v).2.2.2.1 (s_rd (kc t) (w t) v).2.2.2.2.1 (s_rd (kc t) (w t) v).2.2.2.2.2.1 (s_rd (kc t) (w t) v).2.2.2.2.2.2.1 (s_rd (kc t) (w t) v).2.2.2.2.2.2.2 (nI (t + 1)) u0 u1 w := by
  obtain ⟨a, b, c, d, e, f, g, h⟩ := v
  show xb_Sh_mix_252 fu jl ck (x_Sh_mix_252 fu jl ck n) a b c d e f g h (nI t) u0 u1 w = _
  unfold xb_Sh_mix_252
  rw [if_neg (show ¬ (64 : Int32) ≤ nI t from nI_ge (b := 64) (by omega) (by decide))]
  simp only [bnd, nI_1]
  rw [gd_t (inb_nI (by omega) (by omega)), gd_t (inb_nI (by omega) (by omega)), nI_clamp (n := t) (by omega)]
  rfl
theorem sh_rds (fu : Nat) (jl : Int64) (ck : Nat → Int32) (u0 : Int32) (u1 w : Nat → Int32) (n : Nat) (v : S8) : ∀ i, i ≤ 64 →
    x_Sh_mix_252 fu jl ck (n + 64) v.1 v.2.1 v.2.2.1 v.2.2.2.1 v.2.2.2.2.1 v.2.2.2.2.2.1 v.2.2.2.2.2.2.1 v.2.2.2.2.2.2.2 0 u0 u1 w
      = x_Sh_mix_252 fu jl ck (n + (64 - i)) (s_rds kc w v i).1 (s_rds kc w v i).2.1 (s_rds kc w v i).2.2.1 (s_rds kc w v i).2.2.2.1 (s_rds kc w v i).2.2.2.2.1 (s_rds kc w v i).2.2.2.2.2.1 (s_rds kc w v i).2.2.2.2.2.2.1 (s_rds kc w v i).2.2.2.2.2.2.2 (nI i) u0 u1 w
  | 0, _ => rfl
  | i + 1, h => by
    rw [sh_rds fu jl ck u0 u1 w n v i (by omega)]
    have e1 : n + (64 - i) = (n + (64 - (i + 1))) + 1 := by omega
    rw [e1, sh_rd1 fu jl ck _ (s_rds kc w v i) u0 u1 w i (by omega)]
    rfl
theorem sh_end (fu : Nat) (jl : Int64) (ck : Nat → Int32) (n : Nat) (v : S8) (u0 : Int32) (u1 w : Nat → Int32) :
    x_Sh_mix_252 fu jl ck (n + 1) v.1 v.2.1 v.2.2.1 v.2.2.2.1 v.2.2.2.2.1 v.2.2.2.2.2.1 v.2.2.2.2.2.2.1 v.2.2.2.2.2.2.2 (nI 64) u0 u1 w = some (0, s_fin u1 v, w) := by
  obtain ⟨a, b, c, d, e, f, g, h⟩ := v
  show xb_Sh_mix_252 fu jl ck (x_Sh_mix_252 fu jl ck n) a b c d e f g h (nI 64) u0 u1 w = _
  unfold xb_Sh_mix_252
  rw [if_pos (show (64 : Int32) ≤ nI 64 from by decide)]
  rfl
/-- a word of a chunk -/
def s_wd (ck : Nat → Int32) (i : Nat) : Int32 :=
  (((ck (4 * i) <<< ((24 : Int32) &&& 31)) ||| ((ck (4 * i + 1) &&& 255) <<< ((16 : Int32) &&& 31))) ||| ((ck (4 * i + 2) &&& 255) <<< ((8 : Int32) &&& 31))) ||| (ck (4 * i + 3) &&& 255)
def s_ld (ck w : Nat → Int32) : Nat → Nat → Int32
  | 0 => w
  | i + 1 => upd (s_ld ck w i) i (s_wd ck i)
theorem sh_ld1 (fu : Nat) (jl : Int64) (ck : Nat → Int32) (n : Nat) (u0 : Int32) (u1 w : Nat → Int32) (t : Nat) (h2 : t < 16) :
    x_Sh_mix_2 fu jl ck (n + 1) (nI t) u0 u1 w = x_Sh_mix_2 fu jl ck n (nI (t + 1)) u0 u1 (upd w t (s_wd ck t)) := by
  show xb_Sh_mix_2 fu jl ck (x_Sh_mix_2 fu jl ck n) (nI t) u0 u1 w = _
  unfold xb_Sh_mix_2
  rw [if_neg (show ¬ (16 : Int32) ≤ nI t from nI_ge (b := 16) (by omega) (by decide))]
  have e4 : (4 : Int32) * nI t = nI (4 * t) := pk_mul 4 t
  have a1 : nI (4 * t) + (1 : Int32) = nI (4 * t + 1) := nI_add (4 * t) 1
  have a2 : nI (4 * t) + (2 : Int32) = nI (4 * t + 2) := nI_add (4 * t) 2
  have a3 : nI (4 * t) + (3 : Int32) = nI (4 * t + 3) := nI_add (4 * t) 3
  simp only [bnd, e4, a1, a2, a3, nI_1]
  rw [gd_t (inb_nI (by omega) (by omega)), gd_t (inb_nI (by omega) (by omega)), gd_t (inb_nI (by omega) (by omega)), gd_t (inb_nI (by omega) (by omega)), gd_t (inb_nI (by omega) (by omega))]
  rw [nI_clamp (n := 4 * t) (by omega), nI_clamp (n := 4 * t + 1) (by omega), nI_clamp (n := 4 * t + 2) (by omega), nI_clamp (n := 4 * t + 3) (by omega), nI_clamp (n := t) (by omega)]
  rfl
theorem sh_ld (fu : Nat) (jl : Int64) (ck : Nat → Int32) (u0 : Int32) (u1 w : Nat → Int32) (n : Nat) : ∀ i, i ≤ 16 →
    x_Sh_mix_2 fu jl ck (n + 16) 0 u0 u1 w = x_Sh_mix_2 fu jl ck (n + (16 - i)) (nI i) u0 u1 (s_ld ck w i)
  | 0, _ => rfl
  | i + 1, h => by
    rw [sh_ld fu jl ck u0 u1 w n i (by omega)]
    have e1 : n + (16 - i) = (n + (16 - (i + 1))) + 1 := by omega
    rw [e1, sh_ld1 fu jl ck _ u0 u1 _ i (by omega)]
    rfl
/-- Sha256.mix(): the chunk into the state -/
theorem sh_mix (fu : Nat) (hfu : 65 ≤ fu) (jl : Int64) (ck : Nat → Int32) (u0 : Int32) (u1 w : Nat → Int32) :
    x_Sh_mix fu jl ck u0 u1 w = some (0, s_cmp kc u1 (s_ld ck w 16), s_sch (s_ld ck w 16) 48) := by
  obtain ⟨n1, e1⟩ : ∃ n1, fu = (n1 + 1) + 16 := ⟨fu - 17, by omega⟩
  obtain ⟨n2, e2⟩ : ∃ n2, fu = (n2 + 1) + 48 := ⟨fu - 49, by omega⟩
  obtain ⟨n3, e3⟩ : ∃ n3, fu = (n3 + 1) + 64 := ⟨fu - 65, by omega⟩
  have s1 : x_Sh_mix fu jl ck u0 u1 w = x_Sh_mix_2 fu jl ck (n1 + 1) (nI 16) u0 u1 (s_ld ck w 16) := by
    show x_Sh_mix_2 fu jl ck fu 0 u0 u1 w = _
    have h := sh_ld fu jl ck u0 u1 w (n1 + 1) 16 (Nat.le_refl _)
    rw [← e1] at h
    exact h
  have s2 : x_Sh_mix_2 fu jl ck (n1 + 1) (nI 16) u0 u1 (s_ld ck w 16) = x_Sh_mix_81 fu jl ck fu 16 u0 u1 (s_ld ck w 16) := by
    show xb_Sh_mix_2 fu jl ck (x_Sh_mix_2 fu jl ck n1) (nI 16) u0 u1 (s_ld ck w 16) = _
    unfold xb_Sh_mix_2
    rw [if_pos (show (16 : Int32) ≤ nI 16 from by decide)]
  have s3 : x_Sh_mix_81 fu jl ck fu 16 u0 u1 (s_ld ck w 16) = x_Sh_mix_81 fu jl ck (n2 + 1) (nI 64) u0 u1 (s_sch (s_ld ck w 16) 48) := by
    have h := sh_sch fu jl ck u0 u1 (s_ld ck w 16) (n2 + 1) 48 (Nat.le_refl _)
    rw [← e2] at h
    exact h
  have s4 : x_Sh_mix_81 fu jl ck (n2 + 1) (nI 64) u0 u1 (s_sch (s_ld ck w 16) 48) = x_Sh_mix_252 fu jl ck fu (s_st u1).1 (s_st u1).2.1 (s_st u1).2.2.1 (s_st u1).2.2.2.1 (s_st u1).2.2.2.2.1 (s_st u1).2.2.2.2.2.1 (s_st u1).2.2.2.2.2.2.1 (s_st u1).2.2.2.2.2.2.2 0 u0 u1 (s_sch (s_ld ck w 16) 48) := by
    show xb_Sh_mix_81 fu jl ck (x_Sh_mix_81 fu jl ck n2) (nI 64) u0 u1 (s_sch (s_ld ck w 16) 48) = _
    unfold xb_Sh_mix_81
    rw [if_pos (show (64 : Int32) ≤ nI 64 from by decide)]
    rfl
  have s5 := sh_rds fu jl ck u0 u1 (s_sch (s_ld ck w 16) 48) (n3 + 1) (s_st u1) 64 (Nat.le_refl _)
  rw [← e3] at s5
  rw [s1, s2, s3, s4, s5]
  exact sh_end fu jl ck n3 _ u0 u1 _
-- the reference's SHA-256: its loops
theorem bnd_e {α β : Type} (e : α) (k : α → β) : bnd e k = k e := rfl
theorem m_turn (fu : Nat) (x a : Int32) : x_M_turn fu x a = some ((x.toUInt32 >>> (a.toUInt32 &&& Int32.toUInt32 31)).toInt32 ||| (x <<< (((32 : Int32) - a) &&& 31))) := rfl
def km (j : Nat) : Int32 := tb_15.getD j 0
theorem ror7 : (((32 : Int32) - 7) &&& 31) = (25 : Int32) &&& 31 := by decide
theorem mt7 (fu : Nat) (x : Int32) : x_M_turn fu x (7 : Int32) = some (s_ror x 7 25) := congrArg (fun q => some ((x.toUInt32 >>> ((7 : Int32).toUInt32 &&& Int32.toUInt32 31)).toInt32 ||| (x <<< q))) ror7
theorem tbn7 {β : Type} (fu : Nat) (x : Int32) (k : Int32 → Option β) : bd1 (x_M_turn fu x (7 : Int32)) k = k (s_ror x 7 25) := by rw [mt7]; rfl
theorem ror18 : (((32 : Int32) - 18) &&& 31) = (14 : Int32) &&& 31 := by decide
theorem mt18 (fu : Nat) (x : Int32) : x_M_turn fu x (18 : Int32) = some (s_ror x 18 14) := congrArg (fun q => some ((x.toUInt32 >>> ((18 : Int32).toUInt32 &&& Int32.toUInt32 31)).toInt32 ||| (x <<< q))) ror18
theorem tbn18 {β : Type} (fu : Nat) (x : Int32) (k : Int32 → Option β) : bd1 (x_M_turn fu x (18 : Int32)) k = k (s_ror x 18 14) := by rw [mt18]; rfl
theorem ror17 : (((32 : Int32) - 17) &&& 31) = (15 : Int32) &&& 31 := by decide
theorem mt17 (fu : Nat) (x : Int32) : x_M_turn fu x (17 : Int32) = some (s_ror x 17 15) := congrArg (fun q => some ((x.toUInt32 >>> ((17 : Int32).toUInt32 &&& Int32.toUInt32 31)).toInt32 ||| (x <<< q))) ror17
theorem tbn17 {β : Type} (fu : Nat) (x : Int32) (k : Int32 → Option β) : bd1 (x_M_turn fu x (17 : Int32)) k = k (s_ror x 17 15) := by rw [mt17]; rfl
theorem ror19 : (((32 : Int32) - 19) &&& 31) = (13 : Int32) &&& 31 := by decide
theorem mt19 (fu : Nat) (x : Int32) : x_M_turn fu x (19 : Int32) = some (s_ror x 19 13) := congrArg (fun q => some ((x.toUInt32 >>> ((19 : Int32).toUInt32 &&& Int32.toUInt32 31)).toInt32 ||| (x <<< q))) ror19
theorem tbn19 {β : Type} (fu : Nat) (x : Int32) (k : Int32 → Option β) : bd1 (x_M_turn fu x (19 : Int32)) k = k (s_ror x 19 13) := by rw [mt19]; rfl
theorem ror6 : (((32 : Int32) - 6) &&& 31) = (26 : Int32) &&& 31 := by decide
theorem mt6 (fu : Nat) (x : Int32) : x_M_turn fu x (6 : Int32) = some (s_ror x 6 26) := congrArg (fun q => some ((x.toUInt32 >>> ((6 : Int32).toUInt32 &&& Int32.toUInt32 31)).toInt32 ||| (x <<< q))) ror6
theorem tbn6 {β : Type} (fu : Nat) (x : Int32) (k : Int32 → Option β) : bd1 (x_M_turn fu x (6 : Int32)) k = k (s_ror x 6 26) := by rw [mt6]; rfl
theorem ror11 : (((32 : Int32) - 11) &&& 31) = (21 : Int32) &&& 31 := by decide
theorem mt11 (fu : Nat) (x : Int32) : x_M_turn fu x (11 : Int32) = some (s_ror x 11 21) := congrArg (fun q => some ((x.toUInt32 >>> ((11 : Int32).toUInt32 &&& Int32.toUInt32 31)).toInt32 ||| (x <<< q))) ror11
theorem tbn11 {β : Type} (fu : Nat) (x : Int32) (k : Int32 → Option β) : bd1 (x_M_turn fu x (11 : Int32)) k = k (s_ror x 11 21) := by rw [mt11]; rfl
theorem ror25 : (((32 : Int32) - 25) &&& 31) = (7 : Int32) &&& 31 := by decide
theorem mt25 (fu : Nat) (x : Int32) : x_M_turn fu x (25 : Int32) = some (s_ror x 25 7) := congrArg (fun q => some ((x.toUInt32 >>> ((25 : Int32).toUInt32 &&& Int32.toUInt32 31)).toInt32 ||| (x <<< q))) ror25
theorem tbn25 {β : Type} (fu : Nat) (x : Int32) (k : Int32 → Option β) : bd1 (x_M_turn fu x (25 : Int32)) k = k (s_ror x 25 7) := by rw [mt25]; rfl
theorem ror2 : (((32 : Int32) - 2) &&& 31) = (30 : Int32) &&& 31 := by decide
theorem mt2 (fu : Nat) (x : Int32) : x_M_turn fu x (2 : Int32) = some (s_ror x 2 30) := congrArg (fun q => some ((x.toUInt32 >>> ((2 : Int32).toUInt32 &&& Int32.toUInt32 31)).toInt32 ||| (x <<< q))) ror2
theorem tbn2 {β : Type} (fu : Nat) (x : Int32) (k : Int32 → Option β) : bd1 (x_M_turn fu x (2 : Int32)) k = k (s_ror x 2 30) := by rw [mt2]; rfl
theorem ror13 : (((32 : Int32) - 13) &&& 31) = (19 : Int32) &&& 31 := by decide
theorem mt13 (fu : Nat) (x : Int32) : x_M_turn fu x (13 : Int32) = some (s_ror x 13 19) := congrArg (fun q => some ((x.toUInt32 >>> ((13 : Int32).toUInt32 &&& Int32.toUInt32 31)).toInt32 ||| (x <<< q))) ror13
theorem tbn13 {β : Type} (fu : Nat) (x : Int32) (k : Int32 → Option β) : bd1 (x_M_turn fu x (13 : Int32)) k = k (s_ror x 13 19) := by rw [mt13]; rfl
theorem ror22 : (((32 : Int32) - 22) &&& 31) = (10 : Int32) &&& 31 := by decide
theorem mt22 (fu : Nat) (x : Int32) : x_M_turn fu x (22 : Int32) = some (s_ror x 22 10) := congrArg (fun q => some ((x.toUInt32 >>> ((22 : Int32).toUInt32 &&& Int32.toUInt32 31)).toInt32 ||| (x <<< q))) ror22
theorem tbn22 {β : Type} (fu : Nat) (x : Int32) (k : Int32 → Option β) : bd1 (x_M_turn fu x (22 : Int32)) k = k (s_ror x 22 10) := by rw [mt22]; rfl
/-- a word of the padded text -/
def m_wd (p : Nat → Int32) (o i : Nat) : Int32 :=
  ((((p (o + 4 * i) &&& 255) <<< ((24 : Int32) &&& 31)) ||| ((p (o + 4 * i + 1) &&& 255) <<< ((16 : Int32) &&& 31))) ||| ((p (o + 4 * i + 2) &&& 255) <<< ((8 : Int32) &&& 31))) ||| (p (o + 4 * i + 3) &&& 255)
def m_ld (p : Nat → Int32) (o : Nat) (w : Nat → Int32) : Nat → Nat → Int32
  | 0 => w
  | i + 1 => upd (m_ld p o w i) i (m_wd p o i)
theorem m_big (fu : Nat) (p : Nat → Int32) (a : Nat) (h : a + 3 < 100200) : x_M_big fu 100200 p (nI a) = some ((((((p a &&& 255) <<< ((24 : Int32) &&& 31)) ||| ((p (a + 1) &&& 255) <<< ((16 : Int32) &&& 31))) ||| ((p (a + 2) &&& 255) <<< ((8 : Int32) &&& 31))) ||| (p (a + 3) &&& 255))) := by
  unfold x_M_big
  have a1 : nI a + (1 : Int32) = nI (a + 1) := nI_add a 1
  have a2 : nI a + (2 : Int32) = nI (a + 2) := nI_add a 2
  have a3 : nI a + (3 : Int32) = nI (a + 3) := nI_add a 3
  simp only [bnd, a1, a2, a3]
  rw [gd_t (inb_nI (by omega) (by omega)), gd_t (inb_nI (by omega) (by omega)), gd_t (inb_nI (by omega) (by omega)), gd_t (inb_nI (by omega) (by omega))]
  rw [nI_clamp (n := a) (by omega), nI_clamp (n := a + 1) (by omega), nI_clamp (n := a + 2) (by omega), nI_clamp (n := a + 3) (by omega)]
theorem m_bigk {β : Type} (fu : Nat) (p : Nat → Int32) (a : Nat) (h : a + 3 < 100200) (k : Int32 → Option β) : bd1 (x_M_big fu 100200 p (nI a)) k = k ((((((p a &&& 255) <<< ((24 : Int32) &&& 31)) ||| ((p (a + 1) &&& 255) <<< ((16 : Int32) &&& 31))) ||| ((p (a + 2) &&& 255) <<< ((8 : Int32) &&& 31))) ||| (p (a + 3) &&& 255))) := by
  rw [m_big fu p a h]
  rfl

theorem M_sha_sch1 (fu : Nat) (z : Nat → Int32) (n1 : Nat) (h1 : Nat → Int32) (k : Int32 → Int32 → (Nat → Int32) → (Nat → Int32) → (Nat → Int32) → (Nat → Int32) → Option ((Nat → Int32) × (Nat → Int32) × (Nat → Int32) × (Nat → Int32))) (n : Nat) (x4 x6 : Int32) (u0 w u2 u3 : Nat → Int32) (t : Nat) (ht1 : 16 ≤ t) (h2 : t < 64) :
    x_M_sha_172 fu z n1 h1 k (n + 1) x4 x6 (nI t) u0 w u2 u3 = x_M_sha_172 fu z n1 h1 k n x4 x6 (nI (t + 1)) u0 (upd w t (s_ex w t)) u2 u3 := by
  show xb_M_sha_172 fu z n1 h1 k (x_M_sha_172 fu z n1 h1 k n) x4 x6 (nI t) u0 w u2 u3 = _
  unfold xb_M_sha_172
  rw [if_neg (show ¬ (64 : Int32) ≤ nI t from nI_ge (b := 64) (by omega) (by decide))]
  have e15 : nI t - (15 : Int32) = nI (t - 15) := pk_sub (b := 15) (by omega)
  have e2 : nI t - (2 : Int32) = nI (t - 2) := pk_sub (b := 2) (by omega)
  have e16 : nI t - (16 : Int32) = nI (t - 16) := pk_sub (b := 16) (by omega)
  have e7 : nI t - (7 : Int32) = nI (t - 7) := pk_sub (b := 7) (by omega)
  rw [bnd_e, e15, gd_t (inb_nI (by omega) (by omega)), bnd_e, bnd_e, e2, gd_t (inb_nI (by omega) (by omega)), bnd_e, bnd_e, e16, gd_t (inb_nI (by omega) (by omega)), bnd_e, tbn7, tbn18, bnd_e, bnd_e, bnd_e, e7, gd_t (inb_nI (by omega) (by omega)), bnd_e, bnd_e, tbn17, tbn19, bnd_e, bnd_e, gd_t (inb_nI (by omega) (by omega)), bnd_e, bnd_e, nI_1]
  rw [nI_clamp (n := t - 15) (by omega), nI_clamp (n := t - 2) (by omega), nI_clamp (n := t - 16) (by omega), nI_clamp (n := t - 7) (by omega), nI_clamp (n := t) (by omega)]
  rfl
theorem M_sha_sch (fu : Nat) (z : Nat → Int32) (n1 : Nat) (h1 : Nat → Int32) (k : Int32 → Int32 → (Nat → Int32) → (Nat → Int32) → (Nat → Int32) → (Nat → Int32) → Option ((Nat → Int32) × (Nat → Int32) × (Nat → Int32) × (Nat → Int32))) (x4 x6 : Int32) (u0 w u2 u3 : Nat → Int32) (n : Nat) : ∀ i, i ≤ 48 →
    x_M_sha_172 fu z n1 h1 k (n + 48) x4 x6 16 u0 w u2 u3 = x_M_sha_172 fu z n1 h1 k (n + (48 - i)) x4 x6 (nI (16 + i)) u0 (s_sch w i) u2 u3
  | 0, _ => rfl
  | i + 1, h => by
    rw [M_sha_sch fu z n1 h1 k x4 x6 u0 w u2 u3 n i (by omega)]
    have e1 : n + (48 - i) = (n + (48 - (i + 1))) + 1 := by omega
    rw [e1, M_sha_sch1 fu z n1 h1 k _ x4 x6 u0 _ u2 u3 (16 + i) (by omega) (by omega)]
    rfl
theorem M_sha_rd1 (fu : Nat) (z : Nat → Int32) (n1 : Nat) (h1 : Nat → Int32) (k : Int32 → Int32 → (Nat → Int32) → (Nat → Int32) → (Nat → Int32) → (Nat → Int32) → Option ((Nat → Int32) × (Nat → Int32) × (Nat → Int32) × (Nat → Int32))) (n : Nat) (x4 x6 : Int32) (v : S8) (u0 w u2 u3 : Nat → Int32) (t : Nat) (h2 : t < 64) :
    x_M_sha_348 fu z n1 h1 k (n + 1) x4 x6 v.1 v.2.1 v.2.2.1 v.2.2.2.1 v.2.2.2.2.1 v.2.2.2.2.2.1 v.2.2.2.2.2.2.1 v.2.2.2.2.2.2.2 (nI t) u0 w u2 u3
      = x_M_sha_348 fu z n1 h1 k n x4 x6 (s_rd (km t) (w t) v).1 (s_rd (km t) (w t) v).2.1 (s_rd (km t) (w t) v).2.2.1 (s_rd (km t) (w t) v).2.2.2.1 (s_rd (km t) (w t) v).2.2.2.2.1 (s_rd (km t) (w t) v).2.2.2.2.2.1 (s_rd (km t) (w t) v).2.2.2.2.2.2.1 (s_rd (km t) (w t) v).2.2.2.2.2.2.2 (nI (t + 1)) u0 w u2 u3 := by
  obtain ⟨a, b, c, d, e, f, g, h⟩ := v
  show xb_M_sha_348 fu z n1 h1 k (x_M_sha_348 fu z n1 h1 k n) x4 x6 a b c d e f g h (nI t) u0 w u2 u3 = _
  have hn : ¬ (64 : Int32) ≤ nI t := nI_ge (b := 64) (by omega) (by decide)
  have hs : xb_M_sha_348 fu z n1 h1 k (x_M_sha_348 fu z n1 h1 k n) x4 x6 a b c d e f g h (nI t) u0 w u2 u3 = gd (inb (nI t) 64) (gd (inb (nI t) 64) (x_M_sha_348 fu z n1 h1 k n x4 x6 (s_rd (tb_15.getD (nI t).toNatClampNeg 0) (w (nI t).toNatClampNeg) (a, b, c, d, e, f, g, h)).1 (s_rd (tb_15.getD (nI t).toNatClampNeg 0) (w (nI t).toNatClampNeg) (a, b, c, d, e, f, g, h)).2.1 (s_rd (tb_15.getD (nI t).toNatClampNeg 0) (w (nI t).toNatClampNeg) (a, b, c, d, e, f, g, h)).2.2.1 (s_rd (tb_15.getD (nI t).toNatClampNeg 0) (w (nI t).toNatClampNeg) (a, b, c, d, e, f, g, h)).2.2.2.1 (s_rd (tb_15.getD (nI t).toNatClampNeg 0) (w (nI t).toNatClampNeg) (a, b, c, d, e, f, g, h)).2.2.2.2.1 (s_rd (tb_15.getD (nI t).toNatClampNeg 0) (w (nI t).toNatClampNeg) (a, b, c, d, e, f, g, h)).2.2.2.2.2.1 (s_rd (tb_15.getD (nI t).toNatClampNeg 0) (w (nI t).toNatClampNeg) (a, b, c, d, e, f, g, h)).2.2.2.2.2.2.1 (s_rd (tb_15.getD (nI t).toNatClampNeg 0) (w (nI t).toNatClampNeg) (a, b, c, d, e, f, g, h)).2.2.2.2.2.2.2 (nI t + 1) u0 w u2 u3)) := by
    unfold xb_M_sha_348
    rw [if_neg hn, tbn6, tbn11, bnd_e, tbn25, bnd_e, bnd_e, bnd_e, bnd_e, bnd_e, bnd_e, bnd_e, bnd_e, tbn2, tbn13, bnd_e, tbn22, bnd_e, bnd_e, bnd_e, bnd_e, bnd_e, bnd_e, bnd_e]
    rfl
  rw [hs, gd_t (inb_nI (by omega) (by omega)), gd_t (inb_nI (by omega) (by omega)), nI_clamp (n := t) (by omega), nI_1]
  rfl
theorem M_sha_rds (fu : Nat) (z : Nat → Int32) (n1 : Nat) (h1 : Nat → Int32) (k : Int32 → Int32 → (Nat → Int32) → (Nat → Int32) → (Nat → Int32) → (Nat → Int32) → Option ((Nat → Int32) × (Nat → Int32) × (Nat → Int32) × (Nat → Int32))) (x4 x6 : Int32) (u0 w u2 u3 : Nat → Int32) (n : Nat) (v : S8) : ∀ i, i ≤ 64 →
    x_M_sha_348 fu z n1 h1 k (n + 64) x4 x6 v.1 v.2.1 v.2.2.1 v.2.2.2.1 v.2.2.2.2.1 v.2.2.2.2.2.1 v.2.2.2.2.2.2.1 v.2.2.2.2.2.2.2 0 u0 w u2 u3
      = x_M_sha_348 fu z n1 h1 k (n + (64 - i)) x4 x6 (s_rds km w v i).1 (s_rds km w v i).2.1 (s_rds km w v i).2.2.1 (s_rds km w v i).2.2.2.1 (s_rds km w v i).2.2.2.2.1 (s_rds km w v i).2.2.2.2.2.1 (s_rds km w v i).2.2.2.2.2.2.1 (s_rds km w v i).2.2.2.2.2.2.2 (nI i) u0 w u2 u3
  | 0, _ => rfl
  | i + 1, h => by
    rw [M_sha_rds fu z n1 h1 k x4 x6 u0 w u2 u3 n v i (by omega)]
    have e1 : n + (64 - i) = (n + (64 - (i + 1))) + 1 := by omega
    rw [e1, M_sha_rd1 fu z n1 h1 k _ x4 x6 (s_rds km w v i) u0 w u2 u3 i (by omega)]
    rfl
theorem M_sha_rend (fu : Nat) (z : Nat → Int32) (n1 : Nat) (h1 : Nat → Int32) (k : Int32 → Int32 → (Nat → Int32) → (Nat → Int32) → (Nat → Int32) → (Nat → Int32) → Option ((Nat → Int32) × (Nat → Int32) × (Nat → Int32) × (Nat → Int32))) (n : Nat) (x4 x6 : Int32) (v : S8) (u0 w u2 u3 : Nat → Int32) :
    x_M_sha_348 fu z n1 h1 k (n + 1) x4 x6 v.1 v.2.1 v.2.2.1 v.2.2.2.1 v.2.2.2.2.1 v.2.2.2.2.2.1 v.2.2.2.2.2.2.1 v.2.2.2.2.2.2.2 (nI 64) u0 w u2 u3 = k x4 (x6 + 1) (s_fin u0 v) w u2 u3 := by
  obtain ⟨a, b, c, d, e, f, g, h⟩ := v
  show xb_M_sha_348 fu z n1 h1 k (x_M_sha_348 fu z n1 h1 k n) x4 x6 a b c d e f g h (nI 64) u0 w u2 u3 = _
  unfold xb_M_sha_348
  rw [if_pos (show (64 : Int32) ≤ nI 64 from by decide)]
  rfl
theorem M_sha_ld1 (fu : Nat) (z : Nat → Int32) (n1 : Nat) (h1 : Nat → Int32) (k : Int32 → Int32 → (Nat → Int32) → (Nat → Int32) → (Nat → Int32) → (Nat → Int32) → Option ((Nat → Int32) × (Nat → Int32) × (Nat → Int32) × (Nat → Int32))) (n : Nat) (x4 : Int32) (q : Nat) (hq : q < 1500) (u0 w u2 u3 : Nat → Int32) (t : Nat) (h2 : t < 16) :
    x_M_sha_131 fu z n1 h1 k (n + 1) x4 (nI q) (nI t) u0 w u2 u3 = x_M_sha_131 fu z n1 h1 k n x4 (nI q) (nI (t + 1)) u0 (upd w t (m_wd u3 (64 * q) t)) u2 u3 := by
  show xb_M_sha_131 fu z n1 h1 k (x_M_sha_131 fu z n1 h1 k n) x4 (nI q) (nI t) u0 w u2 u3 = _
  unfold xb_M_sha_131
  rw [if_neg (show ¬ (16 : Int32) ≤ nI t from nI_ge (b := 16) (by omega) (by decide))]
  have e4 : (64 : Int32) * nI q + (4 : Int32) * nI t = nI (64 * q + 4 * t) := by
    rw [show (64 : Int32) * nI q = nI (64 * q) from pk_mul 64 q, show (4 : Int32) * nI t = nI (4 * t) from pk_mul 4 t, nI_add]
  rw [bnd_e, bnd_e, e4, m_bigk fu u3 (64 * q + 4 * t) (by omega), gd_t (inb_nI (by omega) (by omega)), bnd_e, bnd_e, nI_1, nI_clamp (n := t) (by omega)]
  rfl
theorem M_sha_ld (fu : Nat) (z : Nat → Int32) (n1 : Nat) (h1 : Nat → Int32) (k : Int32 → Int32 → (Nat → Int32) → (Nat → Int32) → (Nat → Int32) → (Nat → Int32) → Option ((Nat → Int32) × (Nat → Int32) × (Nat → Int32) × (Nat → Int32))) (x4 : Int32) (q : Nat) (hq : q < 1500) (u0 w u2 u3 : Nat → Int32) (n : Nat) : ∀ i, i ≤ 16 →
    x_M_sha_131 fu z n1 h1 k (n + 16) x4 (nI q) 0 u0 w u2 u3 = x_M_sha_131 fu z n1 h1 k (n + (16 - i)) x4 (nI q) (nI i) u0 (m_ld u3 (64 * q) w i) u2 u3
  | 0, _ => rfl
  | i + 1, h => by
    rw [M_sha_ld fu z n1 h1 k x4 q hq u0 w u2 u3 n i (by omega)]
    have e1 : n + (16 - i) = (n + (16 - (i + 1))) + 1 := by omega
    rw [e1, M_sha_ld1 fu z n1 h1 k _ x4 q hq u0 _ u2 u3 i (by omega)]
    rfl
/-- one block of the reference's loop -/
theorem M_sha_blk (fu : Nat) (z : Nat → Int32) (n1 : Nat) (h1 : Nat → Int32) (hfu : 65 ≤ fu) (k : Int32 → Int32 → (Nat → Int32) → (Nat → Int32) → (Nat → Int32) → (Nat → Int32) → Option ((Nat → Int32) × (Nat → Int32) × (Nat → Int32) × (Nat → Int32))) (x4 : Int32) (q : Nat) (hq : q < 1500) (u0 w u2 u3 : Nat → Int32) :
    x_M_sha_131 fu z n1 h1 k fu x4 (nI q) 0 u0 w u2 u3 = k x4 (nI (q + 1)) (s_cmp km u0 (m_ld u3 (64 * q) w 16)) (s_sch (m_ld u3 (64 * q) w 16) 48) u2 u3 := by
  obtain ⟨c1, e1⟩ : ∃ c1, fu = (c1 + 1) + 16 := ⟨fu - 17, by omega⟩
  obtain ⟨c2, e2⟩ : ∃ c2, fu = (c2 + 1) + 48 := ⟨fu - 49, by omega⟩
  obtain ⟨c3, e3⟩ : ∃ c3, fu = (c3 + 1) + 64 := ⟨fu - 65, by omega⟩
  have s1 : x_M_sha_131 fu z n1 h1 k fu x4 (nI q) 0 u0 w u2 u3 = x_M_sha_131 fu z n1 h1 k (c1 + 1) x4 (nI q) (nI 16) u0 (m_ld u3 (64 * q) w 16) u2 u3 := by
    have h := M_sha_ld fu z n1 h1 k x4 q hq u0 w u2 u3 (c1 + 1) 16 (Nat.le_refl _)
    rw [← e1] at h
    exact h
  have s2 : x_M_sha_131 fu z n1 h1 k (c1 + 1) x4 (nI q) (nI 16) u0 (m_ld u3 (64 * q) w 16) u2 u3 = x_M_sha_172 fu z n1 h1 k fu x4 (nI q) 16 u0 (m_ld u3 (64 * q) w 16) u2 u3 := by
    show xb_M_sha_131 fu z n1 h1 k (x_M_sha_131 fu z n1 h1 k c1) x4 (nI q) (nI 16) u0 (m_ld u3 (64 * q) w 16) u2 u3 = _
    unfold xb_M_sha_131
    rw [if_pos (show (16 : Int32) ≤ nI 16 from by decide)]
  have s3 : x_M_sha_172 fu z n1 h1 k fu x4 (nI q) 16 u0 (m_ld u3 (64 * q) w 16) u2 u3 = x_M_sha_172 fu z n1 h1 k (c2 + 1) x4 (nI q) (nI 64) u0 (s_sch (m_ld u3 (64 * q) w 16) 48) u2 u3 := by
    have h := M_sha_sch fu z n1 h1 k x4 (nI q) u0 (m_ld u3 (64 * q) w 16) u2 u3 (c2 + 1) 48 (Nat.le_refl _)
    rw [← e2] at h
    exact h
  have s4 : x_M_sha_172 fu z n1 h1 k (c2 + 1) x4 (nI q) (nI 64) u0 (s_sch (m_ld u3 (64 * q) w 16) 48) u2 u3 = x_M_sha_348 fu z n1 h1 k fu x4 (nI q) (s_st u0).1 (s_st u0).2.1 (s_st u0).2.2.1 (s_st u0).2.2.2.1 (s_st u0).2.2.2.2.1 (s_st u0).2.2.2.2.2.1 (s_st u0).2.2.2.2.2.2.1 (s_st u0).2.2.2.2.2.2.2 0 u0 (s_sch (m_ld u3 (64 * q) w 16) 48) u2 u3 := by
    show xb_M_sha_172 fu z n1 h1 k (x_M_sha_172 fu z n1 h1 k c2) x4 (nI q) (nI 64) u0 (s_sch (m_ld u3 (64 * q) w 16) 48) u2 u3 = _
    unfold xb_M_sha_172
    rw [if_pos (show (64 : Int32) ≤ nI 64 from by decide)]
    rfl
  have s5 := M_sha_rds fu z n1 h1 k x4 (nI q) u0 (s_sch (m_ld u3 (64 * q) w 16) 48) u2 u3 (c3 + 1) (s_st u0) 64 (Nat.le_refl _)
  rw [← e3] at s5
  rw [s1, s2, s3, s4, s5]
  have hh := M_sha_rend fu z n1 h1 k c3 x4 (nI q) (s_rds km (s_sch (m_ld u3 (64 * q) w 16) 48) (s_st u0) 64) u0 (s_sch (m_ld u3 (64 * q) w 16) 48) u2 u3
  rw [nI_1] at hh
  exact hh

theorem M_sha_f1hash_sch1 (fu : Nat) (z : Nat → Int32) (k : Int32 → Int32 → (Nat → Int32) → (Nat → Int32) → (Nat → Int32) → (Nat → Int32) → Option ((Nat → Int32) × (Nat → Int32) × (Nat → Int32) × (Nat → Int32))) (n : Nat) (x4 x6 : Int32) (u0 w u2 u3 : Nat → Int32) (t : Nat) (ht1 : 16 ≤ t) (h2 : t < 64) :
    x_M_sha_f1hash_172 fu z k (n + 1) x4 x6 (nI t) u0 w u2 u3 = x_M_sha_f1hash_172 fu z k n x4 x6 (nI (t + 1)) u0 (upd w t (s_ex w t)) u2 u3 := by
  show xb_M_sha_f1hash_172 fu z k (x_M_sha_f1hash_172 fu z k n) x4 x6 (nI t) u0 w u2 u3 = _
  unfold xb_M_sha_f1hash_172
  rw [if_neg (show ¬ (64 : Int32) ≤ nI t from nI_ge (b := 64) (by omega) (by decide))]
  have e15 : nI t - (15 : Int32) = nI (t - 15) := pk_sub (b := 15) (by omega)
  have e2 : nI t - (2 : Int32) = nI (t - 2) := pk_sub (b := 2) (by omega)
  have e16 : nI t - (16 : Int32) = nI (t - 16) := pk_sub (b := 16) (by omega)
  have e7 : nI t - (7 : Int32) = nI (t - 7) := pk_sub (b := 7) (by omega)
  rw [bnd_e, e15, gd_t (inb_nI (by omega) (by omega)), bnd_e, bnd_e, e2, gd_t (inb_nI (by omega) (by omega)), bnd_e, bnd_e, e16, gd_t (inb_nI (by omega) (by omega)), bnd_e, tbn7, tbn18, bnd_e, bnd_e, bnd_e, e7, gd_t (inb_nI (by omega) (by omega)), bnd_e, bnd_e, tbn17, tbn19, bnd_e, bnd_e, gd_t (inb_nI (by omega) (by omega)), bnd_e, bnd_e, nI_1]
  rw [nI_clamp (n := t - 15) (by omega), nI_clamp (n := t - 2) (by omega), nI_clamp (n := t - 16) (by omega), nI_clamp (n := t - 7) (by omega), nI_clamp (n := t) (by omega)]
  rfl
theorem M_sha_f1hash_sch (fu : Nat) (z : Nat → Int32) (k : Int32 → Int32 → (Nat → Int32) → (Nat → Int32) → (Nat → Int32) → (Nat → Int32) → Option ((Nat → Int32) × (Nat → Int32) × (Nat → Int32) × (Nat → Int32))) (x4 x6 : Int32) (u0 w u2 u3 : Nat → Int32) (n : Nat) : ∀ i, i ≤ 48 →
    x_M_sha_f1hash_172 fu z k (n + 48) x4 x6 16 u0 w u2 u3 = x_M_sha_f1hash_172 fu z k (n + (48 - i)) x4 x6 (nI (16 + i)) u0 (s_sch w i) u2 u3
  | 0, _ => rfl
  | i + 1, h => by
    rw [M_sha_f1hash_sch fu z k x4 x6 u0 w u2 u3 n i (by omega)]
    have e1 : n + (48 - i) = (n + (48 - (i + 1))) + 1 := by omega
    rw [e1, M_sha_f1hash_sch1 fu z k _ x4 x6 u0 _ u2 u3 (16 + i) (by omega) (by omega)]
    rfl
theorem M_sha_f1hash_rd1 (fu : Nat) (z : Nat → Int32) (k : Int32 → Int32 → (Nat → Int32) → (Nat → Int32) → (Nat → Int32) → (Nat → Int32) → Option ((Nat → Int32) × (Nat → Int32) × (Nat → Int32) × (Nat → Int32))) (n : Nat) (x4 x6 : Int32) (v : S8) (u0 w u2 u3 : Nat → Int32) (t : Nat) (h2 : t < 64) :
    x_M_sha_f1hash_348 fu z k (n + 1) x4 x6 v.1 v.2.1 v.2.2.1 v.2.2.2.1 v.2.2.2.2.1 v.2.2.2.2.2.1 v.2.2.2.2.2.2.1 v.2.2.2.2.2.2.2 (nI t) u0 w u2 u3
      = x_M_sha_f1hash_348 fu z k n x4 x6 (s_rd (km t) (w t) v).1 (s_rd (km t) (w t) v).2.1 (s_rd (km t) (w t) v).2.2.1 (s_rd (km t) (w t) v).2.2.2.1 (s_rd (km t) (w t) v).2.2.2.2.1 (s_rd (km t) (w t) v).2.2.2.2.2.1 (s_rd (km t) (w t) v).2.2.2.2.2.2.1 (s_rd (km t) (w t) v).2.2.2.2.2.2.2 (nI (t + 1)) u0 w u2 u3 := by
  obtain ⟨a, b, c, d, e, f, g, h⟩ := v
  show xb_M_sha_f1hash_348 fu z k (x_M_sha_f1hash_348 fu z k n) x4 x6 a b c d e f g h (nI t) u0 w u2 u3 = _
  have hn : ¬ (64 : Int32) ≤ nI t := nI_ge (b := 64) (by omega) (by decide)
  have hs : xb_M_sha_f1hash_348 fu z k (x_M_sha_f1hash_348 fu z k n) x4 x6 a b c d e f g h (nI t) u0 w u2 u3 = gd (inb (nI t) 64) (gd (inb (nI t) 64) (x_M_sha_f1hash_348 fu z k n x4 x6 (s_rd (tb_15.getD (nI t).toNatClampNeg 0) (w (nI t).toNatClampNeg) (a, b, c, d, e, f, g, h)).1 (s_rd (tb_15.getD (nI t).toNatClampNeg 0) (w (nI t).toNatClampNeg) (a, b, c, d, e, f, g, h)).2.1 (s_rd (tb_15.getD (nI t).toNatClampNeg 0) (w (nI t).toNatClampNeg) (a, b, c, d, e, f, g, h)).2.2.1 (s_rd (tb_15.getD (nI t).toNatClampNeg 0) (w (nI t).toNatClampNeg) (a, b, c, d, e, f, g, h)).2.2.2.1 (s_rd (tb_15.getD (nI t).toNatClampNeg 0) (w (nI t).toNatClampNeg) (a, b, c, d, e, f, g, h)).2.2.2.2.1 (s_rd (tb_15.getD (nI t).toNatClampNeg 0) (w (nI t).toNatClampNeg) (a, b, c, d, e, f, g, h)).2.2.2.2.2.1 (s_rd (tb_15.getD (nI t).toNatClampNeg 0) (w (nI t).toNatClampNeg) (a, b, c, d, e, f, g, h)).2.2.2.2.2.2.1 (s_rd (tb_15.getD (nI t).toNatClampNeg 0) (w (nI t).toNatClampNeg) (a, b, c, d, e, f, g, h)).2.2.2.2.2.2.2 (nI t + 1) u0 w u2 u3)) := by
    unfold xb_M_sha_f1hash_348
    rw [if_neg hn, tbn6, tbn11, bnd_e, tbn25, bnd_e, bnd_e, bnd_e, bnd_e, bnd_e, bnd_e, bnd_e, bnd_e, tbn2, tbn13, bnd_e, tbn22, bnd_e, bnd_e, bnd_e, bnd_e, bnd_e, bnd_e, bnd_e]
    rfl
  rw [hs, gd_t (inb_nI (by omega) (by omega)), gd_t (inb_nI (by omega) (by omega)), nI_clamp (n := t) (by omega), nI_1]
  rfl
theorem M_sha_f1hash_rds (fu : Nat) (z : Nat → Int32) (k : Int32 → Int32 → (Nat → Int32) → (Nat → Int32) → (Nat → Int32) → (Nat → Int32) → Option ((Nat → Int32) × (Nat → Int32) × (Nat → Int32) × (Nat → Int32))) (x4 x6 : Int32) (u0 w u2 u3 : Nat → Int32) (n : Nat) (v : S8) : ∀ i, i ≤ 64 →
    x_M_sha_f1hash_348 fu z k (n + 64) x4 x6 v.1 v.2.1 v.2.2.1 v.2.2.2.1 v.2.2.2.2.1 v.2.2.2.2.2.1 v.2.2.2.2.2.2.1 v.2.2.2.2.2.2.2 0 u0 w u2 u3
      = x_M_sha_f1hash_348 fu z k (n + (64 - i)) x4 x6 (s_rds km w v i).1 (s_rds km w v i).2.1 (s_rds km w v i).2.2.1 (s_rds km w v i).2.2.2.1 (s_rds km w v i).2.2.2.2.1 (s_rds km w v i).2.2.2.2.2.1 (s_rds km w v i).2.2.2.2.2.2.1 (s_rds km w v i).2.2.2.2.2.2.2 (nI i) u0 w u2 u3
  | 0, _ => rfl
  | i + 1, h => by
    rw [M_sha_f1hash_rds fu z k x4 x6 u0 w u2 u3 n v i (by omega)]
    have e1 : n + (64 - i) = (n + (64 - (i + 1))) + 1 := by omega
    rw [e1, M_sha_f1hash_rd1 fu z k _ x4 x6 (s_rds km w v i) u0 w u2 u3 i (by omega)]
    rfl
theorem M_sha_f1hash_rend (fu : Nat) (z : Nat → Int32) (k : Int32 → Int32 → (Nat → Int32) → (Nat → Int32) → (Nat → Int32) → (Nat → Int32) → Option ((Nat → Int32) × (Nat → Int32) × (Nat → Int32) × (Nat → Int32))) (n : Nat) (x4 x6 : Int32) (v : S8) (u0 w u2 u3 : Nat → Int32) :
    x_M_sha_f1hash_348 fu z k (n + 1) x4 x6 v.1 v.2.1 v.2.2.1 v.2.2.2.1 v.2.2.2.2.1 v.2.2.2.2.2.1 v.2.2.2.2.2.2.1 v.2.2.2.2.2.2.2 (nI 64) u0 w u2 u3 = k x4 (x6 + 1) (s_fin u0 v) w u2 u3 := by
  obtain ⟨a, b, c, d, e, f, g, h⟩ := v
  show xb_M_sha_f1hash_348 fu z k (x_M_sha_f1hash_348 fu z k n) x4 x6 a b c d e f g h (nI 64) u0 w u2 u3 = _
  unfold xb_M_sha_f1hash_348
  rw [if_pos (show (64 : Int32) ≤ nI 64 from by decide)]
  rfl
theorem M_sha_f1hash_ld1 (fu : Nat) (z : Nat → Int32) (k : Int32 → Int32 → (Nat → Int32) → (Nat → Int32) → (Nat → Int32) → (Nat → Int32) → Option ((Nat → Int32) × (Nat → Int32) × (Nat → Int32) × (Nat → Int32))) (n : Nat) (x4 : Int32) (q : Nat) (hq : q < 1500) (u0 w u2 u3 : Nat → Int32) (t : Nat) (h2 : t < 16) :
    x_M_sha_f1hash_131 fu z k (n + 1) x4 (nI q) (nI t) u0 w u2 u3 = x_M_sha_f1hash_131 fu z k n x4 (nI q) (nI (t + 1)) u0 (upd w t (m_wd u3 (64 * q) t)) u2 u3 := by
  show xb_M_sha_f1hash_131 fu z k (x_M_sha_f1hash_131 fu z k n) x4 (nI q) (nI t) u0 w u2 u3 = _
  unfold xb_M_sha_f1hash_131
  rw [if_neg (show ¬ (16 : Int32) ≤ nI t from nI_ge (b := 16) (by omega) (by decide))]
  have e4 : (64 : Int32) * nI q + (4 : Int32) * nI t = nI (64 * q + 4 * t) := by
    rw [show (64 : Int32) * nI q = nI (64 * q) from pk_mul 64 q, show (4 : Int32) * nI t = nI (4 * t) from pk_mul 4 t, nI_add]
  rw [bnd_e, bnd_e, e4, m_bigk fu u3 (64 * q + 4 * t) (by omega), gd_t (inb_nI (by omega) (by omega)), bnd_e, bnd_e, nI_1, nI_clamp (n := t) (by omega)]
  rfl
theorem M_sha_f1hash_ld (fu : Nat) (z : Nat → Int32) (k : Int32 → Int32 → (Nat → Int32) → (Nat → Int32) → (Nat → Int32) → (Nat → Int32) → Option ((Nat → Int32) × (Nat → Int32) × (Nat → Int32) × (Nat → Int32))) (x4 : Int32) (q : Nat) (hq : q < 1500) (u0 w u2 u3 : Nat → Int32) (n : Nat) : ∀ i, i ≤ 16 →
    x_M_sha_f1hash_131 fu z k (n + 16) x4 (nI q) 0 u0 w u2 u3 = x_M_sha_f1hash_131 fu z k (n + (16 - i)) x4 (nI q) (nI i) u0 (m_ld u3 (64 * q) w i) u2 u3
  | 0, _ => rfl
  | i + 1, h => by
    rw [M_sha_f1hash_ld fu z k x4 q hq u0 w u2 u3 n i (by omega)]
    have e1 : n + (16 - i) = (n + (16 - (i + 1))) + 1 := by omega
    rw [e1, M_sha_f1hash_ld1 fu z k _ x4 q hq u0 _ u2 u3 i (by omega)]
    rfl
/-- one block of the reference's loop -/
theorem M_sha_f1hash_blk (fu : Nat) (z : Nat → Int32) (hfu : 65 ≤ fu) (k : Int32 → Int32 → (Nat → Int32) → (Nat → Int32) → (Nat → Int32) → (Nat → Int32) → Option ((Nat → Int32) × (Nat → Int32) × (Nat → Int32) × (Nat → Int32))) (x4 : Int32) (q : Nat) (hq : q < 1500) (u0 w u2 u3 : Nat → Int32) :
    x_M_sha_f1hash_131 fu z k fu x4 (nI q) 0 u0 w u2 u3 = k x4 (nI (q + 1)) (s_cmp km u0 (m_ld u3 (64 * q) w 16)) (s_sch (m_ld u3 (64 * q) w 16) 48) u2 u3 := by
  obtain ⟨c1, e1⟩ : ∃ c1, fu = (c1 + 1) + 16 := ⟨fu - 17, by omega⟩
  obtain ⟨c2, e2⟩ : ∃ c2, fu = (c2 + 1) + 48 := ⟨fu - 49, by omega⟩
  obtain ⟨c3, e3⟩ : ∃ c3, fu = (c3 + 1) + 64 := ⟨fu - 65, by omega⟩
  have s1 : x_M_sha_f1hash_131 fu z k fu x4 (nI q) 0 u0 w u2 u3 = x_M_sha_f1hash_131 fu z k (c1 + 1) x4 (nI q) (nI 16) u0 (m_ld u3 (64 * q) w 16) u2 u3 := by
    have h := M_sha_f1hash_ld fu z k x4 q hq u0 w u2 u3 (c1 + 1) 16 (Nat.le_refl _)
    rw [← e1] at h
    exact h
  have s2 : x_M_sha_f1hash_131 fu z k (c1 + 1) x4 (nI q) (nI 16) u0 (m_ld u3 (64 * q) w 16) u2 u3 = x_M_sha_f1hash_172 fu z k fu x4 (nI q) 16 u0 (m_ld u3 (64 * q) w 16) u2 u3 := by
    show xb_M_sha_f1hash_131 fu z k (x_M_sha_f1hash_131 fu z k c1) x4 (nI q) (nI 16) u0 (m_ld u3 (64 * q) w 16) u2 u3 = _
    unfold xb_M_sha_f1hash_131
    rw [if_pos (show (16 : Int32) ≤ nI 16 from by decide)]
  have s3 : x_M_sha_f1hash_172 fu z k fu x4 (nI q) 16 u0 (m_ld u3 (64 * q) w 16) u2 u3 = x_M_sha_f1hash_172 fu z k (c2 + 1) x4 (nI q) (nI 64) u0 (s_sch (m_ld u3 (64 * q) w 16) 48) u2 u3 := by
    have h := M_sha_f1hash_sch fu z k x4 (nI q) u0 (m_ld u3 (64 * q) w 16) u2 u3 (c2 + 1) 48 (Nat.le_refl _)
    rw [← e2] at h
    exact h
  have s4 : x_M_sha_f1hash_172 fu z k (c2 + 1) x4 (nI q) (nI 64) u0 (s_sch (m_ld u3 (64 * q) w 16) 48) u2 u3 = x_M_sha_f1hash_348 fu z k fu x4 (nI q) (s_st u0).1 (s_st u0).2.1 (s_st u0).2.2.1 (s_st u0).2.2.2.1 (s_st u0).2.2.2.2.1 (s_st u0).2.2.2.2.2.1 (s_st u0).2.2.2.2.2.2.1 (s_st u0).2.2.2.2.2.2.2 0 u0 (s_sch (m_ld u3 (64 * q) w 16) 48) u2 u3 := by
    show xb_M_sha_f1hash_172 fu z k (x_M_sha_f1hash_172 fu z k c2) x4 (nI q) (nI 64) u0 (s_sch (m_ld u3 (64 * q) w 16) 48) u2 u3 = _
    unfold xb_M_sha_f1hash_172
    rw [if_pos (show (64 : Int32) ≤ nI 64 from by decide)]
    rfl
  have s5 := M_sha_f1hash_rds fu z k x4 (nI q) u0 (s_sch (m_ld u3 (64 * q) w 16) 48) u2 u3 (c3 + 1) (s_st u0) 64 (Nat.le_refl _)
  rw [← e3] at s5
  rw [s1, s2, s3, s4, s5]
  have hh := M_sha_f1hash_rend fu z k c3 x4 (nI q) (s_rds km (s_sch (m_ld u3 (64 * q) w 16) 48) (s_st u0) 64) u0 (s_sch (m_ld u3 (64 * q) w 16) 48) u2 u3
  rw [nI_1] at hh
  exact hh
