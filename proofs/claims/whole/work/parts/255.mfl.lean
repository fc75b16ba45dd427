-- the ledger in the memory: flip, find, put, rollBack
/-- who is unspent is seen in the changes -/
def prL (L H : List Cn) : Prop := ∀ x, x ∈ L ↔ H.count x % 2 = 1
set_option maxHeartbeats 400000 in
theorem prL_f {L L' H : List Cn} {c : Cn} (h : prL L H) (ht : tgl L L' c) : prL L' (H ++ [c]) := fun x => by
  rw [ht x, List.count_append, List.count_singleton]
  by_cases z : x = c
  · subst z
    have := h x
    rw [if_pos (beq_self_eq_true x)]
    constructor
    · intro w
      rcases w with w | w
      · exact absurd rfl w.1
      · have : ¬ H.count x % 2 = 1 := fun y => w.2 (this.mpr y)
        omega
    · intro w
      refine Or.inr ⟨rfl, fun y => ?_⟩
      have := this.mp y
      omega
  · rw [if_neg (fun e => z (beq_iff_eq.mp e).symm), Nat.add_zero, ← h x]
    exact ⟨fun w => by
      rcases w with w | w
      · exact w.2
      · exact absurd w.1 z, fun w => Or.inl ⟨z, w⟩⟩
set_option maxHeartbeats 400000 in
theorem prL_b {L L' H : List Cn} {c : Cn} (h : prL L (H ++ [c])) (ht : tgl L L' c) : prL L' H := fun x => by
  rw [ht x]
  have := h x
  rw [List.count_append, List.count_singleton] at this
  by_cases z : x = c
  · subst z
    rw [if_pos (beq_self_eq_true x)] at this
    constructor
    · intro w
      rcases w with w | w
      · exact absurd rfl w.1
      · have : ¬ (H.count x + 1) % 2 = 1 := fun y => w.2 (this.mpr y)
        omega
    · intro w
      refine Or.inr ⟨rfl, fun y => ?_⟩
      have := this.mp y
      omega
  · rw [if_neg (fun e => z (beq_iff_eq.mp e).symm), Nat.add_zero] at this
    rw [← this]
    exact ⟨fun w => by
      rcases w with w | w
      · exact w.2
      · exact absurd w.1 z, fun w => Or.inl ⟨z, w⟩⟩
set_option maxHeartbeats 400000 in
theorem nd_le : ∀ (L M : List Cn), L.Nodup → (∀ x, x ∈ L → x ∈ M) → L.length ≤ M.length
  | [], _, _, _ => Nat.zero_le _
  | x :: L, M, hn, hs => by
    have hx := hs x List.mem_cons_self
    have ih := nd_le L (M.erase x) (List.nodup_cons.mp hn).2 (fun y hy => (List.mem_erase_of_ne (show y ≠ x from fun e => (List.nodup_cons.mp hn).1 (e ▸ hy))).mpr (hs y (List.mem_cons_of_mem _ hy)))
    rw [List.length_erase_of_mem hx] at ih
    have : 0 < M.length := List.length_pos_of_mem hx
    show L.length + 1 ≤ M.length
    omega
set_option maxHeartbeats 400000 in
theorem prL_l {L H : List Cn} (h : prL L H) (hn : L.Nodup) : L.length ≤ H.length := nd_le L H hn fun x hx => List.count_pos_iff.mp (by
  have := (h x).mp hx
  omega)
set_option maxHeartbeats 400000 in
theorem ncp_x {cap n N : Nat} (h : cap ≤ 2 * N + 10) (hn : n < N) (hc : n ≤ cap) : ncp cap n ≤ 2 * N + 10 ∧ cap ≤ ncp cap n := by
  unfold ncp
  by_cases z : n < cap
  · rw [if_pos z]; omega
  · rw [if_neg z]
    by_cases y : cap = 0
    · rw [if_pos y]; omega
    · rw [if_neg y]
      by_cases w : 1 < cap / 2
      · rw [if_pos w]; omega
      · rw [if_neg w]; omega
set_option maxHeartbeats 400000 in
theorem flU_x {L : List Cn} {c : Cn} {cu N : Nat} (h : cu ≤ 2 * N + 10) (hn : L.length < N) (hc : L.length ≤ cu) : flU L c cu ≤ 2 * N + 10 ∧ cu ≤ flU L c cu := by
  unfold flU
  by_cases z : c ∈ L
  · rw [if_pos z]; omega
  · rw [if_neg z]; exact ncp_x h hn hc
set_option maxHeartbeats 2000000 in
theorem w_flip (fu MC MS : Nat) (cy : Nat → ClassId) (ad : Nat → Nat) (mi : Nat) {P : Nat → Prop} {q : Nat → Nat} {C : Nat → va_E} {M : Mm} (hM : RG P q C M) {nb : Nat} {par hgt tim : Nat → Nat} {bit : Nat → Int32} {bad : Nat → Bool} {rw : Nat → List Int32} {vl : Nat → Bool} {mk : Nat → Nat} {sl : Cn → Int32} {L H : List Cn} {cu ch : Nat} (hS : ldS P q C cy ad nb par hgt tim bit bad rw vl mk sl L H cu ch) (hO : oK rw nb) (hp : ∀ k, 0 < k → par k < k) {c : Cn} (hc : cVd rw nb c) (hcu : cu ≤ 60000) (hch : ch ≤ 60000) {κ σ : Nat} (hκ : κ + ((flU L c cu - cu) + (ncp ch H.length - ch)) ≤ MC ∧ σ + 4 * ((flU L c cu - cu) + (ncp ch H.length - ch)) ≤ MS) {Φ : Mm → Prop} (hΦ : ∀ M' P' q' C' sl', RG P' q' C' M' → ldS P' q' C' cy ad nb par hgt tim bit bad rw vl mk sl' (chL L c) (H ++ [c]) (flU L c cu) (ncp ch H.length) → leF P q C P' q' C' → Φ M') : xw_mLe_flip fu MC MS cy ad mi Φ κ σ M (q 130) (q (ck rw c)) := by
  obtain ⟨⟨hq, hP, h223, had⟩, hB, h130, hLu, hLh, hvL, hvH, hnd, hsi, hsn⟩ := id hS
  obtain ⟨pc, cc⟩ := hB.2 c hc
  have hcb := ck_b (rw := rw) c
  obtain ⟨-, -, ee, mm, h132⟩ := al_s hLh
  unfold xw_mLe_flip
  refine m_gr (g_at hM (hP 130 (by decide)) h130) rfl (m_ck (g_at hM (hP 132 (by decide)) h132) ⟨dcp ch H.length, 4 * dcp ch H.length, by unfold dcp; omega, ?_⟩)
  refine w_Add fu (dcp ch H.length) (4 * dcp ch H.length) cy ad mi hM hq hLh (by decide) h223 had (by decide) pc ⟨by omega, by omega⟩ hch (ci := 2) (Or.inr rfl) ⟨_, cc⟩ (fun j hj => ?_) (by rw [List.length_map]; omega) (fun M2 P2 q2 C2 hM2 hq2 p2 e2 c2 hL2 => ?_)
  · obtain ⟨x, hx, e⟩ := List.mem_map.mp hj
    have hxb := ck_b (rw := rw) x
    obtain ⟨px, cx⟩ := hB.2 x (hvH x hx)
    rw [← e]
    exact ⟨px, by omega, by omega, ⟨_, cx⟩⟩
  rw [List.length_map, ← map_ap] at hL2
  have Pk : ∀ j, P j → P2 j := fun j hj => (p2 j).mpr (Or.inl hj)
  have hS2 : ldS P2 q2 C2 cy ad nb par hgt tim bit bad rw vl mk sl L (H ++ [c]) cu (ncp ch H.length) := by
    refine ⟨⟨hq2, fun k hk => Pk k (hP k hk), fun w => ?_, (e2 135 (by decide)).trans had⟩, bkR_q hB hp (fun k k1 hk => ⟨Pk k hk, e2 k (by omega), c2 k (by omega) (by omega)⟩), ?_, alR_q hLu ⟨Pk _ (hP 131 (by decide)), ⟨fun w => ?_, fun w => Pk _ w⟩⟩ (e2 135 (by decide)) (fun _ => e2 _ (by decide)) (fun j hj => ?_) (c2 131 (by decide) (by decide)) (fun _ => c2 220 (by decide) (by decide)), hL2, hvL, fun x hx => ?_, hnd, hsi, hsn⟩
    · rcases (p2 _).mp w with w | w
      · exact h223 w
      · exact absurd w (by decide)
    · rw [c2 130 (by decide) (by decide), e2 131 (by decide), e2 132 (by decide)]
      exact h130
    · rcases (p2 _).mp w with w | w
      · exact w
      · exact absurd w (by decide)
    · obtain ⟨x, hx, e⟩ := List.mem_map.mp hj
      have hxb := ck_b (rw := rw) x
      exact e2 j (by omega)
    · rcases List.mem_append.mp hx with hx | hx
      · exact hvH x hx
      · rw [List.mem_singleton.mp hx]; exact hc
  have hF2 : leF P q C P2 q2 C2 := ⟨Pk, fun j hj => by
    rcases (p2 j).mp hj with w | w
    · exact Or.inl w
    · exact Or.inr (Or.inr w), fun j a b => e2 j b, fun j h a b e f => c2 j b f⟩
  refine (e2 130 (by decide)) ▸ (e2 (ck rw c) (by omega)) ▸ m_ck (g_at hM2 (hS2.1.2.1 130 (by decide)) hS2.2.2.1) ⟨flU L c cu - cu, 4 * (flU L c cu - cu), by unfold dcp; omega, ?_⟩
  exact w_change fu _ _ cy ad mi hM2 hS2 hO hp hc hcu (by omega) (fun M3 P3 q3 C3 sl3 hM3 hS3 hF3 => hΦ M3 P3 q3 C3 sl3 hM3 hS3 (leF_t hF2 hF3))
