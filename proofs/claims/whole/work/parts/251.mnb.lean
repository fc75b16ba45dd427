-- a block more
set_option maxHeartbeats 400000 in
theorem g_nwX {P : Nat → Prop} {q : Nat → Nat} {C : Nat → va_E} {M : Mm} {K : Nat → Mm → Prop} {x : va_E} {z : Nat} (hM : RG P q C M) (hq : IJ P q) {k : Nat} (hk : ¬ P k) (hK : ∀ a M' P' q' C', RG P' q' C' M' → IJ P' q' → (∀ j, P' j ↔ P j ∨ j = k) → (∀ j, j ≠ k → q' j = q j) → q' k = a → (∀ j, j ≠ k → C' j = C j) → C' k = x → K a M') : mnw z M x K := g_nw hM hq hk (fun a M' h1 h2 => hK a M' _ _ _ h1 h2 (fun _ => Iff.rfl) (fun _ h => up_n h) up_e (fun _ h => up_n h) up_e)
set_option maxHeartbeats 400000 in
theorem m_ln {M : Mm} {a n : Nat} {cA : ClassId} {K : Int32 → Prop} {x : _} (h : mat M a (.inl (cA, n, x))) (hK : K (Int32.ofNat n)) : mln M a cA K := ⟨(n, x), h, hK⟩
set_option maxHeartbeats 400000 in
theorem leP_cs {p p' : Nat → Int32} {o o' : Nat} : ∀ {k}, (∀ j, j < k → p (o + j) = p' (o' + j)) → leP p o k = leP p' o' k
  | 0, _ => rfl
  | k + 1, h => by
    show leP p o k + By (p (o + k)) * 2 ^ (8 * k) = leP p' o' k + By (p' (o' + k)) * 2 ^ (8 * k)
    rw [leP_cs (fun j hj => h j (by omega)), h k (Nat.lt_succ_self _)]
set_option maxHeartbeats 400000 in
theorem agU {nb : Nat} {rw : Nat → List Int32} {hgt : Nat → Nat} (r : List Int32) (h : Nat) : agr nb rw hgt (upW rw nb r) (upW hgt nb h) := fun b hb => ⟨upW_n (by omega), upW_n (by omega)⟩
/-- a new coin is in no place -/
def slN (sl : Cn → Int32) (nb : Nat) (c : Cn) : Int32 := if c.1 = nb then -1 else sl c
def blN (q : Nat → Nat) (nb p : Nat) (h w : Nat) (r : List Int32) : va_E := .inr (1, [.ref (q (kB p)), .ref (q (kB nb + 1)), .ref (q (kB nb + 2)), .ref (q (kB nb + 3)), .int (nI h), .long (lN (rTm r)), .int (rBi r), .long (lN w), .ref (q (kB nb + 4)), .int 0, .int 0, .int 0])
set_option maxHeartbeats 2000000 in
theorem bkR_new {P P' : Nat → Prop} {q q' : Nat → Nat} {C C' : Nat → va_E} {cy : Nat → ClassId} {nb : Nat} {par hgt tim : Nat → Nat} {bit : Nat → Int32} {bad : Nat → Bool} {rw : Nat → List Int32} {vl : Nat → Bool} {mk : Nat → Nat} {sl : Cn → Int32} (hB : bkR P q C cy nb par hgt tim bit bad rw vl mk sl) (hnb : 1 ≤ nb) (hp : ∀ k, 0 < k → par k < k) (e : ∀ k, 256 ≤ k → P k → P' k ∧ q' k = q k ∧ C' k = C k) {p : Nat} (hpn : p < nb) {r : List Int32} (hP' : P' (kB nb) ∧ P' (kB nb + 1) ∧ P' (kB nb + 2) ∧ P' (kB nb + 3) ∧ P' (kB nb + 4)) (c0 : C' (kB nb) = blN q' nb p (hgt p + 1) (wkX (rBi r) + wrk par bit p) r) (c1 : C' (kB nb + 1) = .inl (cy 0, r.length, .inl (lf r))) {gi gI g : Nat → Int32} (c2 : C' (kB nb + 2) = .inl (cy 0, 32, .inl gi)) (h2 : ∀ j, j < 32 → gi j = dbl (lf r) 80 j) (hlen : (rTL r).length ≤ 300) (c3 : C' (kB nb + 3) = .inl (cy 0, 32 * (rTL r).length + 32, .inl gI)) (h3 : ∀ t, t < (rTL r).length → ∀ j, j < 32 → gI (32 * t + j) = rId r t j) {f : Nat → Option Nat} (c4 : C' (kB nb + 4) = .inl (cy 6, nOut (rTL r), .inr (.inr (.inr (.inr f))))) (h4 : ∀ o, o < nOut (rTL r) → f o = some (q' (kB nb + 8 + o))) (hg : ∀ t j, t < (rTL r).length → j < ((rTL r).getD t d5).2.2.2.1.length → leP g (((rTL r).getD t d5).2.2.2.1.getD j d3).1 8 = leP (lf r) (((rTL r).getD t d5).2.2.2.1.getD j d3).1 8) (h5 : ∀ t j, t < (rTL r).length → j < ((rTL r).getD t d5).2.2.2.1.length → P' (kB nb + 8 + (nOut ((rTL r).take t) + j)) ∧ C' (kB nb + 8 + (nOut ((rTL r).take t) + j)) = coN q' (kB nb) gI g t j (((rTL r).getD t d5).2.2.2.1.getD j d3)) : bkR P' q' C' cy (nb + 1) (upW par nb p) (upW hgt nb (hgt p + 1)) (upW tim nb (rTm r)) (upW bit nb (rBi r)) (upW bad nb false) (upW rw nb r) (upW vl nb false) (upW mk nb 0) (slN sl nb) := by
  have hA := agU (nb := nb) (rw := rw) (hgt := hgt) r (hgt p + 1)
  have hB' := bkR_q hB hp e
  have eT : TLb (upW rw nb r) nb = rTL r := by
    unfold TLb rTL
    rw [upW_s]
  have eX : ∀ t, txO (upW rw nb r) nb t = (rTL r).getD t d5 := fun t => by
    unfold txO
    rw [eT]
  have eI : ∀ t, idT (upW rw nb r) nb t = rId r t := fun t => by
    unfold idT rId
    rw [eX, upW_s]
  have hw : ∀ k, k < nb → wrk (upW par nb p) (upW bit nb (rBi r)) k = wrk par bit k := fun k hk => wrk_g hnb (fun k k1 k2 => ⟨hp k k1, upW_n (by omega)⟩) hp (fun k k1 => upW_n (by omega)) hk
  have hp' : ∀ k, 0 < k → upW par nb p k < k := fun k k1 => by
    by_cases z : k = nb
    · rw [z, upW_s]; exact hpn
    · rw [upW_n z]; exact hp k k1
  refine ⟨fun b hb => ?_, fun c hc => ?_⟩
  · by_cases z : b = nb
    · subst z
      refine ⟨⟨hP'.1, hP'.2.1, hP'.2.2.1, hP'.2.2.2.1, fun _ => hP'.2.2.2.2⟩, c0.trans ?_, by rw [upW_s]; exact c1, ⟨gi, c2, fun j hj => ?_⟩, ⟨_, gI, c3, by omega, fun _ => by rw [eT], fun t ht j hj => ?_⟩, fun _ => ⟨f, by rw [eT]; exact c4, fun o ho => ?_⟩⟩
      · unfold blN blO
        rw [if_neg (by omega), if_neg (by omega), upW_s, upW_s, upW_s, upW_s, upW_s, upW_s, upW_s, wrk_s hp' (by omega), upW_s, upW_s, hw p hpn]
        rfl
      · rw [h2 j hj]
        unfold bIf
        rw [if_neg (by omega), upW_s]
      · rw [eT] at ht
        rw [eI]
        exact h3 t ht j hj
      · rw [eT] at ho
        exact h4 o ho
    · have hbn : b < nb := by omega
      obtain ⟨pp, d0, d1, ⟨g1, d2, d2'⟩, ⟨n, g3, d3', d3n, d3m, d3''⟩, d4⟩ := hB'.1 b hbn
      refine ⟨pp, d0.trans ?_, by rw [upW_n z]; exact d1, ⟨g1, d2, fun j hj => ?_⟩, ⟨n, g3, d3', d3n, fun h => by rw [ag_TL hA hbn]; exact d3m h, fun t ht j hj => ?_⟩, fun h0 => ?_⟩
      · unfold blO
        rw [upW_n z, upW_n z, upW_n z, upW_n z, upW_n z, upW_n z, upW_n z, hw b hbn]
      · rw [d2' j hj, bIf_c (upW_n z)]
      · rw [ag_TL hA hbn] at ht
        rw [ag_id hA hbn]
        exact d3'' t ht j hj
      · rw [ag_TL hA hbn]
        exact d4 h0
  · obtain ⟨b, t, j⟩ := c
    obtain ⟨⟨hb, ht⟩, hj⟩ := hc
    by_cases z : b = nb
    · subst z
      replace ht : t < (TLb (upW rw b r) b).length := ht
      replace hj : j < (txO (upW rw b r) b t).2.2.2.1.length := hj
      rw [eT] at ht
      rw [eX] at hj
      have ek : ck (upW rw b r) (b, t, j) = kB b + 8 + (nOut ((rTL r).take t) + j) := by
        show kB b + 8 + (nOut ((TLb (upW rw b r) b).take t) + j) = _
        rw [eT]
      rw [ek]
      obtain ⟨pc, cc⟩ := h5 t j ht hj
      refine ⟨pc, cc.trans ?_⟩
      have e1 : leP gI (32 * t) 4 = leP (idT (upW rw b r) b t) 0 4 := leP_cs (fun i hi => by rw [Nat.zero_add, eI]; exact h3 t ht i (by omega))
      have e2 : cnO (upW rw b r) (b, t, j) = ((rTL r).getD t d5).2.2.2.1.getD j d3 := by
        unfold cnO
        show (txO (upW rw b r) b t).2.2.2.1.getD j d3 = _
        rw [eX]
      have e3 : cnV (upW rw b r) (b, t, j) = leP g (((rTL r).getD t d5).2.2.2.1.getD j d3).1 8 := by
        unfold cnV
        rw [e2, hg t j ht hj]
        show leP (lf (upW rw b r b)) _ 8 = _
        rw [upW_s]
      unfold coN coO slN
      rw [e2, e3, if_pos (show b = b from rfl), e1]
    · have hbn : b < nb := by
        replace hb : b < nb + 1 := hb
        omega
      replace ht : t < (TLb (upW rw nb r) b).length := ht
      replace hj : j < (txO (upW rw nb r) b t).2.2.2.1.length := hj
      rw [ag_TL hA hbn] at ht
      rw [ag_tx hA hbn] at hj
      obtain ⟨pc, cc⟩ := hB'.2 (b, t, j) ⟨⟨hbn, ht⟩, hj⟩
      have ek : ck (upW rw nb r) (b, t, j) = ck rw (b, t, j) := by
        show kB b + 8 + (nOut ((TLb (upW rw nb r) b).take t) + j) = kB b + 8 + (nOut ((TLb rw b).take t) + j)
        rw [ag_TL hA hbn]
      rw [ek]
      refine ⟨pc, cc.trans ?_⟩
      unfold coO slN
      rw [ag_cO hA (c := (b, t, j)) hbn, ag_cV hA (c := (b, t, j)) hbn, if_neg (show ¬ b = nb from z)]
      rw [show idT (upW rw nb r) (b, t, j).1 (b, t, j).2.1 = idT rw (b, t, j).1 (b, t, j).2.1 from ag_id hA hbn t]
