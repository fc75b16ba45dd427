set_option maxHeartbeats 200000 in
set_option maxRecDepth 4000 in
theorem ok_bd3 {α1 α2 α3 β : Type} {x : Option (α1 × α2 × α3)} {k : α1 → α2 → α3 → Option β} {Q : α1 × α2 × α3 → Prop} {P : β → Prop} (h : ok x Q) (hk : ∀ v1 v2 v3, Q (v1, v2, v3) → ok (k v1 v2 v3) P) : ok (bd3 x k) P := by
  obtain ⟨⟨v1, v2, v3⟩, e, q⟩ := h; subst e; exact hk v1 v2 v3 q
set_option maxHeartbeats 200000 in
set_option maxRecDepth 4000 in
theorem ok_bd4 {α1 α2 α3 α4 β : Type} {x : Option (α1 × α2 × α3 × α4)} {k : α1 → α2 → α3 → α4 → Option β} {Q : α1 × α2 × α3 × α4 → Prop} {P : β → Prop} (h : ok x Q) (hk : ∀ v1 v2 v3 v4, Q (v1, v2, v3, v4) → ok (k v1 v2 v3 v4) P) : ok (bd4 x k) P := by
  obtain ⟨⟨v1, v2, v3, v4⟩, e, q⟩ := h; subst e; exact hk v1 v2 v3 v4 q
set_option maxHeartbeats 200000 in
set_option maxRecDepth 4000 in
theorem ok_bd5 {α1 α2 α3 α4 α5 β : Type} {x : Option (α1 × α2 × α3 × α4 × α5)} {k : α1 → α2 → α3 → α4 → α5 → Option β} {Q : α1 × α2 × α3 × α4 × α5 → Prop} {P : β → Prop} (h : ok x Q) (hk : ∀ v1 v2 v3 v4 v5, Q (v1, v2, v3, v4, v5) → ok (k v1 v2 v3 v4 v5) P) : ok (bd5 x k) P := by
  obtain ⟨⟨v1, v2, v3, v4, v5⟩, e, q⟩ := h; subst e; exact hk v1 v2 v3 v4 v5 q
set_option maxHeartbeats 200000 in
set_option maxRecDepth 4000 in
theorem ok_bd6 {α1 α2 α3 α4 α5 α6 β : Type} {x : Option (α1 × α2 × α3 × α4 × α5 × α6)} {k : α1 → α2 → α3 → α4 → α5 → α6 → Option β} {Q : α1 × α2 × α3 × α4 × α5 × α6 → Prop} {P : β → Prop} (h : ok x Q) (hk : ∀ v1 v2 v3 v4 v5 v6, Q (v1, v2, v3, v4, v5, v6) → ok (k v1 v2 v3 v4 v5 v6) P) : ok (bd6 x k) P := by
  obtain ⟨⟨v1, v2, v3, v4, v5, v6⟩, e, q⟩ := h; subst e; exact hk v1 v2 v3 v4 v5 v6 q
set_option maxHeartbeats 200000 in
set_option maxRecDepth 4000 in
theorem ok_bd7 {α1 α2 α3 α4 α5 α6 α7 β : Type} {x : Option (α1 × α2 × α3 × α4 × α5 × α6 × α7)} {k : α1 → α2 → α3 → α4 → α5 → α6 → α7 → Option β} {Q : α1 × α2 × α3 × α4 × α5 × α6 × α7 → Prop} {P : β → Prop} (h : ok x Q) (hk : ∀ v1 v2 v3 v4 v5 v6 v7, Q (v1, v2, v3, v4, v5, v6, v7) → ok (k v1 v2 v3 v4 v5 v6 v7) P) : ok (bd7 x k) P := by
  obtain ⟨⟨v1, v2, v3, v4, v5, v6, v7⟩, e, q⟩ := h; subst e; exact hk v1 v2 v3 v4 v5 v6 v7 q
set_option maxHeartbeats 200000 in
set_option maxRecDepth 4000 in
theorem ok_bd8 {α1 α2 α3 α4 α5 α6 α7 α8 β : Type} {x : Option (α1 × α2 × α3 × α4 × α5 × α6 × α7 × α8)} {k : α1 → α2 → α3 → α4 → α5 → α6 → α7 → α8 → Option β} {Q : α1 × α2 × α3 × α4 × α5 × α6 × α7 × α8 → Prop} {P : β → Prop} (h : ok x Q) (hk : ∀ v1 v2 v3 v4 v5 v6 v7 v8, Q (v1, v2, v3, v4, v5, v6, v7, v8) → ok (k v1 v2 v3 v4 v5 v6 v7 v8) P) : ok (bd8 x k) P := by
  obtain ⟨⟨v1, v2, v3, v4, v5, v6, v7, v8⟩, e, q⟩ := h; subst e; exact hk v1 v2 v3 v4 v5 v6 v7 v8 q
set_option maxHeartbeats 200000 in
set_option maxRecDepth 4000 in
theorem ok_bd12 {α1 α2 α3 α4 α5 α6 α7 α8 α9 α10 α11 α12 β : Type} {x : Option (α1 × α2 × α3 × α4 × α5 × α6 × α7 × α8 × α9 × α10 × α11 × α12)} {k : α1 → α2 → α3 → α4 → α5 → α6 → α7 → α8 → α9 → α10 → α11 → α12 → Option β} {Q : α1 × α2 × α3 × α4 × α5 × α6 × α7 × α8 × α9 × α10 × α11 × α12 → Prop} {P : β → Prop} (h : ok x Q) (hk : ∀ v1 v2 v3 v4 v5 v6 v7 v8 v9 v10 v11 v12, Q (v1, v2, v3, v4, v5, v6, v7, v8, v9, v10, v11, v12) → ok (k v1 v2 v3 v4 v5 v6 v7 v8 v9 v10 v11 v12) P) : ok (bd12 x k) P := by
  obtain ⟨⟨v1, v2, v3, v4, v5, v6, v7, v8, v9, v10, v11, v12⟩, e, q⟩ := h; subst e; exact hk v1 v2 v3 v4 v5 v6 v7 v8 v9 v10 v11 v12 q
set_option maxHeartbeats 200000 in
set_option maxRecDepth 4000 in
theorem ok_bd13 {α1 α2 α3 α4 α5 α6 α7 α8 α9 α10 α11 α12 α13 β : Type} {x : Option (α1 × α2 × α3 × α4 × α5 × α6 × α7 × α8 × α9 × α10 × α11 × α12 × α13)} {k : α1 → α2 → α3 → α4 → α5 → α6 → α7 → α8 → α9 → α10 → α11 → α12 → α13 → Option β} {Q : α1 × α2 × α3 × α4 × α5 × α6 × α7 × α8 × α9 × α10 × α11 × α12 × α13 → Prop} {P : β → Prop} (h : ok x Q) (hk : ∀ v1 v2 v3 v4 v5 v6 v7 v8 v9 v10 v11 v12 v13, Q (v1, v2, v3, v4, v5, v6, v7, v8, v9, v10, v11, v12, v13) → ok (k v1 v2 v3 v4 v5 v6 v7 v8 v9 v10 v11 v12 v13) P) : ok (bd13 x k) P := by
  obtain ⟨⟨v1, v2, v3, v4, v5, v6, v7, v8, v9, v10, v11, v12, v13⟩, e, q⟩ := h; subst e; exact hk v1 v2 v3 v4 v5 v6 v7 v8 v9 v10 v11 v12 v13 q
set_option maxHeartbeats 200000 in
set_option maxRecDepth 4000 in
theorem ok_bd14 {α1 α2 α3 α4 α5 α6 α7 α8 α9 α10 α11 α12 α13 α14 β : Type} {x : Option (α1 × α2 × α3 × α4 × α5 × α6 × α7 × α8 × α9 × α10 × α11 × α12 × α13 × α14)} {k : α1 → α2 → α3 → α4 → α5 → α6 → α7 → α8 → α9 → α10 → α11 → α12 → α13 → α14 → Option β} {Q : α1 × α2 × α3 × α4 × α5 × α6 × α7 × α8 × α9 × α10 × α11 × α12 × α13 × α14 → Prop} {P : β → Prop} (h : ok x Q) (hk : ∀ v1 v2 v3 v4 v5 v6 v7 v8 v9 v10 v11 v12 v13 v14, Q (v1, v2, v3, v4, v5, v6, v7, v8, v9, v10, v11, v12, v13, v14) → ok (k v1 v2 v3 v4 v5 v6 v7 v8 v9 v10 v11 v12 v13 v14) P) : ok (bd14 x k) P := by
  obtain ⟨⟨v1, v2, v3, v4, v5, v6, v7, v8, v9, v10, v11, v12, v13, v14⟩, e, q⟩ := h; subst e; exact hk v1 v2 v3 v4 v5 v6 v7 v8 v9 v10 v11 v12 v13 v14 q
set_option maxHeartbeats 200000 in
set_option maxRecDepth 4000 in
theorem ok_bd16 {α1 α2 α3 α4 α5 α6 α7 α8 α9 α10 α11 α12 α13 α14 α15 α16 β : Type} {x : Option (α1 × α2 × α3 × α4 × α5 × α6 × α7 × α8 × α9 × α10 × α11 × α12 × α13 × α14 × α15 × α16)} {k : α1 → α2 → α3 → α4 → α5 → α6 → α7 → α8 → α9 → α10 → α11 → α12 → α13 → α14 → α15 → α16 → Option β} {Q : α1 × α2 × α3 × α4 × α5 × α6 × α7 × α8 × α9 × α10 × α11 × α12 × α13 × α14 × α15 × α16 → Prop} {P : β → Prop} (h : ok x Q) (hk : ∀ v1 v2 v3 v4 v5 v6 v7 v8 v9 v10 v11 v12 v13 v14 v15 v16, Q (v1, v2, v3, v4, v5, v6, v7, v8, v9, v10, v11, v12, v13, v14, v15, v16) → ok (k v1 v2 v3 v4 v5 v6 v7 v8 v9 v10 v11 v12 v13 v14 v15 v16) P) : ok (bd16 x k) P := by
  obtain ⟨⟨v1, v2, v3, v4, v5, v6, v7, v8, v9, v10, v11, v12, v13, v14, v15, v16⟩, e, q⟩ := h; subst e; exact hk v1 v2 v3 v4 v5 v6 v7 v8 v9 v10 v11 v12 v13 v14 v15 v16 q
set_option maxHeartbeats 200000 in
set_option maxRecDepth 4000 in
theorem ok_bd23 {α1 α2 α3 α4 α5 α6 α7 α8 α9 α10 α11 α12 α13 α14 α15 α16 α17 α18 α19 α20 α21 α22 α23 β : Type} {x : Option (α1 × α2 × α3 × α4 × α5 × α6 × α7 × α8 × α9 × α10 × α11 × α12 × α13 × α14 × α15 × α16 × α17 × α18 × α19 × α20 × α21 × α22 × α23)} {k : α1 → α2 → α3 → α4 → α5 → α6 → α7 → α8 → α9 → α10 → α11 → α12 → α13 → α14 → α15 → α16 → α17 → α18 → α19 → α20 → α21 → α22 → α23 → Option β} {Q : α1 × α2 × α3 × α4 × α5 × α6 × α7 × α8 × α9 × α10 × α11 × α12 × α13 × α14 × α15 × α16 × α17 × α18 × α19 × α20 × α21 × α22 × α23 → Prop} {P : β → Prop} (h : ok x Q) (hk : ∀ v1 v2 v3 v4 v5 v6 v7 v8 v9 v10 v11 v12 v13 v14 v15 v16 v17 v18 v19 v20 v21 v22 v23, Q (v1, v2, v3, v4, v5, v6, v7, v8, v9, v10, v11, v12, v13, v14, v15, v16, v17, v18, v19, v20, v21, v22, v23) → ok (k v1 v2 v3 v4 v5 v6 v7 v8 v9 v10 v11 v12 v13 v14 v15 v16 v17 v18 v19 v20 v21 v22 v23) P) : ok (bd23 x k) P := by
  obtain ⟨⟨v1, v2, v3, v4, v5, v6, v7, v8, v9, v10, v11, v12, v13, v14, v15, v16, v17, v18, v19, v20, v21, v22, v23⟩, e, q⟩ := h; subst e; exact hk v1 v2 v3 v4 v5 v6 v7 v8 v9 v10 v11 v12 v13 v14 v15 v16 v17 v18 v19 v20 v21 v22 v23 q
set_option maxHeartbeats 200000 in
set_option maxRecDepth 4000 in
theorem ok_bd28 {α1 α2 α3 α4 α5 α6 α7 α8 α9 α10 α11 α12 α13 α14 α15 α16 α17 α18 α19 α20 α21 α22 α23 α24 α25 α26 α27 α28 β : Type} {x : Option (α1 × α2 × α3 × α4 × α5 × α6 × α7 × α8 × α9 × α10 × α11 × α12 × α13 × α14 × α15 × α16 × α17 × α18 × α19 × α20 × α21 × α22 × α23 × α24 × α25 × α26 × α27 × α28)} {k : α1 → α2 → α3 → α4 → α5 → α6 → α7 → α8 → α9 → α10 → α11 → α12 → α13 → α14 → α15 → α16 → α17 → α18 → α19 → α20 → α21 → α22 → α23 → α24 → α25 → α26 → α27 → α28 → Option β} {Q : α1 × α2 × α3 × α4 × α5 × α6 × α7 × α8 × α9 × α10 × α11 × α12 × α13 × α14 × α15 × α16 × α17 × α18 × α19 × α20 × α21 × α22 × α23 × α24 × α25 × α26 × α27 × α28 → Prop} {P : β → Prop} (h : ok x Q) (hk : ∀ v1 v2 v3 v4 v5 v6 v7 v8 v9 v10 v11 v12 v13 v14 v15 v16 v17 v18 v19 v20 v21 v22 v23 v24 v25 v26 v27 v28, Q (v1, v2, v3, v4, v5, v6, v7, v8, v9, v10, v11, v12, v13, v14, v15, v16, v17, v18, v19, v20, v21, v22, v23, v24, v25, v26, v27, v28) → ok (k v1 v2 v3 v4 v5 v6 v7 v8 v9 v10 v11 v12 v13 v14 v15 v16 v17 v18 v19 v20 v21 v22 v23 v24 v25 v26 v27 v28) P) : ok (bd28 x k) P := by
  obtain ⟨⟨v1, v2, v3, v4, v5, v6, v7, v8, v9, v10, v11, v12, v13, v14, v15, v16, v17, v18, v19, v20, v21, v22, v23, v24, v25, v26, v27, v28⟩, e, q⟩ := h; subst e; exact hk v1 v2 v3 v4 v5 v6 v7 v8 v9 v10 v11 v12 v13 v14 v15 v16 v17 v18 v19 v20 v21 v22 v23 v24 v25 v26 v27 v28 q
set_option maxHeartbeats 200000 in
set_option maxRecDepth 4000 in
theorem ok_bd30 {α1 α2 α3 α4 α5 α6 α7 α8 α9 α10 α11 α12 α13 α14 α15 α16 α17 α18 α19 α20 α21 α22 α23 α24 α25 α26 α27 α28 α29 α30 β : Type} {x : Option (α1 × α2 × α3 × α4 × α5 × α6 × α7 × α8 × α9 × α10 × α11 × α12 × α13 × α14 × α15 × α16 × α17 × α18 × α19 × α20 × α21 × α22 × α23 × α24 × α25 × α26 × α27 × α28 × α29 × α30)} {k : α1 → α2 → α3 → α4 → α5 → α6 → α7 → α8 → α9 → α10 → α11 → α12 → α13 → α14 → α15 → α16 → α17 → α18 → α19 → α20 → α21 → α22 → α23 → α24 → α25 → α26 → α27 → α28 → α29 → α30 → Option β} {Q : α1 × α2 × α3 × α4 × α5 × α6 × α7 × α8 × α9 × α10 × α11 × α12 × α13 × α14 × α15 × α16 × α17 × α18 × α19 × α20 × α21 × α22 × α23 × α24 × α25 × α26 × α27 × α28 × α29 × α30 → Prop} {P : β → Prop} (h : ok x Q) (hk : ∀ v1 v2 v3 v4 v5 v6 v7 v8 v9 v10 v11 v12 v13 v14 v15 v16 v17 v18 v19 v20 v21 v22 v23 v24 v25 v26 v27 v28 v29 v30, Q (v1, v2, v3, v4, v5, v6, v7, v8, v9, v10, v11, v12, v13, v14, v15, v16, v17, v18, v19, v20, v21, v22, v23, v24, v25, v26, v27, v28, v29, v30) → ok (k v1 v2 v3 v4 v5 v6 v7 v8 v9 v10 v11 v12 v13 v14 v15 v16 v17 v18 v19 v20 v21 v22 v23 v24 v25 v26 v27 v28 v29 v30) P) : ok (bd30 x k) P := by
  obtain ⟨⟨v1, v2, v3, v4, v5, v6, v7, v8, v9, v10, v11, v12, v13, v14, v15, v16, v17, v18, v19, v20, v21, v22, v23, v24, v25, v26, v27, v28, v29, v30⟩, e, q⟩ := h; subst e; exact hk v1 v2 v3 v4 v5 v6 v7 v8 v9 v10 v11 v12 v13 v14 v15 v16 v17 v18 v19 v20 v21 v22 v23 v24 v25 v26 v27 v28 v29 v30 q
set_option maxHeartbeats 200000 in
set_option maxRecDepth 4000 in
theorem ok_bd31 {α1 α2 α3 α4 α5 α6 α7 α8 α9 α10 α11 α12 α13 α14 α15 α16 α17 α18 α19 α20 α21 α22 α23 α24 α25 α26 α27 α28 α29 α30 α31 β : Type} {x : Option (α1 × α2 × α3 × α4 × α5 × α6 × α7 × α8 × α9 × α10 × α11 × α12 × α13 × α14 × α15 × α16 × α17 × α18 × α19 × α20 × α21 × α22 × α23 × α24 × α25 × α26 × α27 × α28 × α29 × α30 × α31)} {k : α1 → α2 → α3 → α4 → α5 → α6 → α7 → α8 → α9 → α10 → α11 → α12 → α13 → α14 → α15 → α16 → α17 → α18 → α19 → α20 → α21 → α22 → α23 → α24 → α25 → α26 → α27 → α28 → α29 → α30 → α31 → Option β} {Q : α1 × α2 × α3 × α4 × α5 × α6 × α7 × α8 × α9 × α10 × α11 × α12 × α13 × α14 × α15 × α16 × α17 × α18 × α19 × α20 × α21 × α22 × α23 × α24 × α25 × α26 × α27 × α28 × α29 × α30 × α31 → Prop} {P : β → Prop} (h : ok x Q) (hk : ∀ v1 v2 v3 v4 v5 v6 v7 v8 v9 v10 v11 v12 v13 v14 v15 v16 v17 v18 v19 v20 v21 v22 v23 v24 v25 v26 v27 v28 v29 v30 v31, Q (v1, v2, v3, v4, v5, v6, v7, v8, v9, v10, v11, v12, v13, v14, v15, v16, v17, v18, v19, v20, v21, v22, v23, v24, v25, v26, v27, v28, v29, v30, v31) → ok (k v1 v2 v3 v4 v5 v6 v7 v8 v9 v10 v11 v12 v13 v14 v15 v16 v17 v18 v19 v20 v21 v22 v23 v24 v25 v26 v27 v28 v29 v30 v31) P) : ok (bd31 x k) P := by
  obtain ⟨⟨v1, v2, v3, v4, v5, v6, v7, v8, v9, v10, v11, v12, v13, v14, v15, v16, v17, v18, v19, v20, v21, v22, v23, v24, v25, v26, v27, v28, v29, v30, v31⟩, e, q⟩ := h; subst e; exact hk v1 v2 v3 v4 v5 v6 v7 v8 v9 v10 v11 v12 v13 v14 v15 v16 v17 v18 v19 v20 v21 v22 v23 v24 v25 v26 v27 v28 v29 v30 v31 q
set_option maxHeartbeats 200000 in
set_option maxRecDepth 4000 in
theorem ok_bd32 {α1 α2 α3 α4 α5 α6 α7 α8 α9 α10 α11 α12 α13 α14 α15 α16 α17 α18 α19 α20 α21 α22 α23 α24 α25 α26 α27 α28 α29 α30 α31 α32 β : Type} {x : Option (α1 × α2 × α3 × α4 × α5 × α6 × α7 × α8 × α9 × α10 × α11 × α12 × α13 × α14 × α15 × α16 × α17 × α18 × α19 × α20 × α21 × α22 × α23 × α24 × α25 × α26 × α27 × α28 × α29 × α30 × α31 × α32)} {k : α1 → α2 → α3 → α4 → α5 → α6 → α7 → α8 → α9 → α10 → α11 → α12 → α13 → α14 → α15 → α16 → α17 → α18 → α19 → α20 → α21 → α22 → α23 → α24 → α25 → α26 → α27 → α28 → α29 → α30 → α31 → α32 → Option β} {Q : α1 × α2 × α3 × α4 × α5 × α6 × α7 × α8 × α9 × α10 × α11 × α12 × α13 × α14 × α15 × α16 × α17 × α18 × α19 × α20 × α21 × α22 × α23 × α24 × α25 × α26 × α27 × α28 × α29 × α30 × α31 × α32 → Prop} {P : β → Prop} (h : ok x Q) (hk : ∀ v1 v2 v3 v4 v5 v6 v7 v8 v9 v10 v11 v12 v13 v14 v15 v16 v17 v18 v19 v20 v21 v22 v23 v24 v25 v26 v27 v28 v29 v30 v31 v32, Q (v1, v2, v3, v4, v5, v6, v7, v8, v9, v10, v11, v12, v13, v14, v15, v16, v17, v18, v19, v20, v21, v22, v23, v24, v25, v26, v27, v28, v29, v30, v31, v32) → ok (k v1 v2 v3 v4 v5 v6 v7 v8 v9 v10 v11 v12 v13 v14 v15 v16 v17 v18 v19 v20 v21 v22 v23 v24 v25 v26 v27 v28 v29 v30 v31 v32) P) : ok (bd32 x k) P := by
  obtain ⟨⟨v1, v2, v3, v4, v5, v6, v7, v8, v9, v10, v11, v12, v13, v14, v15, v16, v17, v18, v19, v20, v21, v22, v23, v24, v25, v26, v27, v28, v29, v30, v31, v32⟩, e, q⟩ := h; subst e; exact hk v1 v2 v3 v4 v5 v6 v7 v8 v9 v10 v11 v12 v13 v14 v15 v16 v17 v18 v19 v20 v21 v22 v23 v24 v25 v26 v27 v28 v29 v30 v31 v32 q
set_option maxHeartbeats 200000 in
set_option maxRecDepth 4000 in
theorem ok_bd38 {α1 α2 α3 α4 α5 α6 α7 α8 α9 α10 α11 α12 α13 α14 α15 α16 α17 α18 α19 α20 α21 α22 α23 α24 α25 α26 α27 α28 α29 α30 α31 α32 α33 α34 α35 α36 α37 α38 β : Type} {x : Option (α1 × α2 × α3 × α4 × α5 × α6 × α7 × α8 × α9 × α10 × α11 × α12 × α13 × α14 × α15 × α16 × α17 × α18 × α19 × α20 × α21 × α22 × α23 × α24 × α25 × α26 × α27 × α28 × α29 × α30 × α31 × α32 × α33 × α34 × α35 × α36 × α37 × α38)} {k : α1 → α2 → α3 → α4 → α5 → α6 → α7 → α8 → α9 → α10 → α11 → α12 → α13 → α14 → α15 → α16 → α17 → α18 → α19 → α20 → α21 → α22 → α23 → α24 → α25 → α26 → α27 → α28 → α29 → α30 → α31 → α32 → α33 → α34 → α35 → α36 → α37 → α38 → Option β} {Q : α1 × α2 × α3 × α4 × α5 × α6 × α7 × α8 × α9 × α10 × α11 × α12 × α13 × α14 × α15 × α16 × α17 × α18 × α19 × α20 × α21 × α22 × α23 × α24 × α25 × α26 × α27 × α28 × α29 × α30 × α31 × α32 × α33 × α34 × α35 × α36 × α37 × α38 → Prop} {P : β → Prop} (h : ok x Q) (hk : ∀ v1 v2 v3 v4 v5 v6 v7 v8 v9 v10 v11 v12 v13 v14 v15 v16 v17 v18 v19 v20 v21 v22 v23 v24 v25 v26 v27 v28 v29 v30 v31 v32 v33 v34 v35 v36 v37 v38, Q (v1, v2, v3, v4, v5, v6, v7, v8, v9, v10, v11, v12, v13, v14, v15, v16, v17, v18, v19, v20, v21, v22, v23, v24, v25, v26, v27, v28, v29, v30, v31, v32, v33, v34, v35, v36, v37, v38) → ok (k v1 v2 v3 v4 v5 v6 v7 v8 v9 v10 v11 v12 v13 v14 v15 v16 v17 v18 v19 v20 v21 v22 v23 v24 v25 v26 v27 v28 v29 v30 v31 v32 v33 v34 v35 v36 v37 v38) P) : ok (bd38 x k) P := by
  obtain ⟨⟨v1, v2, v3, v4, v5, v6, v7, v8, v9, v10, v11, v12, v13, v14, v15, v16, v17, v18, v19, v20, v21, v22, v23, v24, v25, v26, v27, v28, v29, v30, v31, v32, v33, v34, v35, v36, v37, v38⟩, e, q⟩ := h; subst e; exact hk v1 v2 v3 v4 v5 v6 v7 v8 v9 v10 v11 v12 v13 v14 v15 v16 v17 v18 v19 v20 v21 v22 v23 v24 v25 v26 v27 v28 v29 v30 v31 v32 v33 v34 v35 v36 v37 v38 q
set_option maxHeartbeats 200000 in
set_option maxRecDepth 4000 in
theorem ok_bd40 {α1 α2 α3 α4 α5 α6 α7 α8 α9 α10 α11 α12 α13 α14 α15 α16 α17 α18 α19 α20 α21 α22 α23 α24 α25 α26 α27 α28 α29 α30 α31 α32 α33 α34 α35 α36 α37 α38 α39 α40 β : Type} {x : Option (α1 × α2 × α3 × α4 × α5 × α6 × α7 × α8 × α9 × α10 × α11 × α12 × α13 × α14 × α15 × α16 × α17 × α18 × α19 × α20 × α21 × α22 × α23 × α24 × α25 × α26 × α27 × α28 × α29 × α30 × α31 × α32 × α33 × α34 × α35 × α36 × α37 × α38 × α39 × α40)} {k : α1 → α2 → α3 → α4 → α5 → α6 → α7 → α8 → α9 → α10 → α11 → α12 → α13 → α14 → α15 → α16 → α17 → α18 → α19 → α20 → α21 → α22 → α23 → α24 → α25 → α26 → α27 → α28 → α29 → α30 → α31 → α32 → α33 → α34 → α35 → α36 → α37 → α38 → α39 → α40 → Option β} {Q : α1 × α2 × α3 × α4 × α5 × α6 × α7 × α8 × α9 × α10 × α11 × α12 × α13 × α14 × α15 × α16 × α17 × α18 × α19 × α20 × α21 × α22 × α23 × α24 × α25 × α26 × α27 × α28 × α29 × α30 × α31 × α32 × α33 × α34 × α35 × α36 × α37 × α38 × α39 × α40 → Prop} {P : β → Prop} (h : ok x Q) (hk : ∀ v1 v2 v3 v4 v5 v6 v7 v8 v9 v10 v11 v12 v13 v14 v15 v16 v17 v18 v19 v20 v21 v22 v23 v24 v25 v26 v27 v28 v29 v30 v31 v32 v33 v34 v35 v36 v37 v38 v39 v40, Q (v1, v2, v3, v4, v5, v6, v7, v8, v9, v10, v11, v12, v13, v14, v15, v16, v17, v18, v19, v20, v21, v22, v23, v24, v25, v26, v27, v28, v29, v30, v31, v32, v33, v34, v35, v36, v37, v38, v39, v40) → ok (k v1 v2 v3 v4 v5 v6 v7 v8 v9 v10 v11 v12 v13 v14 v15 v16 v17 v18 v19 v20 v21 v22 v23 v24 v25 v26 v27 v28 v29 v30 v31 v32 v33 v34 v35 v36 v37 v38 v39 v40) P) : ok (bd40 x k) P := by
  obtain ⟨⟨v1, v2, v3, v4, v5, v6, v7, v8, v9, v10, v11, v12, v13, v14, v15, v16, v17, v18, v19, v20, v21, v22, v23, v24, v25, v26, v27, v28, v29, v30, v31, v32, v33, v34, v35, v36, v37, v38, v39, v40⟩, e, q⟩ := h; subst e; exact hk v1 v2 v3 v4 v5 v6 v7 v8 v9 v10 v11 v12 v13 v14 v15 v16 v17 v18 v19 v20 v21 v22 v23 v24 v25 v26 v27 v28 v29 v30 v31 v32 v33 v34 v35 v36 v37 v38 v39 v40 q
set_option maxHeartbeats 200000 in
set_option maxRecDepth 4000 in
theorem ok_bd46 {α1 α2 α3 α4 α5 α6 α7 α8 α9 α10 α11 α12 α13 α14 α15 α16 α17 α18 α19 α20 α21 α22 α23 α24 α25 α26 α27 α28 α29 α30 α31 α32 α33 α34 α35 α36 α37 α38 α39 α40 α41 α42 α43 α44 α45 α46 β : Type} {x : Option (α1 × α2 × α3 × α4 × α5 × α6 × α7 × α8 × α9 × α10 × α11 × α12 × α13 × α14 × α15 × α16 × α17 × α18 × α19 × α20 × α21 × α22 × α23 × α24 × α25 × α26 × α27 × α28 × α29 × α30 × α31 × α32 × α33 × α34 × α35 × α36 × α37 × α38 × α39 × α40 × α41 × α42 × α43 × α44 × α45 × α46)} {k : α1 → α2 → α3 → α4 → α5 → α6 → α7 → α8 → α9 → α10 → α11 → α12 → α13 → α14 → α15 → α16 → α17 → α18 → α19 → α20 → α21 → α22 → α23 → α24 → α25 → α26 → α27 → α28 → α29 → α30 → α31 → α32 → α33 → α34 → α35 → α36 → α37 → α38 → α39 → α40 → α41 → α42 → α43 → α44 → α45 → α46 → Option β} {Q : α1 × α2 × α3 × α4 × α5 × α6 × α7 × α8 × α9 × α10 × α11 × α12 × α13 × α14 × α15 × α16 × α17 × α18 × α19 × α20 × α21 × α22 × α23 × α24 × α25 × α26 × α27 × α28 × α29 × α30 × α31 × α32 × α33 × α34 × α35 × α36 × α37 × α38 × α39 × α40 × α41 × α42 × α43 × α44 × α45 × α46 → Prop} {P : β → Prop} (h : ok x Q) (hk : ∀ v1 v2 v3 v4 v5 v6 v7 v8 v9 v10 v11 v12 v13 v14 v15 v16 v17 v18 v19 v20 v21 v22 v23 v24 v25 v26 v27 v28 v29 v30 v31 v32 v33 v34 v35 v36 v37 v38 v39 v40 v41 v42 v43 v44 v45 v46, Q (v1, v2, v3, v4, v5, v6, v7, v8, v9, v10, v11, v12, v13, v14, v15, v16, v17, v18, v19, v20, v21, v22, v23, v24, v25, v26, v27, v28, v29, v30, v31, v32, v33, v34, v35, v36, v37, v38, v39, v40, v41, v42, v43, v44, v45, v46) → ok (k v1 v2 v3 v4 v5 v6 v7 v8 v9 v10 v11 v12 v13 v14 v15 v16 v17 v18 v19 v20 v21 v22 v23 v24 v25 v26 v27 v28 v29 v30 v31 v32 v33 v34 v35 v36 v37 v38 v39 v40 v41 v42 v43 v44 v45 v46) P) : ok (bd46 x k) P := by
  obtain ⟨⟨v1, v2, v3, v4, v5, v6, v7, v8, v9, v10, v11, v12, v13, v14, v15, v16, v17, v18, v19, v20, v21, v22, v23, v24, v25, v26, v27, v28, v29, v30, v31, v32, v33, v34, v35, v36, v37, v38, v39, v40, v41, v42, v43, v44, v45, v46⟩, e, q⟩ := h; subst e; exact hk v1 v2 v3 v4 v5 v6 v7 v8 v9 v10 v11 v12 v13 v14 v15 v16 v17 v18 v19 v20 v21 v22 v23 v24 v25 v26 v27 v28 v29 v30 v31 v32 v33 v34 v35 v36 v37 v38 v39 v40 v41 v42 v43 v44 v45 v46 q
-- numbers in the field
section CH
variable {F : Type}
set_option maxHeartbeats 200000 in
theorem c_0 [Lean.Grind.Field F] {p : Nat} {c : Int → F} (hc : cH p c) : c 0 = 0 := by
  have h := hc.1 0 0
  have e : (0 : Int) + 0 = 0 := rfl
  rw [e] at h
  grind
set_option maxHeartbeats 200000 in
theorem c_neg [Lean.Grind.Field F] {p : Nat} {c : Int → F} (hc : cH p c) (a : Int) : c (-a) = - c a := by
  have h := hc.1 (-a) a
  have e : -a + a = 0 := by omega
  rw [e, c_0 hc] at h
  grind
set_option maxHeartbeats 200000 in
theorem c_sub [Lean.Grind.Field F] {p : Nat} {c : Int → F} (hc : cH p c) (a b : Int) : c (a - b) = c a - c b := by
  have h := hc.1 a (-b)
  have e : a + -b = a - b := by omega
  rw [e, c_neg hc] at h
  grind
set_option maxHeartbeats 200000 in
theorem c_eq [Lean.Grind.Field F] {p : Nat} {c : Int → F} (hc : cH p c) {a b : Int} (h : (p : Int) ∣ a - b) : c a = c b := (hc.2.2.2.1 a b).mpr h
set_option maxHeartbeats 200000 in
theorem c_p [Lean.Grind.Field F] {p : Nat} {c : Int → F} (hc : cH p c) : c (p : Int) = 0 := by
  rw [← c_0 hc]
  exact c_eq hc (by rw [Int.sub_zero]; exact Int.dvd_refl _)
set_option maxHeartbeats 200000 in
theorem c_mod [Lean.Grind.Field F] {p : Nat} {c : Int → F} (hc : cH p c) (a : Nat) : c ((a % p : Nat) : Int) = c (a : Int) := by
  refine c_eq hc ⟨-(a / p : Nat), ?_⟩
  have h := Nat.div_add_mod a p
  have h2 : (a : Int) = p * (a / p : Nat) + (a % p : Nat) := by rw [← Int.natCast_mul, ← Int.natCast_add, h]
  rw [h2, Int.mul_neg]
  omega
set_option maxHeartbeats 200000 in
theorem c_inj [Lean.Grind.Field F] {p : Nat} {c : Int → F} (hc : cH p c) {a b : Nat} (ha : a < p) (hb : b < p) (h : c (a : Int) = c (b : Int)) : a = b := by
  obtain ⟨k, hk⟩ := (hc.2.2.2.1 _ _).mp h
  have h1 : k = 0 := by
    rcases Int.lt_trichotomy k 0 with g | g | g
    · have : (p : Int) * k ≤ p * (-1) := Int.mul_le_mul_of_nonneg_left (by omega) (by omega)
      omega
    · exact g
    · have : (p : Int) * 1 ≤ p * k := Int.mul_le_mul_of_nonneg_left (by omega) (by omega)
      omega
  rw [h1, Int.mul_zero] at hk
  omega
set_option maxHeartbeats 200000 in
theorem c_ne0 [Lean.Grind.Field F] {p : Nat} {c : Int → F} (hc : cH p c) {a : Nat} (ha : a < p) (h0 : 0 < a) : c (a : Int) ≠ 0 := by
  intro h
  rw [← c_0 hc] at h
  have := c_inj hc (b := 0) ha (by omega) h
  omega
set_option maxHeartbeats 200000 in
theorem c_1 [Lean.Grind.Field F] {p : Nat} {c : Int → F} (hc : cH p c) : c 1 = 1 := hc.2.2.1
set_option maxHeartbeats 200000 in
theorem c_add [Lean.Grind.Field F] {p : Nat} {c : Int → F} (hc : cH p c) (a b : Int) : c (a + b) = c a + c b := hc.1 a b
set_option maxHeartbeats 200000 in
theorem c_mul [Lean.Grind.Field F] {p : Nat} {c : Int → F} (hc : cH p c) (a b : Int) : c (a * b) = c a * c b := hc.2.1 a b
set_option maxHeartbeats 200000 in
theorem c_2 [Lean.Grind.Field F] {p : Nat} {c : Int → F} (hc : cH p c) : c 2 = 2 := by
  have h := hc.1 1 1
  have e : (1 : Int) + 1 = 2 := rfl
  rw [e, c_1 hc] at h
  grind
set_option maxHeartbeats 200000 in
theorem c_3 [Lean.Grind.Field F] {p : Nat} {c : Int → F} (hc : cH p c) : c 3 = 3 := by
  have h := hc.1 2 1
  have e : (2 : Int) + 1 = 3 := rfl
  rw [e, c_1 hc, c_2 hc] at h
  grind
set_option maxHeartbeats 200000 in
theorem c_tm [Lean.Grind.Field F] {p : Nat} {c : Int → F} (hc : cH p c) (a b : Nat) : c ((a * b % p : Nat) : Int) = c (a : Int) * c (b : Int) := by
  rw [c_mod hc, Int.natCast_mul, c_mul hc]
set_option maxHeartbeats 200000 in
theorem c_pl [Lean.Grind.Field F] {p : Nat} {c : Int → F} (hc : cH p c) (a b : Nat) : c (((a + b) % p : Nat) : Int) = c (a : Int) + c (b : Int) := by
  rw [c_mod hc, Int.natCast_add, c_add hc]
set_option maxHeartbeats 200000 in
theorem c_mn [Lean.Grind.Field F] {p : Nat} {c : Int → F} (hc : cH p c) {a b : Nat} (hb : b < p) : c (((a + (p - b)) % p : Nat) : Int) = c (a : Int) - c (b : Int) := by
  rw [c_mod hc]
  have e : ((a + (p - b) : Nat) : Int) = (a : Int) - b + p := by omega
  rw [e, c_add hc, c_sub hc, c_p hc]
  grind
set_option maxHeartbeats 200000 in
theorem c_iv [Lean.Grind.Field F] {p : Nat} {c : Int → F} (hc : cH p c) {a x : Nat} (h : iR a p x 1) : c (x : Int) * c (a : Int) = 1 := by
  obtain ⟨-, k, e⟩ := h
  rw [← c_mul hc, e, c_add hc, c_mul hc, c_p hc]
  have e1 : c ((1 : Nat) : Int) = 1 := c_1 hc
  rw [e1]
  grind
end CH
set_option maxHeartbeats 200000 in
theorem pP_7 : 7 < pP := by decide +kernel
set_option maxHeartbeats 200000 in
theorem k_2 {F : Type} [Lean.Grind.Field F] {c : Int → F} (hc : cH pP c) : (2 : F) ≠ 0 := by
  rw [← c_2 hc]
  exact c_ne0 hc (a := 2) (Nat.lt_trans (by decide) pP_7) (by decide)
set_option maxHeartbeats 200000 in
theorem k_3 {F : Type} [Lean.Grind.Field F] {c : Int → F} (hc : cH pP c) : (3 : F) ≠ 0 := by
  rw [← c_3 hc]
  exact c_ne0 hc (a := 3) (Nat.lt_trans (by decide) pP_7) (by decide)
set_option maxHeartbeats 200000 in
theorem k_7 {F : Type} [Lean.Grind.Field F] {c : Int → F} (hc : cH pP c) : c 7 ≠ 0 := c_ne0 hc (a := 7) pP_7 (by decide)
/-- on the curve, as numbers -/
def onN (x y : Nat) : Bool := decide (y * y % pP = (x * x * x + 7) % pP)
set_option maxHeartbeats 200000 in
theorem onN_c {F : Type} [Lean.Grind.Field F] {c : Int → F} (hc : cH pP c) {x y : Nat} (h : onN x y = true) : onC (c 7) (some (c (x : Int), c (y : Int))) := by
  have h1 : y * y % pP = (x * x * x + 7) % pP := of_decide_eq_true h
  have h2 := congrArg (fun n : Nat => c (n : Int)) h1
  simp only [c_mod hc] at h2
  rw [Int.natCast_mul, Int.natCast_add, Int.natCast_mul, Int.natCast_mul, c_mul hc, c_add hc, c_mul hc, c_mul hc] at h2
  exact h2
set_option maxHeartbeats 200000 in
theorem c_on {F : Type} [Lean.Grind.Field F] {c : Int → F} (hc : cH pP c) {x y : Nat} (h : onC (c 7) (some (c (x : Int), c (y : Int)))) : onN x y = true := by
  apply decide_eq_true
  have hp : 0 < pP := Nat.lt_trans (by decide) pP_7
  refine c_inj hc (Nat.mod_lt _ hp) (Nat.mod_lt _ hp) ?_
  rw [c_mod hc, c_mod hc, Int.natCast_mul, Int.natCast_add, Int.natCast_mul, Int.natCast_mul, c_mul hc, c_add hc, c_mul hc, c_mul hc]
  exact h
def pts : List (Nat × Nat) := [(55066263022277343669578718895168534326250603453777594175500187360389116729240, 32670510020758816978083085130507043184471273380659243275938904335757337482424), (89565891926547004231252920425935692360644145829622209833684329913297188986597, 12158399299693830322967808612713398636155367887041628176798871954788371653930), (112711660439710606056748659173929673102114977341539408544630613555209775888121, 25583027980570883691656905877401976406448868254816295069919888960541586679410), (103388573995635080359749164254216598308788835304023601477803095234286494993683, 37057141145242123013015316630864329550140216928701153669873286428255828810018), (21505829891763648114329055987619236494102133314575206970830385799158076338148, 98003708678762621233683240503080860129026887322874138805529884920309963580118), (115780575977492633039504758427830329241728645270042306223540962614150928364886, 78735063515800386211891312544505775871260717697865196436804966483607426560663), (41948375291644419605210209193538855353224492619856392092318293986323063962044, 48361766907851246668144012348516735800090617714386977531302791340517493990618), (21262057306151627953595685090280431278183829487175876377991189246716355947009, 41749993296225487051377864631615517161996906063147759678534462689479575333124), (78173298682877769088723994436027545680738210601369041078747105985693655485630, 92362876758821804597230797234617159328445543067760556585160674174871431781431), (72488970228380509287422715226575535698893157273063074627791787432852706183111, 62070622898698443831883535403436258712770888294397026493185421712108624767191), (53957576663012291606402345341061437133522758407718089353314528343643821967563, 98386217607324929854432842186271083758341411730506808463586570492533445740059), (94111259592240215275188773285036844871058226277992966241101117022315524122714, 76870767327212528811304566602812752860184934880685532702451763239157141742375), (109699032664856045668214896063362497021339186688470416858630178803463338613416, 4835088675770141268294878046681321747490758260515711581034896622314066275713), (33301309993451753050311554695703528430361259803437469669590207169100761277412, 91711666877231500617203373035680263572492971120307578300405368749466283229019), (97505755694356382817881959832717013755620551362654128955029190924747025549326, 39856815248295663243990443767776362321337592747889787217974905533720651000664), (104059883622109321374094289636044428849728529177856482232626205340719788190730, 112122903140080327253741791678230372394936108416576609264408917599318947489825), (100862081773581120499222301212791081193994281440454033593790618293887747050036, 29883864782608871580821802176208615141762369223249393426421538275393411672951), (38901272619685732968285380035171577070479117282397203902622597987558769928140, 87393127487643849618870152207476122589010570440825041333620493866032028851544), (19588375357829479297593261744848590434972900972071148260168833594658324503404, 60568592333449737531184420002591396163903580402725242236305558432410218044282), (34773495056115281091786765947597603724784643419904767525769502836017890139287, 8470533044743364938367028725608288731153024648869546164814808839694950063162), (24049875635381557237058143631624836741422505207761609709712554171343558302165, 22669890352939653242079781319904043788036611953081321775127194249638113810828), (29908081367423272746086114569421970207888665320998202915346633185016778189308, 19705544727792599099830884487151299095417296550955739824847212341657057716097), (21545045623056848826483343441081830815719530893582365358444562918095175994431, 1296978981679745807043951140304019026881137717020402959957988455650813508967), (115090238283566018960826468250608273126387416636633736439689841211757211870926, 47185183227829754668635270747409548752084785367264057948864458978444304762303), (66165162229742397718677620062386824252848999675912518712054484685772795754260, 52018513869565587577673992057861898728543589604141463438466108080111932355586)]
set_option maxHeartbeats 200000 in
theorem pts_on : ∀ i, i < 25 → onN (pts.getD i (0, 0)).1 (pts.getD i (0, 0)).2 = true := by decide +kernel
set_option maxHeartbeats 200000 in
theorem pts_lt : ∀ i, i < 25 → (pts.getD i (0, 0)).1 < pP := by decide +kernel
set_option maxHeartbeats 200000 in
theorem pts_ne : ∀ i, i < 25 → ∀ j, j < 25 → i ≠ j → (pts.getD i (0, 0)).1 ≠ (pts.getD j (0, 0)).1 := by decide +kernel
set_option maxHeartbeats 200000 in
theorem pig {α : Type} [DecidableEq α] (f : Nat → α) : ∀ (n : Nat) (L : List α), (∀ i, i < n → ∀ j, j < n → i ≠ j → f i ≠ f j) → (∀ i, i < n → f i ∈ L) → n ≤ L.length
  | 0, _, _, _ => Nat.zero_le _
  | n + 1, L, h1, h2 => by
    have h3 := pig f n (L.erase (f n)) (fun i hi j hj => h1 i (by omega) j (by omega)) (fun i hi => (List.mem_erase_of_ne (h1 i (by omega) n (by omega) (by omega))).mpr (h2 i (by omega)))
    have h4 := List.length_erase_of_mem (h2 n (by omega))
    have h5 := List.length_pos_of_mem (h2 n (by omega))
    omega
set_option maxHeartbeats 200000 in
theorem many {F : Type} [Lean.Grind.Field F] [DecidableEq F] {c : Int → F} (hc : cH pP c) (L : List (Option (F × F))) (hL : L.length ≤ 24) : ∃ t, onC (c 7) t ∧ t ∉ L := by
  apply Classical.byContradiction
  intro h
  have h1 : ∀ i, i < 25 → (fun i => some (c (((pts.getD i (0, 0)).1 : Nat) : Int), c (((pts.getD i (0, 0)).2 : Nat) : Int))) i ∈ L := by
    intro i hi
    apply Classical.byContradiction
    intro g
    exact h ⟨_, onN_c hc (pts_on i hi), g⟩
  have h2 := pig (fun i => (some (c (((pts.getD i (0, 0)).1 : Nat) : Int), c (((pts.getD i (0, 0)).2 : Nat) : Int)) : Option (F × F))) 25 L (fun i hi j hj hne e => by
    have e1 := congrArg Prod.fst (Option.some.inj e)
    exact pts_ne i hi j hj hne (c_inj hc (pts_lt i hi) (pts_lt j hj) e1)) h1
  omega
-- the group
set_option maxHeartbeats 200000 in
theorem g_as {F : Type} [Lean.Grind.Field F] [DecidableEq F] {c : Int → F} (hc : cH pP c) {p q r : Option (F × F)} (hp : onC (c 7) p) (hq : onC (c 7) q) (hr : onC (c 7) r) : ea (ea p q) r = ea p (ea q r) := ea_as (k_2 hc) (k_3 hc) (k_7 hc) (many hc) hp hq hr
set_option maxHeartbeats 200000 in
theorem g_c {F : Type} [Lean.Grind.Field F] [DecidableEq F] {c : Int → F} (hc : cH pP c) {p q : Option (F × F)} (hp : onC (c 7) p) (hq : onC (c 7) q) : ea p q = ea q p := ea_c (k_2 hc) hp hq
set_option maxHeartbeats 200000 in
theorem g_on {F : Type} [Lean.Grind.Field F] [DecidableEq F] {c : Int → F} (hc : cH pP c) {p q : Option (F × F)} (hp : onC (c 7) p) (hq : onC (c 7) q) : onC (c 7) (ea p q) := ea_on (k_2 hc) hp hq
/-- a point n times -/
def sm {F : Type} [Lean.Grind.Field F] [DecidableEq F] (p : Option (F × F)) : Nat → Option (F × F)
  | 0 => none
  | n + 1 => ea (sm p n) p
set_option maxHeartbeats 200000 in
theorem sm_on {F : Type} [Lean.Grind.Field F] [DecidableEq F] {c : Int → F} (hc : cH pP c) {p : Option (F × F)} (hp : onC (c 7) p) : ∀ n, onC (c 7) (sm p n)
  | 0 => trivial
  | n + 1 => g_on hc (sm_on hc hp n) hp
set_option maxHeartbeats 200000 in
theorem sm_add {F : Type} [Lean.Grind.Field F] [DecidableEq F] {c : Int → F} (hc : cH pP c) {p : Option (F × F)} (hp : onC (c 7) p) (a : Nat) : ∀ b, sm p (a + b) = ea (sm p a) (sm p b)
  | 0 => (ea_0n _).symm
  | b + 1 => by
    show ea (sm p (a + b)) p = ea (sm p a) (ea (sm p b) p)
    rw [sm_add hc hp a b, g_as hc (sm_on hc hp a) (sm_on hc hp b) hp]
set_option maxHeartbeats 200000 in
theorem sm_1 {F : Type} [Lean.Grind.Field F] [DecidableEq F] (p : Option (F × F)) : sm p 1 = p := ea_n0 p
set_option maxHeartbeats 200000 in
theorem sm_2 {F : Type} [Lean.Grind.Field F] [DecidableEq F] {c : Int → F} (hc : cH pP c) {p : Option (F × F)} (hp : onC (c 7) p) (a : Nat) : sm p (2 * a) = ea (sm p a) (sm p a) := by
  rw [← sm_add hc hp]
  congr 1
  omega
