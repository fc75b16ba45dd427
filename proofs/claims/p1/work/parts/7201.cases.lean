def lq_E0 (fu L : Nat) (xs : Nat → Int32) (f51 : Nat → Int32) : Option Int32 :=
  gd (inb (1 : Int32) L) <| bnd (xs (1 : Int32).toNatClampNeg) fun v70 => gd (inb (2 : Int32) L) <| bnd (xs (2 : Int32).toNatClampNeg) fun v71 => gd (inb (3 : Int32) L) <| bnd (xs (3 : Int32).toNatClampNeg) fun v72 => gd (inb (4 : Int32) L) <| bnd (xs (4 : Int32).toNatClampNeg) fun v73 => gd (inb (5 : Int32) L) <| bnd (xs (5 : Int32).toNatClampNeg) fun v74 => bd4 (x_L_feed_l61 fu (0 : Int32) (0 : Int32) v70 v71 v72 v73 v74 (0 : Int32) (fun _ => 0) (fun _ => 0)) fun v75 e76 f77 f78 => gd (inb (1 : Int32) L) <| bnd (xs (1 : Int32).toNatClampNeg) fun v79 => gd (inb (2 : Int32) L) <| bnd (xs (2 : Int32).toNatClampNeg) fun v80 => gd (inb (3 : Int32) L) <| bnd (xs (3 : Int32).toNatClampNeg) fun v81 => gd (inb (4 : Int32) L) <| bnd (xs (4 : Int32).toNatClampNeg) fun v82 => gd (inb (5 : Int32) L) <| bnd (xs (5 : Int32).toNatClampNeg) fun v83 => bd3 (x_M_feed fu v79 v80 v81 v82 v83 f51 (fun _ => 0)) fun v84 f85 f86 => bd1 (x_M_thrown fu f85) fun v87 => if v87 = v75 then (if v75 = 0 then (bnd (f78 (0 : Int32).toNatClampNeg) fun v89 => if (lg_cmp v89 v84.toInt64) = 0 then (bnd (Int32.ofNat L) fun v90 => if (v90 - (6 : Int32)) < (6 : Int32) then (some 1) else (none)) else (some 0)) else (bnd (Int32.ofNat L) fun v88 => if (v88 - (6 : Int32)) < (6 : Int32) then (some 1) else (none))) else (some 0)
def lq_E1 (fu L : Nat) (xs : Nat → Int32) (f51 : Nat → Int32) : Option Int32 :=
  gd (inb (1 : Int32) L) <| bnd (xs (1 : Int32).toNatClampNeg) fun v91 => bd3 (x_L_end_l21 fu (0 : Int32) (0 : Int32) v91 (0 : Int32) (fun _ => 0)) fun v92 e93 f94 => gd (inb (1 : Int32) L) <| bnd (xs (1 : Int32).toNatClampNeg) fun v95 => bd2 (x_M_end fu v95 f51) fun v96 f97 => bd1 (x_M_thrown fu f97) fun v98 => if v98 = v92 then (if v92 = 0 then (bnd (f94 (0 : Int32).toNatClampNeg) fun v100 => if (lg_cmp v100 v96.toInt64) = 0 then (bnd (Int32.ofNat L) fun v101 => if (v101 - (6 : Int32)) < (6 : Int32) then (some 1) else (none)) else (some 0)) else (bnd (Int32.ofNat L) fun v99 => if (v99 - (6 : Int32)) < (6 : Int32) then (some 1) else (none))) else (some 0)
def lq_E2 (fu L : Nat) (xs : Nat → Int32) (e44 : Int32) (e45 : Int32) (f51 : Nat → Int32) : Option Int32 :=
  bd8 (x_L_submit_l11 fu (0 : Int32) (0 : Int32) (fun _ => 0) e44 e45 (0 : Int32) (0 : Int32) (0 : Int32) (0 : Int32) (0 : Int32) (0 : Int32) (fun _ => 0)) fun v102 e103 e104 e105 e106 e107 e108 f109 => bd3 (x_M_submit fu (fun _ => 0) f51 (fun _ => 0)) fun v110 f111 f112 => bd1 (x_M_thrown fu f111) fun v113 => if v113 = v102 then (if v102 = 0 then (bnd (f109 (0 : Int32).toNatClampNeg) fun v115 => if (lg_cmp v115 v110.toInt64) = 0 then (bnd (Int32.ofNat L) fun v116 => if (v116 - (6 : Int32)) < (6 : Int32) then (some 1) else (none)) else (some 0)) else (bnd (Int32.ofNat L) fun v114 => if (v114 - (6 : Int32)) < (6 : Int32) then (some 1) else (none))) else (some 0)
def lq_E3 (fu L : Nat) (xs : Nat → Int32) (f41 : Nat → Int32) (f51 : Nat → Int32) : Option Int32 :=
  gd (inb (1 : Int32) L) <| bnd (xs (1 : Int32).toNatClampNeg) fun v117 => bd14 (x_L_script_l21 fu (0 : Int32) (0 : Int32) (fun _ => 0) (fun _ => 0) v117 (0 : Int32) (0 : Int32) (0 : Int32) (0 : Int32) (0 : Int32) (0 : Int32) (0 : Int32) (0 : Int32) (0 : Int32) (0 : Int32) f41 (fun _ => 0) (fun _ => 0)) fun v118 e119 e120 e121 e122 e123 e124 e125 e126 e127 e128 f129 f130 f131 => gd (inb (1 : Int32) L) <| bnd (xs (1 : Int32).toNatClampNeg) fun v132 => bd2 (x_M_script fu (fun _ => 0) v132 f51) fun v133 f134 => bd1 (x_M_thrown fu f134) fun v135 => if v135 = v118 then (if v118 = 0 then (bnd (f131 (0 : Int32).toNatClampNeg) fun v137 => if v133 = 0 then (if (lg_cmp v137 (0 : Int64)) = 0 then (bnd (Int32.ofNat L) fun v138 => if (v138 - (6 : Int32)) < (6 : Int32) then (some 1) else (none)) else (some 0)) else (if (lg_cmp v137 (1 : Int64)) = 0 then (bnd (Int32.ofNat L) fun v139 => if (v139 - (6 : Int32)) < (6 : Int32) then (some 1) else (none)) else (some 0))) else (bnd (Int32.ofNat L) fun v136 => if (v136 - (6 : Int32)) < (6 : Int32) then (some 1) else (none))) else (some 0)
def lq_E4 (fu L : Nat) (xs : Nat → Int32) (f51 : Nat → Int32) : Option Int32 :=
  gd (inb (1 : Int32) L) <| bnd (xs (1 : Int32).toNatClampNeg) fun v140 => bd8 (x_L_hash_l21 fu (0 : Int32) (0 : Int32) (0 : Int32) (fun _ => 0) v140 (fun _ => 0) (0 : Int32) (0 : Int64) (fun _ => 0) (fun _ => 0) (fun _ => 0) (fun _ => 0)) fun v141 f142 e143 e144 f145 f146 f147 f148 => gd (inb (1 : Int32) L) <| bnd (xs (1 : Int32).toNatClampNeg) fun v149 => bd6 (x_M_hash fu (fun _ => 0) v149 f51 (fun _ => 0) (fun _ => 0) (fun _ => 0) (fun _ => 0)) fun v150 f151 f152 f153 f154 f155 => bd1 (x_M_thrown fu f151) fun v156 => if v156 = v141 then (if v141 = 0 then (bnd (f148 (0 : Int32).toNatClampNeg) fun v158 => if (lg_cmp v158 v150.toInt64) = 0 then (bnd (Int32.ofNat L) fun v159 => if (v159 - (6 : Int32)) < (6 : Int32) then (some 1) else (none)) else (some 0)) else (bnd (Int32.ofNat L) fun v157 => if (v157 - (6 : Int32)) < (6 : Int32) then (some 1) else (none))) else (some 0)
def lq_E5 (fu L : Nat) (xs : Nat → Int32) (e46 : Int32) (e47 : Int64) (e48 : Int32) (e49 : Int64) (f53 : Nat → Int32) (f54 : Nat → Int32) (f51 : Nat → Int32) : Option Int32 :=
  gd (inb (1 : Int32) L) <| bnd (xs (1 : Int32).toNatClampNeg) fun v160 => bd2 (x_L_tip_l21 fu (0 : Int32) (0 : Int32) (0 : Int32) e46 e47 e48 e49 (0 : Int32) (0 : Int32) (0 : Int32) (fun _ => 0) v160 (fun _ => 0)) fun v161 f162 => gd (inb (1 : Int32) L) <| bnd (xs (1 : Int32).toNatClampNeg) fun v163 => bd2 (x_M_tip fu (fun _ => 0) f53 f54 (fun _ => 0) v163 f51) fun v164 f165 => bd1 (x_M_thrown fu f165) fun v166 => if v166 = v161 then (if v161 = 0 then (bnd (f162 (0 : Int32).toNatClampNeg) fun v168 => if (lg_cmp v168 v164.toInt64) = 0 then (bnd (Int32.ofNat L) fun v169 => if (v169 - (6 : Int32)) < (6 : Int32) then (some 1) else (none)) else (some 0)) else (bnd (Int32.ofNat L) fun v167 => if (v167 - (6 : Int32)) < (6 : Int32) then (some 1) else (none))) else (some 0)
def lq_E6 (fu L : Nat) (xs : Nat → Int32) (f51 : Nat → Int32) : Option Int32 :=
  gd (inb (1 : Int32) L) <| bnd (xs (1 : Int32).toNatClampNeg) fun v170 => bd1 (x_L_unspent_l21 fu (0 : Int32) (0 : Int32) (0 : Int32) (fun _ => 0) v170) fun v171 => gd (inb (1 : Int32) L) <| bnd (xs (1 : Int32).toNatClampNeg) fun v172 => bd2 (x_M_unspent fu v172 f51) fun v173 f174 => bd1 (x_M_thrown fu f174) fun v175 => if v175 = v171 then (if v171 = 0 then (bnd ((fun _ => 0) (0 : Int32).toNatClampNeg) fun v177 => if (lg_cmp v177 v173) = 0 then (bnd (Int32.ofNat L) fun v178 => if (v178 - (6 : Int32)) < (6 : Int32) then (some 1) else (none)) else (some 0)) else (bnd (Int32.ofNat L) fun v176 => if (v176 - (6 : Int32)) < (6 : Int32) then (some 1) else (none))) else (some 0)
def lq_E7 (fu L : Nat) (xs : Nat → Int32) (e42 : Int32) (e44 : Int32) (e45 : Int32) (e46 : Int32) (e47 : Int64) (e48 : Int32) (e49 : Int64) (f55 : Nat → Int32) (f57 : Nat → Int32) (f51 : Nat → Int32) : Option Int32 :=
  gd (inb (1 : Int32) L) <| bnd (xs (1 : Int32).toNatClampNeg) fun v179 => bd2 (x_L_count_l21 fu (0 : Int32) (0 : Int32) (0 : Int32) (0 : Int32) e42 e44 e45 e46 e47 e48 e49 (0 : Int32) (0 : Int32) (0 : Int32) v179 (fun _ => 0)) fun v180 f181 => gd (inb (1 : Int32) L) <| bnd (xs (1 : Int32).toNatClampNeg) fun v182 => bd2 (x_M_count2 fu f55 (fun _ => 0) (fun _ => 0) (fun _ => 0) f57 v182 f51) fun v183 f184 => bd1 (x_M_thrown fu f184) fun v185 => if v185 = v180 then (if v180 = 0 then (bnd (f181 (0 : Int32).toNatClampNeg) fun v187 => if (lg_cmp v187 v183) = 0 then (bnd (Int32.ofNat L) fun v188 => if (v188 - (6 : Int32)) < (6 : Int32) then (some 1) else (none)) else (some 0)) else (bnd (Int32.ofNat L) fun v186 => if (v186 - (6 : Int32)) < (6 : Int32) then (some 1) else (none))) else (some 0)
def lq_E8 (fu L : Nat) (xs : Nat → Int32) (e42 : Int32) (f57 : Nat → Int32) (f51 : Nat → Int32) : Option Int32 :=
  bd1 (x_K_digest fu (0 : Int32) (0 : Int32) (0 : Int32) (0 : Int32) e42) fun v189 => bd2 (x_M_digest fu (fun _ => 0) (fun _ => 0) (fun _ => 0) (fun _ => 0) (fun _ => 0) f57 f51) fun v190 f191 => if (lg_cmp v189 v190) = 0 then (bnd (Int32.ofNat L) fun v192 => if (v192 - (6 : Int32)) < (6 : Int32) then (some 1) else (none)) else (some 0)
def lq_E9 (fu L : Nat) (xs : Nat → Int32) (f51 : Nat → Int32) : Option Int32 :=
  gd (inb (1 : Int32) L) <| bnd (xs (1 : Int32).toNatClampNeg) fun v193 => bd1 (x_L_signed_l21 fu (0 : Int32) (0 : Int32) (0 : Int32) (fun _ => 0) v193) fun v194 => gd (inb (1 : Int32) L) <| bnd (xs (1 : Int32).toNatClampNeg) fun v195 => bd3 (x_M_signed fu (fun _ => 0) v195 f51 (fun _ => 0)) fun v196 f197 f198 => bd1 (x_M_thrown fu f197) fun v199 => if v199 = v194 then (if v194 = 0 then (bnd ((fun _ => 0) (0 : Int32).toNatClampNeg) fun v201 => if v196 = 0 then (if (lg_cmp v201 (0 : Int64)) = 0 then (bnd (Int32.ofNat L) fun v202 => if (v202 - (6 : Int32)) < (6 : Int32) then (some 1) else (none)) else (some 0)) else (if (lg_cmp v201 (1 : Int64)) = 0 then (bnd (Int32.ofNat L) fun v203 => if (v203 - (6 : Int32)) < (6 : Int32) then (some 1) else (none)) else (some 0))) else (bnd (Int32.ofNat L) fun v200 => if (v200 - (6 : Int32)) < (6 : Int32) then (some 1) else (none))) else (some 0)
theorem lq_d1 {α1 β : Type} {x : Option (α1)} {r : α1} {k : α1 → Option β} (h : x = some r) : bd1 x k = k r := by rw [h]; rfl
theorem lq_d2 {α1 α2 β : Type} {x : Option (α1 × α2)} {r : α1 × α2} {k : α1 → α2 → Option β} (h : x = some r) : bd2 x k = k r.1 r.2 := by rw [h]; rfl
theorem lq_d3 {α1 α2 α3 β : Type} {x : Option (α1 × α2 × α3)} {r : α1 × α2 × α3} {k : α1 → α2 → α3 → Option β} (h : x = some r) : bd3 x k = k r.1 r.2.1 r.2.2 := by rw [h]; rfl
theorem lq_d4 {α1 α2 α3 α4 β : Type} {x : Option (α1 × α2 × α3 × α4)} {r : α1 × α2 × α3 × α4} {k : α1 → α2 → α3 → α4 → Option β} (h : x = some r) : bd4 x k = k r.1 r.2.1 r.2.2.1 r.2.2.2 := by rw [h]; rfl
theorem lq_d6 {α1 α2 α3 α4 α5 α6 β : Type} {x : Option (α1 × α2 × α3 × α4 × α5 × α6)} {r : α1 × α2 × α3 × α4 × α5 × α6} {k : α1 → α2 → α3 → α4 → α5 → α6 → Option β} (h : x = some r) : bd6 x k = k r.1 r.2.1 r.2.2.1 r.2.2.2.1 r.2.2.2.2.1 r.2.2.2.2.2 := by rw [h]; rfl
theorem lq_d8 {α1 α2 α3 α4 α5 α6 α7 α8 β : Type} {x : Option (α1 × α2 × α3 × α4 × α5 × α6 × α7 × α8)} {r : α1 × α2 × α3 × α4 × α5 × α6 × α7 × α8} {k : α1 → α2 → α3 → α4 → α5 → α6 → α7 → α8 → Option β} (h : x = some r) : bd8 x k = k r.1 r.2.1 r.2.2.1 r.2.2.2.1 r.2.2.2.2.1 r.2.2.2.2.2.1 r.2.2.2.2.2.2.1 r.2.2.2.2.2.2.2 := by rw [h]; rfl
theorem lq_d14 {α1 α2 α3 α4 α5 α6 α7 α8 α9 α10 α11 α12 α13 α14 β : Type} {x : Option (α1 × α2 × α3 × α4 × α5 × α6 × α7 × α8 × α9 × α10 × α11 × α12 × α13 × α14)} {r : α1 × α2 × α3 × α4 × α5 × α6 × α7 × α8 × α9 × α10 × α11 × α12 × α13 × α14} {k : α1 → α2 → α3 → α4 → α5 → α6 → α7 → α8 → α9 → α10 → α11 → α12 → α13 → α14 → Option β} (h : x = some r) : bd14 x k = k r.1 r.2.1 r.2.2.1 r.2.2.2.1 r.2.2.2.2.1 r.2.2.2.2.2.1 r.2.2.2.2.2.2.1 r.2.2.2.2.2.2.2.1 r.2.2.2.2.2.2.2.2.1 r.2.2.2.2.2.2.2.2.2.1 r.2.2.2.2.2.2.2.2.2.2.1 r.2.2.2.2.2.2.2.2.2.2.2.1 r.2.2.2.2.2.2.2.2.2.2.2.2.1 r.2.2.2.2.2.2.2.2.2.2.2.2.2 := by rw [h]; rfl
theorem lq_d15 {α1 α2 α3 α4 α5 α6 α7 α8 α9 α10 α11 α12 α13 α14 α15 β : Type} {x : Option (α1 × α2 × α3 × α4 × α5 × α6 × α7 × α8 × α9 × α10 × α11 × α12 × α13 × α14 × α15)} {r : α1 × α2 × α3 × α4 × α5 × α6 × α7 × α8 × α9 × α10 × α11 × α12 × α13 × α14 × α15} {k : α1 → α2 → α3 → α4 → α5 → α6 → α7 → α8 → α9 → α10 → α11 → α12 → α13 → α14 → α15 → Option β} (h : x = some r) : bd15 x k = k r.1 r.2.1 r.2.2.1 r.2.2.2.1 r.2.2.2.2.1 r.2.2.2.2.2.1 r.2.2.2.2.2.2.1 r.2.2.2.2.2.2.2.1 r.2.2.2.2.2.2.2.2.1 r.2.2.2.2.2.2.2.2.2.1 r.2.2.2.2.2.2.2.2.2.2.1 r.2.2.2.2.2.2.2.2.2.2.2.1 r.2.2.2.2.2.2.2.2.2.2.2.2.1 r.2.2.2.2.2.2.2.2.2.2.2.2.2.1 r.2.2.2.2.2.2.2.2.2.2.2.2.2.2 := by rw [h]; rfl
theorem lq_d49 {α1 α2 α3 α4 α5 α6 α7 α8 α9 α10 α11 α12 α13 α14 α15 α16 α17 α18 α19 α20 α21 α22 α23 α24 α25 α26 α27 α28 α29 α30 α31 α32 α33 α34 α35 α36 α37 α38 α39 α40 α41 α42 α43 α44 α45 α46 α47 α48 α49 β : Type} {x : Option (α1 × α2 × α3 × α4 × α5 × α6 × α7 × α8 × α9 × α10 × α11 × α12 × α13 × α14 × α15 × α16 × α17 × α18 × α19 × α20 × α21 × α22 × α23 × α24 × α25 × α26 × α27 × α28 × α29 × α30 × α31 × α32 × α33 × α34 × α35 × α36 × α37 × α38 × α39 × α40 × α41 × α42 × α43 × α44 × α45 × α46 × α47 × α48 × α49)} {r : α1 × α2 × α3 × α4 × α5 × α6 × α7 × α8 × α9 × α10 × α11 × α12 × α13 × α14 × α15 × α16 × α17 × α18 × α19 × α20 × α21 × α22 × α23 × α24 × α25 × α26 × α27 × α28 × α29 × α30 × α31 × α32 × α33 × α34 × α35 × α36 × α37 × α38 × α39 × α40 × α41 × α42 × α43 × α44 × α45 × α46 × α47 × α48 × α49} {k : α1 → α2 → α3 → α4 → α5 → α6 → α7 → α8 → α9 → α10 → α11 → α12 → α13 → α14 → α15 → α16 → α17 → α18 → α19 → α20 → α21 → α22 → α23 → α24 → α25 → α26 → α27 → α28 → α29 → α30 → α31 → α32 → α33 → α34 → α35 → α36 → α37 → α38 → α39 → α40 → α41 → α42 → α43 → α44 → α45 → α46 → α47 → α48 → α49 → Option β} (h : x = some r) : bd49 x k = k r.1 r.2.1 r.2.2.1 r.2.2.2.1 r.2.2.2.2.1 r.2.2.2.2.2.1 r.2.2.2.2.2.2.1 r.2.2.2.2.2.2.2.1 r.2.2.2.2.2.2.2.2.1 r.2.2.2.2.2.2.2.2.2.1 r.2.2.2.2.2.2.2.2.2.2.1 r.2.2.2.2.2.2.2.2.2.2.2.1 r.2.2.2.2.2.2.2.2.2.2.2.2.1 r.2.2.2.2.2.2.2.2.2.2.2.2.2.1 r.2.2.2.2.2.2.2.2.2.2.2.2.2.2.1 r.2.2.2.2.2.2.2.2.2.2.2.2.2.2.2.1 r.2.2.2.2.2.2.2.2.2.2.2.2.2.2.2.2.1 r.2.2.2.2.2.2.2.2.2.2.2.2.2.2.2.2.2.1 r.2.2.2.2.2.2.2.2.2.2.2.2.2.2.2.2.2.2.1 r.2.2.2.2.2.2.2.2.2.2.2.2.2.2.2.2.2.2.2.1 r.2.2.2.2.2.2.2.2.2.2.2.2.2.2.2.2.2.2.2.2.1 r.2.2.2.2.2.2.2.2.2.2.2.2.2.2.2.2.2.2.2.2.2.1 r.2.2.2.2.2.2.2.2.2.2.2.2.2.2.2.2.2.2.2.2.2.2.1 r.2.2.2.2.2.2.2.2.2.2.2.2.2.2.2.2.2.2.2.2.2.2.2.1 r.2.2.2.2.2.2.2.2.2.2.2.2.2.2.2.2.2.2.2.2.2.2.2.2.1 r.2.2.2.2.2.2.2.2.2.2.2.2.2.2.2.2.2.2.2.2.2.2.2.2.2.1 r.2.2.2.2.2.2.2.2.2.2.2.2.2.2.2.2.2.2.2.2.2.2.2.2.2.2.1 r.2.2.2.2.2.2.2.2.2.2.2.2.2.2.2.2.2.2.2.2.2.2.2.2.2.2.2.1 r.2.2.2.2.2.2.2.2.2.2.2.2.2.2.2.2.2.2.2.2.2.2.2.2.2.2.2.2.1 r.2.2.2.2.2.2.2.2.2.2.2.2.2.2.2.2.2.2.2.2.2.2.2.2.2.2.2.2.2.1 r.2.2.2.2.2.2.2.2.2.2.2.2.2.2.2.2.2.2.2.2.2.2.2.2.2.2.2.2.2.2.1 r.2.2.2.2.2.2.2.2.2.2.2.2.2.2.2.2.2.2.2.2.2.2.2.2.2.2.2.2.2.2.2.1 r.2.2.2.2.2.2.2.2.2.2.2.2.2.2.2.2.2.2.2.2.2.2.2.2.2.2.2.2.2.2.2.2.1 r.2.2.2.2.2.2.2.2.2.2.2.2.2.2.2.2.2.2.2.2.2.2.2.2.2.2.2.2.2.2.2.2.2.1 r.2.2.2.2.2.2.2.2.2.2.2.2.2.2.2.2.2.2.2.2.2.2.2.2.2.2.2.2.2.2.2.2.2.2.1 r.2.2.2.2.2.2.2.2.2.2.2.2.2.2.2.2.2.2.2.2.2.2.2.2.2.2.2.2.2.2.2.2.2.2.2.1 r.2.2.2.2.2.2.2.2.2.2.2.2.2.2.2.2.2.2.2.2.2.2.2.2.2.2.2.2.2.2.2.2.2.2.2.2.1 r.2.2.2.2.2.2.2.2.2.2.2.2.2.2.2.2.2.2.2.2.2.2.2.2.2.2.2.2.2.2.2.2.2.2.2.2.2.1 r.2.2.2.2.2.2.2.2.2.2.2.2.2.2.2.2.2.2.2.2.2.2.2.2.2.2.2.2.2.2.2.2.2.2.2.2.2.2.1 r.2.2.2.2.2.2.2.2.2.2.2.2.2.2.2.2.2.2.2.2.2.2.2.2.2.2.2.2.2.2.2.2.2.2.2.2.2.2.2.1 r.2.2.2.2.2.2.2.2.2.2.2.2.2.2.2.2.2.2.2.2.2.2.2.2.2.2.2.2.2.2.2.2.2.2.2.2.2.2.2.2.1 r.2.2.2.2.2.2.2.2.2.2.2.2.2.2.2.2.2.2.2.2.2.2.2.2.2.2.2.2.2.2.2.2.2.2.2.2.2.2.2.2.2.1 r.2.2.2.2.2.2.2.2.2.2.2.2.2.2.2.2.2.2.2.2.2.2.2.2.2.2.2.2.2.2.2.2.2.2.2.2.2.2.2.2.2.2.1 r.2.2.2.2.2.2.2.2.2.2.2.2.2.2.2.2.2.2.2.2.2.2.2.2.2.2.2.2.2.2.2.2.2.2.2.2.2.2.2.2.2.2.2.1 r.2.2.2.2.2.2.2.2.2.2.2.2.2.2.2.2.2.2.2.2.2.2.2.2.2.2.2.2.2.2.2.2.2.2.2.2.2.2.2.2.2.2.2.2.1 r.2.2.2.2.2.2.2.2.2.2.2.2.2.2.2.2.2.2.2.2.2.2.2.2.2.2.2.2.2.2.2.2.2.2.2.2.2.2.2.2.2.2.2.2.2.1 r.2.2.2.2.2.2.2.2.2.2.2.2.2.2.2.2.2.2.2.2.2.2.2.2.2.2.2.2.2.2.2.2.2.2.2.2.2.2.2.2.2.2.2.2.2.2.1 r.2.2.2.2.2.2.2.2.2.2.2.2.2.2.2.2.2.2.2.2.2.2.2.2.2.2.2.2.2.2.2.2.2.2.2.2.2.2.2.2.2.2.2.2.2.2.2.1 r.2.2.2.2.2.2.2.2.2.2.2.2.2.2.2.2.2.2.2.2.2.2.2.2.2.2.2.2.2.2.2.2.2.2.2.2.2.2.2.2.2.2.2.2.2.2.2.2 := by rw [h]; rfl
theorem lq_gt {β : Type} {b : Bool} {x : Option β} (h : b = true) : gd b x = x := if_pos h
theorem lq_thr (fu : Nat) (z : Nat → Int32) : x_M_thrown fu z = some (z 2) := rfl
theorem lq_ort {β : Type} {t : Option Unit} {a b : Option β} (h : t = some ()) : ort t a b = a := by rw [h]; rfl
theorem lq_lit {v : Int32} {k : Nat} (h0 : ¬ v < 0) (h1 : v ≤ nI k) (hk : k < 2 ^ 31) : ∃ n, n < k + 1 ∧ v = nI n := by
  have a0 : 0 ≤ v.toInt := Int.not_lt.mp (fun q => h0 (Int32.lt_iff_toInt_lt.mpr q))
  have a1 : v.toInt ≤ (nI k).toInt := Int32.le_iff_toInt_le.mp h1
  rw [nI_toInt hk] at a1
  refine ⟨v.toInt.toNat, by omega, ?_⟩
  apply Int32.toInt_inj.mp
  rw [nI_toInt (by omega)]
  omega
def lq_k0 := x_K_init 33000 0 0 0
theorem lq_kS : lq_k0.isSome = true := by decide +kernel
def lq_k := lq_k0.get lq_kS
theorem lq_k1 : x_K_init 33000 0 0 0 = some lq_k := (Option.some_get lq_kS).symm
def lq_dat : Nat → Int32 := lq_k.2.2.2.2.2.2.2.2.2.2.2.2.2.2.2.2.2.2.2.2.2.2.2.2.2.2.2.2.2.2.2.2.2.2.2.2.2.2.2.2.1
theorem lq_e42 : lq_k.2.2.2.2.2.2.2.2.2.2.2.2.2.2.2.2.2.2.2.2.2.2.2.2.2.2.2.2.2.2.2.2.2.2.2.2.2.2.2.2.2.1 = 0 := by decide +kernel
theorem lq_e43 : lq_k.2.2.2.2.2.2.2.2.2.2.2.2.2.2.2.2.2.2.2.2.2.2.2.2.2.2.2.2.2.2.2.2.2.2.2.2.2.2.2.2.2.2.1 = 0 := by decide +kernel
theorem lq_e44 : lq_k.2.2.2.2.2.2.2.2.2.2.2.2.2.2.2.2.2.2.2.2.2.2.2.2.2.2.2.2.2.2.2.2.2.2.2.2.2.2.2.2.2.2.2.1 = 1 := by decide +kernel
theorem lq_e45 : lq_k.2.2.2.2.2.2.2.2.2.2.2.2.2.2.2.2.2.2.2.2.2.2.2.2.2.2.2.2.2.2.2.2.2.2.2.2.2.2.2.2.2.2.2.2.1 = 1 := by decide +kernel
theorem lq_e46 : lq_k.2.2.2.2.2.2.2.2.2.2.2.2.2.2.2.2.2.2.2.2.2.2.2.2.2.2.2.2.2.2.2.2.2.2.2.2.2.2.2.2.2.2.2.2.2.1 = 0 := by decide +kernel
theorem lq_e47 : lq_k.2.2.2.2.2.2.2.2.2.2.2.2.2.2.2.2.2.2.2.2.2.2.2.2.2.2.2.2.2.2.2.2.2.2.2.2.2.2.2.2.2.2.2.2.2.2.1 = 1000000 := by decide +kernel
theorem lq_e48 : lq_k.2.2.2.2.2.2.2.2.2.2.2.2.2.2.2.2.2.2.2.2.2.2.2.2.2.2.2.2.2.2.2.2.2.2.2.2.2.2.2.2.2.2.2.2.2.2.2.1 = 545259519 := by decide +kernel
theorem lq_e49 : lq_k.2.2.2.2.2.2.2.2.2.2.2.2.2.2.2.2.2.2.2.2.2.2.2.2.2.2.2.2.2.2.2.2.2.2.2.2.2.2.2.2.2.2.2.2.2.2.2.2 = 2 := by decide +kernel
theorem lq_E2_v : lq_E2 33000 6 (fun _ => 0) 1 1 lq_z = some 1 := by decide +kernel
theorem lq_E2_ok (xs : Nat → Int32) : lq_E2 33000 6 xs 1 1 lq_z = some 1 := lq_E2_v
theorem lq_E8_v : lq_E8 33000 6 (fun _ => 0) 0 lq_c.2 lq_z = some 1 := by decide +kernel
theorem lq_E8_ok (xs : Nat → Int32) : lq_E8 33000 6 xs 0 lq_c.2 lq_z = some 1 := lq_E8_v
theorem lq_E1_v : ∀ n, n < 1 → lq_E1 33000 6 (fun _ => nI n) lq_z = some 1 := by decide +kernel
theorem lq_E3_v : ∀ n, n < 1 → lq_E3 33000 6 (fun _ => nI n) lq_dat lq_z = some 1 := by decide +kernel
theorem lq_E4_v : ∀ n, n < 8 → lq_E4 33000 6 (fun _ => nI n) lq_z = some 1 := by decide +kernel
theorem lq_E5_v : ∀ n, n < 12 → lq_E5 33000 6 (fun _ => nI n) 0 1000000 545259519 2 lq_ti lq_bi lq_z = some 1 := by decide +kernel
theorem lq_E7_v : ∀ n, n < 6 → lq_E7 33000 6 (fun _ => nI n) 0 1 1 0 1000000 545259519 2 lq_w.1 lq_c.2 lq_z = some 1 := by decide +kernel
theorem lq_E9_v : ∀ n, n < 101 → lq_E9 33000 6 (fun _ => nI n) lq_z = some 1 := by decide +kernel
theorem lq_E1_ta (v : Int32) (h : v < 0) : lq_E1 33000 6 (fun _ => v) lq_z = some 1 := by
  have hl : (x_L_end_l21 33000 (0 : Int32) (0 : Int32) v (0 : Int32) (fun _ => 0)).map (fun r => r.1) = some 1 := by
    unfold x_L_end_l21
    rw [lq_ort (by unfold xt_K_end_A; rw [if_pos h])]
    rfl
  have hm : (x_M_end 33000 v lq_z).map (fun r => r.2 2) = some 1 := by
    unfold x_M_end
    rw [if_pos h]
    unfold xb_M_end_13 xb_M_end_18
    rw [lq_bnd, if_neg (by decide)]
    rfl
  obtain ⟨r, h1, h2⟩ := Option.map_eq_some_iff.mp hl
  obtain ⟨q, h3, h4⟩ := Option.map_eq_some_iff.mp hm
  unfold lq_E1
  rw [lq_gt (by decide), lq_bnd, lq_d3 h1, lq_gt (by decide), lq_bnd, lq_d2 h3, lq_d1 (lq_thr _ _), h4, h2, if_pos rfl, if_neg (by decide), lq_bnd, if_pos (by decide)]
theorem lq_E1_tb (v : Int32) (h0 : ¬ v < 0) (h : ¬ v ≤ 0) : lq_E1 33000 6 (fun _ => v) lq_z = some 1 := by
  have hl : (x_L_end_l21 33000 (0 : Int32) (0 : Int32) v (0 : Int32) (fun _ => 0)).map (fun r => r.1) = some 1 := by
    unfold x_L_end_l21
    rw [lq_ort (by unfold xt_K_end_A; rw [if_neg h0, if_neg h])]
    rfl
  have hm : (x_M_end 33000 v lq_z).map (fun r => r.2 2) = some 1 := by
    unfold x_M_end
    rw [if_neg h0, if_neg (show ¬ v ≤ lq_z 0 from h)]
    unfold xb_M_end_13 xb_M_end_18
    rw [lq_bnd, if_neg (by decide)]
    rfl
  obtain ⟨r, h1, h2⟩ := Option.map_eq_some_iff.mp hl
  obtain ⟨q, h3, h4⟩ := Option.map_eq_some_iff.mp hm
  unfold lq_E1
  rw [lq_gt (by decide), lq_bnd, lq_d3 h1, lq_gt (by decide), lq_bnd, lq_d2 h3, lq_d1 (lq_thr _ _), h4, h2, if_pos rfl, if_neg (by decide), lq_bnd, if_pos (by decide)]
theorem lq_E4_ta (v : Int32) (h : v < 0) : lq_E4 33000 6 (fun _ => v) lq_z = some 1 := by
  have hl : (x_L_hash_l21 33000 (0 : Int32) (0 : Int32) (0 : Int32) (fun _ => 0) v (fun _ => 0) (0 : Int32) (0 : Int64) (fun _ => 0) (fun _ => 0) (fun _ => 0) (fun _ => 0)).map (fun r => r.1) = some 1 := by
    unfold x_L_hash_l21
    rw [lq_ort (by unfold xt_K_hash_A; rw [if_pos h])]
    rfl
  have hm : (x_M_hash 33000 (fun _ => 0) v lq_z (fun _ => 0) (fun _ => 0) (fun _ => 0) (fun _ => 0)).map (fun r => r.2.1 2) = some 1 := by
    unfold x_M_hash
    rw [if_pos h]
    unfold xb_M_hash_11 xb_M_hash_16
    rw [lq_bnd, if_neg (by decide)]
    rfl
  obtain ⟨r, h1, h2⟩ := Option.map_eq_some_iff.mp hl
  obtain ⟨q, h3, h4⟩ := Option.map_eq_some_iff.mp hm
  unfold lq_E4
  rw [lq_gt (by decide), lq_bnd, lq_d8 h1, lq_gt (by decide), lq_bnd, lq_d6 h3, lq_d1 (lq_thr _ _), h4, h2, if_pos rfl, if_neg (by decide), lq_bnd, if_pos (by decide)]
theorem lq_E4_tb (v : Int32) (h0 : ¬ v < 0) (h : ¬ v ≤ 7) : lq_E4 33000 6 (fun _ => v) lq_z = some 1 := by
  have hl : (x_L_hash_l21 33000 (0 : Int32) (0 : Int32) (0 : Int32) (fun _ => 0) v (fun _ => 0) (0 : Int32) (0 : Int64) (fun _ => 0) (fun _ => 0) (fun _ => 0) (fun _ => 0)).map (fun r => r.1) = some 1 := by
    unfold x_L_hash_l21
    rw [lq_ort (by unfold xt_K_hash_A; rw [if_neg h0, if_neg h])]
    rfl
  have hm : (x_M_hash 33000 (fun _ => 0) v lq_z (fun _ => 0) (fun _ => 0) (fun _ => 0) (fun _ => 0)).map (fun r => r.2.1 2) = some 1 := by
    unfold x_M_hash
    rw [if_neg h0, if_neg (show ¬ v ≤ 7 from h)]
    unfold xb_M_hash_11 xb_M_hash_16
    rw [lq_bnd, if_neg (by decide)]
    rfl
  obtain ⟨r, h1, h2⟩ := Option.map_eq_some_iff.mp hl
  obtain ⟨q, h3, h4⟩ := Option.map_eq_some_iff.mp hm
  unfold lq_E4
  rw [lq_gt (by decide), lq_bnd, lq_d8 h1, lq_gt (by decide), lq_bnd, lq_d6 h3, lq_d1 (lq_thr _ _), h4, h2, if_pos rfl, if_neg (by decide), lq_bnd, if_pos (by decide)]
theorem lq_E5_ta (v : Int32) (h : v < 0) : lq_E5 33000 6 (fun _ => v) 0 1000000 545259519 2 lq_ti lq_bi lq_z = some 1 := by
  have hl : (x_L_tip_l21 33000 (0 : Int32) (0 : Int32) (0 : Int32) 0 1000000 545259519 2 (0 : Int32) (0 : Int32) (0 : Int32) (fun _ => 0) v (fun _ => 0)).map (fun r => r.1) = some 1 := by
    unfold x_L_tip_l21
    rw [lq_ort (by unfold xt_K_tip_A; rw [if_pos h])]
    rfl
  have hm : (x_M_tip 33000 (fun _ => 0) lq_ti lq_bi (fun _ => 0) v lq_z).map (fun r => r.2 2) = some 1 := by
    unfold x_M_tip
    rw [if_pos h]
    unfold xb_M_tip_11 xb_M_tip_16
    rw [lq_bnd, if_neg (by decide)]
    rfl
  obtain ⟨r, h1, h2⟩ := Option.map_eq_some_iff.mp hl
  obtain ⟨q, h3, h4⟩ := Option.map_eq_some_iff.mp hm
  unfold lq_E5
  rw [lq_gt (by decide), lq_bnd, lq_d2 h1, lq_gt (by decide), lq_bnd, lq_d2 h3, lq_d1 (lq_thr _ _), h4, h2, if_pos rfl, if_neg (by decide), lq_bnd, if_pos (by decide)]
theorem lq_E5_tb (v : Int32) (h0 : ¬ v < 0) (h : ¬ v ≤ 11) : lq_E5 33000 6 (fun _ => v) 0 1000000 545259519 2 lq_ti lq_bi lq_z = some 1 := by
  have hl : (x_L_tip_l21 33000 (0 : Int32) (0 : Int32) (0 : Int32) 0 1000000 545259519 2 (0 : Int32) (0 : Int32) (0 : Int32) (fun _ => 0) v (fun _ => 0)).map (fun r => r.1) = some 1 := by
    unfold x_L_tip_l21
    rw [lq_ort (by unfold xt_K_tip_A; rw [if_neg h0, if_neg h])]
    rfl
  have hm : (x_M_tip 33000 (fun _ => 0) lq_ti lq_bi (fun _ => 0) v lq_z).map (fun r => r.2 2) = some 1 := by
    unfold x_M_tip
    rw [if_neg h0, if_neg (show ¬ v ≤ 11 from h)]
    unfold xb_M_tip_11 xb_M_tip_16
    rw [lq_bnd, if_neg (by decide)]
    rfl
  obtain ⟨r, h1, h2⟩ := Option.map_eq_some_iff.mp hl
  obtain ⟨q, h3, h4⟩ := Option.map_eq_some_iff.mp hm
  unfold lq_E5
  rw [lq_gt (by decide), lq_bnd, lq_d2 h1, lq_gt (by decide), lq_bnd, lq_d2 h3, lq_d1 (lq_thr _ _), h4, h2, if_pos rfl, if_neg (by decide), lq_bnd, if_pos (by decide)]
theorem lq_E7_ta (v : Int32) (h : v < 0) : lq_E7 33000 6 (fun _ => v) 0 1 1 0 1000000 545259519 2 lq_w.1 lq_c.2 lq_z = some 1 := by
  have hl : (x_L_count_l21 33000 (0 : Int32) (0 : Int32) (0 : Int32) (0 : Int32) 0 1 1 0 1000000 545259519 2 (0 : Int32) (0 : Int32) (0 : Int32) v (fun _ => 0)).map (fun r => r.1) = some 1 := by
    unfold x_L_count_l21
    rw [lq_ort (by unfold xt_K_count_A; rw [if_pos h])]
    rfl
  have hm : (x_M_count2 33000 lq_w.1 (fun _ => 0) (fun _ => 0) (fun _ => 0) lq_c.2 v lq_z).map (fun r => r.2 2) = some 1 := by
    unfold x_M_count2
    rw [if_pos h]
    unfold xb_M_count2_10 xb_M_count2_15
    rw [lq_bnd, if_neg (by decide)]
    rfl
  obtain ⟨r, h1, h2⟩ := Option.map_eq_some_iff.mp hl
  obtain ⟨q, h3, h4⟩ := Option.map_eq_some_iff.mp hm
  unfold lq_E7
  rw [lq_gt (by decide), lq_bnd, lq_d2 h1, lq_gt (by decide), lq_bnd, lq_d2 h3, lq_d1 (lq_thr _ _), h4, h2, if_pos rfl, if_neg (by decide), lq_bnd, if_pos (by decide)]
theorem lq_E7_tb (v : Int32) (h0 : ¬ v < 0) (h : ¬ v ≤ 5) : lq_E7 33000 6 (fun _ => v) 0 1 1 0 1000000 545259519 2 lq_w.1 lq_c.2 lq_z = some 1 := by
  have hl : (x_L_count_l21 33000 (0 : Int32) (0 : Int32) (0 : Int32) (0 : Int32) 0 1 1 0 1000000 545259519 2 (0 : Int32) (0 : Int32) (0 : Int32) v (fun _ => 0)).map (fun r => r.1) = some 1 := by
    unfold x_L_count_l21
    rw [lq_ort (by unfold xt_K_count_A; rw [if_neg h0, if_neg h])]
    rfl
  have hm : (x_M_count2 33000 lq_w.1 (fun _ => 0) (fun _ => 0) (fun _ => 0) lq_c.2 v lq_z).map (fun r => r.2 2) = some 1 := by
    unfold x_M_count2
    rw [if_neg h0, if_neg (show ¬ v ≤ 5 from h)]
    unfold xb_M_count2_10 xb_M_count2_15
    rw [lq_bnd, if_neg (by decide)]
    rfl
  obtain ⟨r, h1, h2⟩ := Option.map_eq_some_iff.mp hl
  obtain ⟨q, h3, h4⟩ := Option.map_eq_some_iff.mp hm
  unfold lq_E7
  rw [lq_gt (by decide), lq_bnd, lq_d2 h1, lq_gt (by decide), lq_bnd, lq_d2 h3, lq_d1 (lq_thr _ _), h4, h2, if_pos rfl, if_neg (by decide), lq_bnd, if_pos (by decide)]
theorem lq_E3_ta (v : Int32) (h : v < 0) : lq_E3 33000 6 (fun _ => v) lq_dat lq_z = some 1 := by
  have hl : (x_L_script_l21 33000 (0 : Int32) (0 : Int32) (fun _ => 0) (fun _ => 0) v (0 : Int32) (0 : Int32) (0 : Int32) (0 : Int32) (0 : Int32) (0 : Int32) (0 : Int32) (0 : Int32) (0 : Int32) (0 : Int32) lq_dat (fun _ => 0) (fun _ => 0)).map (fun r => r.1) = some 1 := by
    unfold x_L_script_l21
    rw [lq_ort (by unfold xt_K_script_A; rw [if_pos h])]
    rfl
  have hm : (x_M_script 33000 (fun _ => 0) v lq_z).map (fun r => r.2 2) = some 1 := by
    unfold x_M_script
    rw [if_pos h]
    unfold xb_M_script_32 xb_M_script_37
    rw [lq_bnd, if_neg (by decide)]
    rfl
  obtain ⟨r, h1, h2⟩ := Option.map_eq_some_iff.mp hl
  obtain ⟨q, h3, h4⟩ := Option.map_eq_some_iff.mp hm
  unfold lq_E3
  rw [lq_gt (by decide), lq_bnd, lq_d14 h1, lq_gt (by decide), lq_bnd, lq_d2 h3, lq_d1 (lq_thr _ _), h4, h2, if_pos rfl, if_neg (by decide), lq_bnd, if_pos (by decide)]
theorem lq_E3_tb (v : Int32) (h0 : ¬ v < 0) (h : 0 < v) : lq_E3 33000 6 (fun _ => v) lq_dat lq_z = some 1 := by
  have hl : (x_L_script_l21 33000 (0 : Int32) (0 : Int32) (fun _ => 0) (fun _ => 0) v (0 : Int32) (0 : Int32) (0 : Int32) (0 : Int32) (0 : Int32) (0 : Int32) (0 : Int32) (0 : Int32) (0 : Int32) (0 : Int32) lq_dat (fun _ => 0) (fun _ => 0)).map (fun r => r.1) = some 1 := by
    unfold x_L_script_l21
    rw [lq_ort (by unfold xt_K_script_A; rw [if_neg h0, if_pos h])]
    rfl
  have hm : (x_M_script 33000 (fun _ => 0) v lq_z).map (fun r => r.2 2) = some 1 := by
    unfold x_M_script
    rw [if_neg h0, if_pos (show lq_z 0 < v from h)]
    unfold xb_M_script_32 xb_M_script_37
    rw [lq_bnd, if_neg (by decide)]
    rfl
  obtain ⟨r, h1, h2⟩ := Option.map_eq_some_iff.mp hl
  obtain ⟨q, h3, h4⟩ := Option.map_eq_some_iff.mp hm
  unfold lq_E3
  rw [lq_gt (by decide), lq_bnd, lq_d14 h1, lq_gt (by decide), lq_bnd, lq_d2 h3, lq_d1 (lq_thr _ _), h4, h2, if_pos rfl, if_neg (by decide), lq_bnd, if_pos (by decide)]
theorem lq_E9_ta (v : Int32) (h : v < 0) : lq_E9 33000 6 (fun _ => v) lq_z = some 1 := by
  have hl : (x_L_signed_l21 33000 (0 : Int32) (0 : Int32) (0 : Int32) (fun _ => 0) v).map (fun r => r) = some 1 := by
    unfold x_L_signed_l21
    rw [lq_ort (by unfold xt_K_signed_A; rw [if_pos h])]
    rfl
  have hm : (x_M_signed 33000 (fun _ => 0) v lq_z (fun _ => 0)).map (fun r => r.2.1 2) = some 1 := by
    unfold x_M_signed
    rw [lq_bnd, lq_bnd, if_pos h]
    unfold xb_M_signed_32 xb_M_signed_37
    rw [lq_bnd, if_neg (by decide)]
    rfl
  obtain ⟨r, h1, h2⟩ := Option.map_eq_some_iff.mp hl
  obtain ⟨q, h3, h4⟩ := Option.map_eq_some_iff.mp hm
  unfold lq_E9
  rw [lq_gt (by decide), lq_bnd, lq_d1 h1, lq_gt (by decide), lq_bnd, lq_d3 h3, lq_d1 (lq_thr _ _), h4, h2, if_pos rfl, if_neg (by decide), lq_bnd, if_pos (by decide)]
theorem lq_E9_tb (v : Int32) (h0 : ¬ v < 0) (h : 100 < v) : lq_E9 33000 6 (fun _ => v) lq_z = some 1 := by
  have hl : (x_L_signed_l21 33000 (0 : Int32) (0 : Int32) (0 : Int32) (fun _ => 0) v).map (fun r => r) = some 1 := by
    unfold x_L_signed_l21
    rw [lq_ort (by unfold xt_K_signed_A; rw [if_neg h0, if_pos h])]
    rfl
  have hm : (x_M_signed 33000 (fun _ => 0) v lq_z (fun _ => 0)).map (fun r => r.2.1 2) = some 1 := by
    unfold x_M_signed
    rw [lq_bnd, lq_bnd, if_neg h0, if_pos h]
    unfold xb_M_signed_32 xb_M_signed_37
    rw [lq_bnd, if_neg (by decide)]
    rfl
  obtain ⟨r, h1, h2⟩ := Option.map_eq_some_iff.mp hl
  obtain ⟨q, h3, h4⟩ := Option.map_eq_some_iff.mp hm
  unfold lq_E9
  rw [lq_gt (by decide), lq_bnd, lq_d1 h1, lq_gt (by decide), lq_bnd, lq_d3 h3, lq_d1 (lq_thr _ _), h4, h2, if_pos rfl, if_neg (by decide), lq_bnd, if_pos (by decide)]
theorem lq_E6_t (v : Int32) : lq_E6 33000 6 (fun _ => v) lq_z = some 1 := by
  have hl : (x_L_unspent_l21 33000 (0 : Int32) (0 : Int32) (0 : Int32) (fun _ => 0) v).map (fun r => r) = some 1 := by
    unfold x_L_unspent_l21
    rw [lq_ort (by unfold xt_K_unspent_A; rw [if_neg (by decide)])]
    rfl
  have hm : (x_M_unspent 33000 v lq_z).map (fun r => r.2 2) = some 1 := by
    unfold x_M_unspent
    rw [if_neg (by decide)]
    unfold xb_M_unspent_15
    rw [lq_bnd, if_neg (by decide)]
    rfl
  obtain ⟨r, h1, h2⟩ := Option.map_eq_some_iff.mp hl
  obtain ⟨q, h3, h4⟩ := Option.map_eq_some_iff.mp hm
  unfold lq_E6
  rw [lq_gt (by decide), lq_bnd, lq_d1 h1, lq_gt (by decide), lq_bnd, lq_d2 h3, lq_d1 (lq_thr _ _), h4, h2, if_pos rfl, if_neg (by decide), lq_bnd, if_pos (by decide)]
theorem lq_E1_c (fu L : Nat) (xs : Nat → Int32) (f51 : Nat → Int32) : lq_E1 fu L xs f51 = lq_E1 fu L (fun _ => xs (1 : Int32).toNatClampNeg) f51 := rfl
theorem lq_E1_ok (xs : Nat → Int32) : lq_E1 33000 6 xs lq_z = some 1 := by
  rw [lq_E1_c]
  generalize xs (1 : Int32).toNatClampNeg = v
  by_cases h0 : v < 0
  · exact lq_E1_ta v h0
  by_cases h1 : ¬ v ≤ 0
  · exact lq_E1_tb v h0 h1
  obtain ⟨n, hn, rfl⟩ := lq_lit (k := 0) h0 (Decidable.not_not.mp h1) (by decide)
  exact lq_E1_v n hn
theorem lq_E3_c (fu L : Nat) (xs : Nat → Int32) (f41 : Nat → Int32) (f51 : Nat → Int32) : lq_E3 fu L xs f41 f51 = lq_E3 fu L (fun _ => xs (1 : Int32).toNatClampNeg) f41 f51 := rfl
theorem lq_E3_ok (xs : Nat → Int32) : lq_E3 33000 6 xs lq_dat lq_z = some 1 := by
  rw [lq_E3_c]
  generalize xs (1 : Int32).toNatClampNeg = v
  by_cases h0 : v < 0
  · exact lq_E3_ta v h0
  by_cases h1 : 0 < v
  · exact lq_E3_tb v h0 h1
  obtain ⟨n, hn, rfl⟩ := lq_lit (k := 0) h0 (Int32.not_lt.mp h1) (by decide)
  exact lq_E3_v n hn
theorem lq_E4_c (fu L : Nat) (xs : Nat → Int32) (f51 : Nat → Int32) : lq_E4 fu L xs f51 = lq_E4 fu L (fun _ => xs (1 : Int32).toNatClampNeg) f51 := rfl
theorem lq_E4_ok (xs : Nat → Int32) : lq_E4 33000 6 xs lq_z = some 1 := by
  rw [lq_E4_c]
  generalize xs (1 : Int32).toNatClampNeg = v
  by_cases h0 : v < 0
  · exact lq_E4_ta v h0
  by_cases h1 : ¬ v ≤ 7
  · exact lq_E4_tb v h0 h1
  obtain ⟨n, hn, rfl⟩ := lq_lit (k := 7) h0 (Decidable.not_not.mp h1) (by decide)
  exact lq_E4_v n hn
theorem lq_E5_c (fu L : Nat) (xs : Nat → Int32) (e46 : Int32) (e47 : Int64) (e48 : Int32) (e49 : Int64) (f53 : Nat → Int32) (f54 : Nat → Int32) (f51 : Nat → Int32) : lq_E5 fu L xs e46 e47 e48 e49 f53 f54 f51 = lq_E5 fu L (fun _ => xs (1 : Int32).toNatClampNeg) e46 e47 e48 e49 f53 f54 f51 := rfl
theorem lq_E5_ok (xs : Nat → Int32) : lq_E5 33000 6 xs 0 1000000 545259519 2 lq_ti lq_bi lq_z = some 1 := by
  rw [lq_E5_c]
  generalize xs (1 : Int32).toNatClampNeg = v
  by_cases h0 : v < 0
  · exact lq_E5_ta v h0
  by_cases h1 : ¬ v ≤ 11
  · exact lq_E5_tb v h0 h1
  obtain ⟨n, hn, rfl⟩ := lq_lit (k := 11) h0 (Decidable.not_not.mp h1) (by decide)
  exact lq_E5_v n hn
theorem lq_E6_c (fu L : Nat) (xs : Nat → Int32) (f51 : Nat → Int32) : lq_E6 fu L xs f51 = lq_E6 fu L (fun _ => xs (1 : Int32).toNatClampNeg) f51 := rfl
theorem lq_E6_ok (xs : Nat → Int32) : lq_E6 33000 6 xs lq_z = some 1 := by
  rw [lq_E6_c]
  generalize xs (1 : Int32).toNatClampNeg = v
  exact lq_E6_t v
theorem lq_E7_c (fu L : Nat) (xs : Nat → Int32) (e42 : Int32) (e44 : Int32) (e45 : Int32) (e46 : Int32) (e47 : Int64) (e48 : Int32) (e49 : Int64) (f55 : Nat → Int32) (f57 : Nat → Int32) (f51 : Nat → Int32) : lq_E7 fu L xs e42 e44 e45 e46 e47 e48 e49 f55 f57 f51 = lq_E7 fu L (fun _ => xs (1 : Int32).toNatClampNeg) e42 e44 e45 e46 e47 e48 e49 f55 f57 f51 := rfl
theorem lq_E7_ok (xs : Nat → Int32) : lq_E7 33000 6 xs 0 1 1 0 1000000 545259519 2 lq_w.1 lq_c.2 lq_z = some 1 := by
  rw [lq_E7_c]
  generalize xs (1 : Int32).toNatClampNeg = v
  by_cases h0 : v < 0
  · exact lq_E7_ta v h0
  by_cases h1 : ¬ v ≤ 5
  · exact lq_E7_tb v h0 h1
  obtain ⟨n, hn, rfl⟩ := lq_lit (k := 5) h0 (Decidable.not_not.mp h1) (by decide)
  exact lq_E7_v n hn
theorem lq_E9_c (fu L : Nat) (xs : Nat → Int32) (f51 : Nat → Int32) : lq_E9 fu L xs f51 = lq_E9 fu L (fun _ => xs (1 : Int32).toNatClampNeg) f51 := rfl
theorem lq_E9_ok (xs : Nat → Int32) : lq_E9 33000 6 xs lq_z = some 1 := by
  rw [lq_E9_c]
  generalize xs (1 : Int32).toNatClampNeg = v
  by_cases h0 : v < 0
  · exact lq_E9_ta v h0
  by_cases h1 : 100 < v
  · exact lq_E9_tb v h0 h1
  obtain ⟨n, hn, rfl⟩ := lq_lit (k := 100) h0 (Int32.not_lt.mp h1) (by decide)
  exact lq_E9_v n hn
theorem lq_ap1 (fu : Nat) (t c : Int32) (n : Nat) (v s : Int32) (r : Nat) (hr : r < 3000) (row : Nat → Int32) (hs : ¬ s < 0) : ∃ row', x_K_append_3 fu t c (n + 1) v s (nI r) row = x_K_append_3 fu t c n v (s + (-8 : Int32)) (nI (r + 1)) row' := by
  refine ⟨upd row (nI r).toNatClampNeg (vp_nar .byte (((v.toUInt32 >>> (s.toUInt32 &&& Int32.toUInt32 31)).toInt32).toInt8.toInt32)), ?_⟩
  show xb_K_append_3 fu t c (x_K_append_3 fu t c n) v s (nI r) row = _
  unfold xb_K_append_3
  rw [if_neg hs, lq_bnd, lq_gt (lq_inb hr (by decide)), lq_bnd, lq_bnd, lq_bnd, nI_succ]
theorem lq_ap (fu : Nat) (hfu : 5 ≤ fu) (t c v : Int32) (r : Nat) (hr : r + 4 ≤ 3000) (row : Nat → Int32) : ∃ row', x_K_append fu t c v (nI r) row = some (nI (r + 4), row') := by
  obtain ⟨n, rfl⟩ : ∃ n, fu = n + 5 := ⟨fu - 5, by omega⟩
  unfold x_K_append
  obtain ⟨r1, h1⟩ := lq_ap1 (n + 5) t c (n + 4) v 24 r (by omega) row (by decide)
  obtain ⟨r2, h2⟩ := lq_ap1 (n + 5) t c (n + 3) v (24 + -8) (r + 1) (by omega) r1 (by decide)
  obtain ⟨r3, h3⟩ := lq_ap1 (n + 5) t c (n + 2) v (24 + -8 + -8) (r + 2) (by omega) r2 (by decide)
  obtain ⟨r4, h4⟩ := lq_ap1 (n + 5) t c (n + 1) v (24 + -8 + -8 + -8) (r + 3) (by omega) r3 (by decide)
  refine ⟨r4, ?_⟩
  rw [h1, h2, h3, h4]
  show xb_K_append_3 (n + 5) t c (x_K_append_3 (n + 5) t c n) v _ _ _ = _
  unfold xb_K_append_3
  rw [if_pos (by decide)]
theorem lq_orn {β : Type} (a b : Option β) : ort none a b = b := rfl
theorem lq_Lfeed (fu : Nat) (hfu : 5 ≤ fu) (a b c d e : Int32) : ∃ row' out, x_L_feed_l61 fu 0 0 a b c d e 0 (fun _ => 0) (fun _ => 0) = some (0, 20, row', out) ∧ out 0 = 20 := by
  obtain ⟨r1, h1⟩ := lq_ap fu hfu 0 0 a 0 (by decide) (fun _ => 0)
  obtain ⟨r2, h2⟩ := lq_ap fu hfu 0 0 b 4 (by decide) r1
  obtain ⟨r3, h3⟩ := lq_ap fu hfu 0 0 c 8 (by decide) r2
  obtain ⟨r4, h4⟩ := lq_ap fu hfu 0 0 d 12 (by decide) r3
  obtain ⟨r5, h5⟩ := lq_ap fu hfu 0 0 e 16 (by decide) r4
  have hk : x_K_feed fu 0 0 a b c d e 0 (fun _ => 0) = some (nI 20, nI 20, r5) := by
    unfold x_K_feed
    have h1' : x_K_append fu 0 0 a 0 (fun _ => 0) = some (nI 4, r1) := h1
    rw [lq_bnd, if_pos (by decide), lq_b2 h1', lq_b2 h2, lq_b2 h3, lq_b2 h4, lq_b2 h5]
  have hx : xt_K_feed_S 0 0 0 a b c d e = none := by
    unfold xt_K_feed_S
    rw [lq_bnd, if_pos (by decide)]
  refine ⟨r5, vp_updL (fun _ => 0) (0 : Int32).toNatClampNeg (nI 20).toInt64, ?_, by decide⟩
  unfold x_L_feed_l61
  rw [hx, lq_orn, lq_b3 hk]
  rfl
theorem lq_E0_ok (xs : Nat → Int32) : lq_E0 33000 6 xs lq_z = some 1 := by
  obtain ⟨r, out, h1, h2⟩ := lq_Lfeed 33000 (by omega) (xs (1 : Int32).toNatClampNeg) (xs (2 : Int32).toNatClampNeg) (xs (3 : Int32).toNatClampNeg) (xs (4 : Int32).toNatClampNeg) (xs (5 : Int32).toNatClampNeg)
  obtain ⟨z', r', h3, h4⟩ := lq_Mfeed 33000 (by omega) (xs (1 : Int32).toNatClampNeg) (xs (2 : Int32).toNatClampNeg) (xs (3 : Int32).toNatClampNeg) (xs (4 : Int32).toNatClampNeg) (xs (5 : Int32).toNatClampNeg)
  have h3' : x_M_feed 33000 (xs (1 : Int32).toNatClampNeg) (xs (2 : Int32).toNatClampNeg) (xs (3 : Int32).toNatClampNeg) (xs (4 : Int32).toNatClampNeg) (xs (5 : Int32).toNatClampNeg) lq_z (fun _ => 0) = some (20, z', r') := h3
  unfold lq_E0
  rw [lq_gt (by decide), lq_bnd, lq_gt (by decide), lq_bnd, lq_gt (by decide), lq_bnd, lq_gt (by decide), lq_bnd, lq_gt (by decide), lq_bnd, lq_b4 h1, lq_gt (by decide), lq_bnd, lq_gt (by decide), lq_bnd, lq_gt (by decide), lq_bnd, lq_gt (by decide), lq_bnd, lq_gt (by decide), lq_bnd, lq_b3 h3', lq_d1 (lq_thr _ _), h4, if_pos rfl, if_pos rfl, lq_bnd, if_pos (show lg_cmp (out (0 : Int32).toNatClampNeg) (20 : Int32).toInt64 = 0 by rw [show (0 : Int32).toNatClampNeg = 0 by decide, h2]; decide), lq_bnd, if_pos (by decide)]
theorem law1_ok (L : Nat) (xs : Nat → Int32) (hL : L ≤ 6) : x_law1 33000 L xs = some 1 := by
  unfold x_law1
  rw [lq_d49 lq_k1, lq_d15 lq_Minit, lq_bnd]
  refine lq_if (fun _ => rfl) (fun h => ?_)
  have h6 : L = 6 := by
    have : ∀ n, n < 6 → (Int32.ofNat n - 6 : Int32) < 0 := by decide
    rcases Nat.lt_or_ge L 6 with q | q
    · exact absurd (this L q) h
    · omega
  subst h6
  refine lq_gd (by decide) ?_
  rw [lq_bnd, lq_bnd]
  simp only [lq_e42, lq_e44, lq_e45, lq_e46, lq_e47, lq_e48, lq_e49]
  refine lq_if (fun _ => lq_E0_ok xs) (fun _ => ?_)
  refine lq_if (fun _ => lq_E1_ok xs) (fun _ => ?_)
  refine lq_if (fun _ => lq_E2_ok xs) (fun _ => ?_)
  refine lq_if (fun _ => lq_E3_ok xs) (fun _ => ?_)
  refine lq_if (fun _ => lq_E4_ok xs) (fun _ => ?_)
  refine lq_if (fun _ => lq_E5_ok xs) (fun _ => ?_)
  refine lq_if (fun _ => lq_E6_ok xs) (fun _ => ?_)
  refine lq_if (fun _ => lq_E7_ok xs) (fun _ => ?_)
  refine lq_if (fun _ => lq_E8_ok xs) (fun _ => ?_)
  refine lq_if (fun _ => lq_E9_ok xs) (fun _ => ?_)
  rw [lq_bnd, if_pos (by decide)]
