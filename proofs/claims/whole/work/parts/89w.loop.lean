/-! the law's loop -/
section LOOP
variable {E : Hp} {i : Nat → Nat → Int32} {j : Nat → Nat → Int64} {d : Nat → Nat → UInt64} {N : Nat → Int32} {r : Nat → UInt64} {B : Nat} {H : List Rw} {s : Option Rw} {β : Type}
theorem scr_0 {L k : Nat} {K : Nat → Option β} (h : k < L) (hL : L ≤ 3072) : scr L (nI k) K = K k := by
  rw [scr_go (show vp_in (nI k) L from nI_in h (by omega)), nI_clamp (by omega)]
theorem scr_1 {L k : Nat} {K : Nat → Option β} (h : k + 6 ≤ L) (hL : L ≤ 3072) : scr L (nI k + 1) K = K (k + 1) := by
  rw [nI_1]; exact scr_0 (by omega) hL
theorem scr_2 {L k : Nat} {K : Nat → Option β} (h : k + 6 ≤ L) (hL : L ≤ 3072) : scr L (nI k + 2) K = K (k + 2) := by
  rw [show nI k + 2 = nI (k + 2) from nI_add k 2]; exact scr_0 (by omega) hL
theorem scr_3 {L k : Nat} {K : Nat → Option β} (h : k + 6 ≤ L) (hL : L ≤ 3072) : scr L (nI k + 3) K = K (k + 3) := by
  rw [show nI k + 3 = nI (k + 3) from nI_add k 3]; exact scr_0 (by omega) hL
theorem scr_4 {L k : Nat} {K : Nat → Option β} (h : k + 6 ≤ L) (hL : L ≤ 3072) : scr L (nI k + 4) K = K (k + 4) := by
  rw [show nI k + 4 = nI (k + 4) from nI_add k 4]; exact scr_0 (by omega) hL
theorem scr_5 {L k : Nat} {K : Nat → Option β} (h : k + 6 ≤ L) (hL : L ≤ 3072) : scr L (nI k + 5) K = K (k + 5) := by
  rw [show nI k + 5 = nI (k + 5) from nI_add k 5]; exact scr_0 (by omega) hL
theorem y_6 (k : Nat) : nI k + 6 = nI (k + 6) := nI_add k 6
theorem IV.r0 (V : IV B i j d N r H s) : Rep i j d 1 (i 230) (d 233) := by rw [V.1.1, V.1.2]; exact V.rp
theorem lg_self (x : Int64) : lg_cmp x x = 0 := by
  unfold lg_cmp
  rw [if_neg (show ¬ x > x from Int64.lt_irrefl), if_pos rfl]
theorem law_end {L k : Nat} (hL : L ≤ 3072) (hk : k ≤ 3072) : nI L - 6 < nI k ↔ L < k + 6 := by
  rw [Int32.lt_iff_toInt_lt, show (nI L - 6).toInt = (L : Int) - (6 : Nat) from pk_sub_toInt (a := L) (b := 6) (by omega) (by omega), nI_toInt (by omega)]
  omega
set_option maxHeartbeats 4000000 in
theorem law_c0 {sc : Nat → Int32} {L k : Nat} {rec : Hp → Option Nat → Option Nat → Int32 → Option (Int32 × Hp)} (h : Ev E) (V : IV B i j d N r H s) (hB : B + 119988 ≤ 67108864) (hL : L ≤ 3072) (hk : k + 6 ≤ L) (hc : sc k &&& 31 = 0) : ∃ i4 j4 d4, f_law_b sc L rec (mk E i j d) (some (zA E 0)) (some (zA E 229)) (nI k) = rec (mk E i4 j4 d4) (some (zA E 0)) (some (zA E 229)) (nI (k + 6)) ∧ Inv (B + 119988) i4 j4 d4 := by
  obtain ⟨v, i2, j2, d2, i4, d4, eX, eM, I⟩ := a_addGuide h V hB (sc (k + 1)) (sc (k + 2))
  unfold f_law_b
  rw [if_neg (fun z => absurd ((law_end hL (by omega)).mp z) (by omega)), scr_0 (by omega) hL, hc]
  rw [if_pos rfl, scr_1 hk hL, scr_2 hk hL, ob_X h, show f_X5_addGuide (mk E i j d) (zA E 0) (sc (k + 1)) (sc (k + 2)) = _ from eX, cl_go, scr_1 hk hL, scr_2 hk hL, ob_M h, show f_X6_addGuide (mk E i2 j2 d2) (zA E 229) (sc (k + 1)) (sc (k + 2)) = _ from eM, cl_go]
  rw [if_pos rfl, bnd_go, y_6]
  exact ⟨i4, j2, d4, rfl, I⟩
set_option maxHeartbeats 4000000 in
theorem law_c1 {sc : Nat → Int32} {L k : Nat} {rec : Hp → Option Nat → Option Nat → Int32 → Option (Int32 × Hp)} (h : Ev E) (V : IV B i j d N r H s) (hB : B + 119988 ≤ 67108864) (hL : L ≤ 3072) (hk : k + 6 ≤ L) (hc : sc k &&& 31 = 1) : ∃ i4 j4 d4, f_law_b sc L rec (mk E i j d) (some (zA E 0)) (some (zA E 229)) (nI k) = rec (mk E i4 j4 d4) (some (zA E 0)) (some (zA E 229)) (nI (k + 6)) ∧ Inv (B + 119988) i4 j4 d4 := by
  obtain ⟨v, i2, j2, d2, i4, d4, eX, eM, I⟩ := a_renew h V hB (sc (k + 1)) (sc (k + 2)) (sc (k + 3))
  unfold f_law_b
  rw [if_neg (fun z => absurd ((law_end hL (by omega)).mp z) (by omega)), scr_0 (by omega) hL, hc]
  rw [if_neg (by decide), if_pos rfl, scr_1 hk hL, scr_2 hk hL, scr_3 hk hL, ob_X h, show f_X5_renew (mk E i j d) (zA E 0) (sc (k + 1)) (sc (k + 2)) (sc (k + 3)) = _ from eX, cl_go, scr_1 hk hL, scr_2 hk hL, scr_3 hk hL, ob_M h, show f_X6_renew (mk E i2 j2 d2) (zA E 229) (sc (k + 1)) (sc (k + 2)) (sc (k + 3)) = _ from eM, cl_go]
  rw [if_pos rfl, bnd_go, y_6]
  exact ⟨i4, j2, d4, rfl, I⟩
set_option maxHeartbeats 4000000 in
theorem law_c2 {sc : Nat → Int32} {L k : Nat} {rec : Hp → Option Nat → Option Nat → Int32 → Option (Int32 × Hp)} (h : Ev E) (V : IV B i j d N r H s) (hB : B + 119988 ≤ 67108864) (hL : L ≤ 3072) (hk : k + 6 ≤ L) (hc : sc k &&& 31 = 2) : ∃ i4 j4 d4, f_law_b sc L rec (mk E i j d) (some (zA E 0)) (some (zA E 229)) (nI k) = rec (mk E i4 j4 d4) (some (zA E 0)) (some (zA E 229)) (nI (k + 6)) ∧ Inv (B + 119988) i4 j4 d4 := by
  obtain ⟨v, i2, j2, d2, i4, d4, eX, eM, I⟩ := a_addBridge h V hB ((((sc (k + 1)).toInt64) <<< ((32 : Int32).toInt64 &&& 63)) ||| (((sc (k + 2)).toInt64) &&& 4294967295))
  unfold f_law_b
  rw [if_neg (fun z => absurd ((law_end hL (by omega)).mp z) (by omega)), scr_0 (by omega) hL, hc]
  rw [if_neg (by decide), if_neg (by decide), if_pos rfl, scr_1 hk hL, scr_2 hk hL, ob_X h, show f_X5_addBridge (mk E i j d) (zA E 0) ((((sc (k + 1)).toInt64) <<< ((32 : Int32).toInt64 &&& 63)) ||| (((sc (k + 2)).toInt64) &&& 4294967295)) = _ from eX, cl_go, scr_1 hk hL, scr_2 hk hL, ob_M h, show f_X6_addBridge (mk E i2 j2 d2) (zA E 229) ((((sc (k + 1)).toInt64) <<< ((32 : Int32).toInt64 &&& 63)) ||| (((sc (k + 2)).toInt64) &&& 4294967295)) = _ from eM, cl_go]
  rw [if_pos rfl, bnd_go, y_6]
  exact ⟨i4, j2, d4, rfl, I⟩
set_option maxHeartbeats 4000000 in
theorem law_c3 {sc : Nat → Int32} {L k : Nat} {rec : Hp → Option Nat → Option Nat → Int32 → Option (Int32 × Hp)} (h : Ev E) (V : IV B i j d N r H s) (hB : B + 119988 ≤ 67108864) (hL : L ≤ 3072) (hk : k + 6 ≤ L) (hc : sc k &&& 31 = 3) : ∃ i4 j4 d4, f_law_b sc L rec (mk E i j d) (some (zA E 0)) (some (zA E 229)) (nI k) = rec (mk E i4 j4 d4) (some (zA E 0)) (some (zA E 229)) (nI (k + 6)) ∧ Inv (B + 119988) i4 j4 d4 := by
  obtain ⟨v, i2, j2, d2, i4, d4, eX, eM, I⟩ := a_setTemp h V hB ((((sc (k + 1)).toInt64) <<< ((32 : Int32).toInt64 &&& 63)) ||| (((sc (k + 2)).toInt64) &&& 4294967295))
  unfold f_law_b
  rw [if_neg (fun z => absurd ((law_end hL (by omega)).mp z) (by omega)), scr_0 (by omega) hL, hc]
  rw [if_neg (by decide), if_neg (by decide), if_neg (by decide), if_pos rfl, scr_1 hk hL, scr_2 hk hL, ob_X h, show f_X5_setTemperature (mk E i j d) (zA E 0) ((((sc (k + 1)).toInt64) <<< ((32 : Int32).toInt64 &&& 63)) ||| (((sc (k + 2)).toInt64) &&& 4294967295)) = _ from eX, cl_go, scr_1 hk hL, scr_2 hk hL, ob_M h, show f_X6_setTemperature (mk E i2 j2 d2) (zA E 229) ((((sc (k + 1)).toInt64) <<< ((32 : Int32).toInt64 &&& 63)) ||| (((sc (k + 2)).toInt64) &&& 4294967295)) = _ from eM, cl_go]
  rw [if_pos rfl, bnd_go, y_6]
  exact ⟨i4, j2, d4, rfl, I⟩
set_option maxHeartbeats 4000000 in
theorem law_c4 {sc : Nat → Int32} {L k : Nat} {rec : Hp → Option Nat → Option Nat → Int32 → Option (Int32 × Hp)} (h : Ev E) (V : IV B i j d N r H s) (hB : B + 119988 ≤ 67108864) (hL : L ≤ 3072) (hk : k + 6 ≤ L) (hc : sc k &&& 31 = 4) : ∃ i4 j4 d4, f_law_b sc L rec (mk E i j d) (some (zA E 0)) (some (zA E 229)) (nI k) = rec (mk E i4 j4 d4) (some (zA E 0)) (some (zA E 229)) (nI (k + 6)) ∧ Inv (B + 119988) i4 j4 d4 := by
  obtain ⟨v, i2, j2, d2, i4, d4, eX, eM, I⟩ := a_addTour h V hB (sc (k + 1)) ((((sc (k + 2)).toInt64) <<< ((32 : Int32).toInt64 &&& 63)) ||| (((sc (k + 3)).toInt64) &&& 4294967295)) (sc (k + 4)) (sc (k + 5))
  unfold f_law_b
  rw [if_neg (fun z => absurd ((law_end hL (by omega)).mp z) (by omega)), scr_0 (by omega) hL, hc]
  rw [if_neg (by decide), if_neg (by decide), if_neg (by decide), if_neg (by decide), if_pos rfl, scr_1 hk hL, scr_2 hk hL, scr_3 hk hL, scr_4 hk hL, scr_5 hk hL, ob_X h, show f_X5_addTour (mk E i j d) (zA E 0) (sc (k + 1)) ((((sc (k + 2)).toInt64) <<< ((32 : Int32).toInt64 &&& 63)) ||| (((sc (k + 3)).toInt64) &&& 4294967295)) (sc (k + 4)) (sc (k + 5)) = _ from eX, cl_go, scr_1 hk hL, scr_2 hk hL, scr_3 hk hL, scr_4 hk hL, scr_5 hk hL, ob_M h, show f_X6_addTour (mk E i2 j2 d2) (zA E 229) (sc (k + 1)) ((((sc (k + 2)).toInt64) <<< ((32 : Int32).toInt64 &&& 63)) ||| (((sc (k + 3)).toInt64) &&& 4294967295)) (sc (k + 4)) (sc (k + 5)) = _ from eM, cl_go]
  rw [if_pos rfl, bnd_go, y_6]
  exact ⟨i4, j2, d4, rfl, I⟩
set_option maxHeartbeats 4000000 in
theorem law_c5 {sc : Nat → Int32} {L k : Nat} {rec : Hp → Option Nat → Option Nat → Int32 → Option (Int32 × Hp)} (h : Ev E) (V : IV B i j d N r H s) (hB : B + 119988 ≤ 67108864) (hL : L ≤ 3072) (hk : k + 6 ≤ L) (hc : sc k &&& 31 = 5) : ∃ i4 j4 d4, f_law_b sc L rec (mk E i j d) (some (zA E 0)) (some (zA E 229)) (nI k) = rec (mk E i4 j4 d4) (some (zA E 0)) (some (zA E 229)) (nI (k + 6)) ∧ Inv (B + 119988) i4 j4 d4 := by
  obtain ⟨v, i2, j2, d2, i4, d4, eX, eM, I⟩ := (p_book h V hB (sc (k + 1)) (sc (k + 2))).ls
  unfold f_law_b
  rw [if_neg (fun z => absurd ((law_end hL (by omega)).mp z) (by omega)), scr_0 (by omega) hL, hc]
  rw [if_neg (by decide), if_neg (by decide), if_neg (by decide), if_neg (by decide), if_neg (by decide), if_pos rfl, scr_1 hk hL, scr_2 hk hL, ob_X h, show f_X5_book (mk E i j d) (zA E 0) (sc (k + 1)) (sc (k + 2)) = _ from eX, cl_go, scr_1 hk hL, scr_2 hk hL, ob_M h, show f_X6_book (mk E i2 j2 d2) (zA E 229) (sc (k + 1)) (sc (k + 2)) = _ from eM, cl_go]
  rw [if_pos rfl, bnd_go, y_6]
  exact ⟨i4, j2, d4, rfl, I⟩
set_option maxHeartbeats 4000000 in
theorem law_c6 {sc : Nat → Int32} {L k : Nat} {rec : Hp → Option Nat → Option Nat → Int32 → Option (Int32 × Hp)} (h : Ev E) (V : IV B i j d N r H s) (hB : B + 119988 ≤ 67108864) (hL : L ≤ 3072) (hk : k + 6 ≤ L) (hc : sc k &&& 31 = 6) : ∃ i4 j4 d4, f_law_b sc L rec (mk E i j d) (some (zA E 0)) (some (zA E 229)) (nI k) = rec (mk E i4 j4 d4) (some (zA E 0)) (some (zA E 229)) (nI (k + 6)) ∧ Inv (B + 119988) i4 j4 d4 := by
  obtain ⟨v, i2, j2, d2, i4, d4, eX, eM, I⟩ := (p_leave h V hB (sc (k + 1)) (sc (k + 2))).ls
  unfold f_law_b
  rw [if_neg (fun z => absurd ((law_end hL (by omega)).mp z) (by omega)), scr_0 (by omega) hL, hc]
  rw [if_neg (by decide), if_neg (by decide), if_neg (by decide), if_neg (by decide), if_neg (by decide), if_neg (by decide), if_pos rfl, scr_1 hk hL, scr_2 hk hL, ob_X h, show f_X5_leave (mk E i j d) (zA E 0) (sc (k + 1)) (sc (k + 2)) = _ from eX, cl_go, scr_1 hk hL, scr_2 hk hL, ob_M h, show f_X6_leave (mk E i2 j2 d2) (zA E 229) (sc (k + 1)) (sc (k + 2)) = _ from eM, cl_go]
  rw [if_pos rfl, bnd_go, y_6]
  exact ⟨i4, j2, d4, rfl, I⟩
set_option maxHeartbeats 4000000 in
theorem law_c7 {sc : Nat → Int32} {L k : Nat} {rec : Hp → Option Nat → Option Nat → Int32 → Option (Int32 × Hp)} (h : Ev E) (V : IV B i j d N r H s) (hB : B + 119988 ≤ 67108864) (hL : L ≤ 3072) (hk : k + 6 ≤ L) (hc : sc k &&& 31 = 7) : ∃ i4 j4 d4, f_law_b sc L rec (mk E i j d) (some (zA E 0)) (some (zA E 229)) (nI k) = rec (mk E i4 j4 d4) (some (zA E 0)) (some (zA E 229)) (nI (k + 6)) ∧ Inv (B + 119988) i4 j4 d4 := by
  obtain ⟨v, i2, j2, d2, i4, d4, eX, eM, I⟩ := (p_lead h V hB (sc (k + 1)) (sc (k + 2))).ls
  unfold f_law_b
  rw [if_neg (fun z => absurd ((law_end hL (by omega)).mp z) (by omega)), scr_0 (by omega) hL, hc]
  rw [if_neg (by decide), if_neg (by decide), if_neg (by decide), if_neg (by decide), if_neg (by decide), if_neg (by decide), if_neg (by decide), if_pos rfl, scr_1 hk hL, scr_2 hk hL, ob_X h, show f_X5_lead (mk E i j d) (zA E 0) (sc (k + 1)) (sc (k + 2)) = _ from eX, cl_go, scr_1 hk hL, scr_2 hk hL, ob_M h, show f_X6_lead (mk E i2 j2 d2) (zA E 229) (sc (k + 1)) (sc (k + 2)) = _ from eM, cl_go]
  rw [if_pos rfl, bnd_go, y_6]
  exact ⟨i4, j2, d4, rfl, I⟩
set_option maxHeartbeats 4000000 in
theorem law_c8 {sc : Nat → Int32} {L k : Nat} {rec : Hp → Option Nat → Option Nat → Int32 → Option (Int32 × Hp)} (h : Ev E) (V : IV B i j d N r H s) (hB : B + 119988 ≤ 67108864) (hL : L ≤ 3072) (hk : k + 6 ≤ L) (hc : sc k &&& 31 = 8) : ∃ i4 j4 d4, f_law_b sc L rec (mk E i j d) (some (zA E 0)) (some (zA E 229)) (nI k) = rec (mk E i4 j4 d4) (some (zA E 0)) (some (zA E 229)) (nI (k + 6)) ∧ Inv (B + 119988) i4 j4 d4 := by
  obtain ⟨v, i2, j2, d2, i4, d4, eX, eM, I⟩ := a_release h V hB (sc (k + 1)) (sc (k + 2))
  unfold f_law_b
  rw [if_neg (fun z => absurd ((law_end hL (by omega)).mp z) (by omega)), scr_0 (by omega) hL, hc]
  rw [if_neg (by decide), if_neg (by decide), if_neg (by decide), if_neg (by decide), if_neg (by decide), if_neg (by decide), if_neg (by decide), if_neg (by decide), if_pos rfl, scr_1 hk hL, scr_2 hk hL, ob_X h, show f_X5_release (mk E i j d) (zA E 0) (sc (k + 1)) (sc (k + 2)) = _ from eX, cl_go, scr_1 hk hL, scr_2 hk hL, ob_M h, show f_X6_release (mk E i2 j2 d2) (zA E 229) (sc (k + 1)) (sc (k + 2)) = _ from eM, cl_go]
  rw [if_pos rfl, bnd_go, y_6]
  exact ⟨i4, j2, d4, rfl, I⟩
set_option maxHeartbeats 4000000 in
theorem law_c9 {sc : Nat → Int32} {L k : Nat} {rec : Hp → Option Nat → Option Nat → Int32 → Option (Int32 × Hp)} (h : Ev E) (V : IV B i j d N r H s) (hB : B + 119988 ≤ 67108864) (hL : L ≤ 3072) (hk : k + 6 ≤ L) (hc : sc k &&& 31 = 9) : ∃ i4 j4 d4, f_law_b sc L rec (mk E i j d) (some (zA E 0)) (some (zA E 229)) (nI k) = rec (mk E i4 j4 d4) (some (zA E 0)) (some (zA E 229)) (nI (k + 6)) ∧ Inv (B + 119988) i4 j4 d4 := by
  obtain ⟨v, i2, j2, d2, i4, d4, eX, eM, I⟩ := (p_merge h V hB (sc (k + 1)) (sc (k + 2))).ls
  unfold f_law_b
  rw [if_neg (fun z => absurd ((law_end hL (by omega)).mp z) (by omega)), scr_0 (by omega) hL, hc]
  rw [if_neg (by decide), if_neg (by decide), if_neg (by decide), if_neg (by decide), if_neg (by decide), if_neg (by decide), if_neg (by decide), if_neg (by decide), if_neg (by decide), if_pos rfl, scr_1 hk hL, scr_2 hk hL, ob_X h, show f_X5_merge (mk E i j d) (zA E 0) (sc (k + 1)) (sc (k + 2)) = _ from eX, cl_go, scr_1 hk hL, scr_2 hk hL, ob_M h, show f_X6_merge (mk E i2 j2 d2) (zA E 229) (sc (k + 1)) (sc (k + 2)) = _ from eM, cl_go]
  rw [if_pos rfl, bnd_go, y_6]
  exact ⟨i4, j2, d4, rfl, I⟩
set_option maxHeartbeats 4000000 in
theorem law_c10 {sc : Nat → Int32} {L k : Nat} {rec : Hp → Option Nat → Option Nat → Int32 → Option (Int32 × Hp)} (h : Ev E) (V : IV B i j d N r H s) (hB : B + 119988 ≤ 67108864) (hL : L ≤ 3072) (hk : k + 6 ≤ L) (hc : sc k &&& 31 = 10) : ∃ i4 j4 d4, f_law_b sc L rec (mk E i j d) (some (zA E 0)) (some (zA E 229)) (nI k) = rec (mk E i4 j4 d4) (some (zA E 0)) (some (zA E 229)) (nI (k + 6)) ∧ Inv (B + 119988) i4 j4 d4 := by
  obtain ⟨v, i2, j2, d2, i4, d4, eX, eM, I⟩ := (p_cancel h V hB (sc (k + 1))).ls
  unfold f_law_b
  rw [if_neg (fun z => absurd ((law_end hL (by omega)).mp z) (by omega)), scr_0 (by omega) hL, hc]
  rw [if_neg (by decide), if_neg (by decide), if_neg (by decide), if_neg (by decide), if_neg (by decide), if_neg (by decide), if_neg (by decide), if_neg (by decide), if_neg (by decide), if_neg (by decide), if_pos rfl, scr_1 hk hL, ob_X h, show f_X5_cancel (mk E i j d) (zA E 0) (sc (k + 1)) = _ from eX, cl_go, scr_1 hk hL, ob_M h, show f_X6_cancel (mk E i2 j2 d2) (zA E 229) (sc (k + 1)) = _ from eM, cl_go]
  rw [if_pos rfl, bnd_go, y_6]
  exact ⟨i4, j2, d4, rfl, I⟩
set_option maxHeartbeats 4000000 in
theorem law_c11 {sc : Nat → Int32} {L k : Nat} {rec : Hp → Option Nat → Option Nat → Int32 → Option (Int32 × Hp)} (h : Ev E) (V : IV B i j d N r H s) (hB : B + 119988 ≤ 67108864) (hL : L ≤ 3072) (hk : k + 6 ≤ L) (hc : sc k &&& 31 = 11) : ∃ i4 j4 d4, f_law_b sc L rec (mk E i j d) (some (zA E 0)) (some (zA E 229)) (nI k) = rec (mk E i4 j4 d4) (some (zA E 0)) (some (zA E 229)) (nI (k + 6)) ∧ Inv (B + 119988) i4 j4 d4 := by
  obtain ⟨v, i2, j2, d2, i4, d4, eX, eM, I⟩ := a_pass h V hB (sc (k + 1))
  unfold f_law_b
  rw [if_neg (fun z => absurd ((law_end hL (by omega)).mp z) (by omega)), scr_0 (by omega) hL, hc]
  rw [if_neg (by decide), if_neg (by decide), if_neg (by decide), if_neg (by decide), if_neg (by decide), if_neg (by decide), if_neg (by decide), if_neg (by decide), if_neg (by decide), if_neg (by decide), if_neg (by decide), if_pos rfl, scr_1 hk hL, ob_X h, show f_X5_pass (mk E i j d) (zA E 0) (sc (k + 1)) = _ from eX, cl_go, scr_1 hk hL, ob_M h, show f_X6_pass (mk E i2 j2 d2) (zA E 229) (sc (k + 1)) = _ from eM, cl_go]
  rw [if_pos rfl, bnd_go, y_6]
  exact ⟨i4, j2, d4, rfl, I⟩
set_option maxHeartbeats 4000000 in
theorem law_c12 {sc : Nat → Int32} {L k : Nat} {rec : Hp → Option Nat → Option Nat → Int32 → Option (Int32 × Hp)} (h : Ev E) (V : IV B i j d N r H s) (hB : B + 119988 ≤ 67108864) (hL : L ≤ 3072) (hk : k + 6 ≤ L) (hc : sc k &&& 31 = 12) : ∃ i4 j4 d4, f_law_b sc L rec (mk E i j d) (some (zA E 0)) (some (zA E 229)) (nI k) = rec (mk E i4 j4 d4) (some (zA E 0)) (some (zA E 229)) (nI (k + 6)) ∧ Inv (B + 119988) i4 j4 d4 := by
  obtain ⟨v, i2, j2, d2, i4, d4, eX, eM, I⟩ := a_type h V hB (((sc (k + 1)).toUInt32 % 65536).toInt32)
  unfold f_law_b
  rw [if_neg (fun z => absurd ((law_end hL (by omega)).mp z) (by omega)), scr_0 (by omega) hL, hc]
  rw [if_neg (by decide), if_neg (by decide), if_neg (by decide), if_neg (by decide), if_neg (by decide), if_neg (by decide), if_neg (by decide), if_neg (by decide), if_neg (by decide), if_neg (by decide), if_neg (by decide), if_neg (by decide), if_pos rfl, scr_1 hk hL, ob_X h, show f_X5_type (mk E i j d) (zA E 0) (((sc (k + 1)).toUInt32 % 65536).toInt32) = _ from eX, cl_go, scr_1 hk hL, ob_M h, show f_X6_type (mk E i2 j2 d2) (zA E 229) (((sc (k + 1)).toUInt32 % 65536).toInt32) = _ from eM, cl_go]
  rw [if_pos rfl, bnd_go, y_6]
  exact ⟨i4, j2, d4, rfl, I⟩
set_option maxHeartbeats 4000000 in
theorem law_c13 {sc : Nat → Int32} {L k : Nat} {rec : Hp → Option Nat → Option Nat → Int32 → Option (Int32 × Hp)} (h : Ev E) (V : IV B i j d N r H s) (hB : B + 119988 ≤ 67108864) (hL : L ≤ 3072) (hk : k + 6 ≤ L) (hc : sc k &&& 31 = 13) : ∃ i4 j4 d4, f_law_b sc L rec (mk E i j d) (some (zA E 0)) (some (zA E 229)) (nI k) = rec (mk E i4 j4 d4) (some (zA E 0)) (some (zA E 229)) (nI (k + 6)) ∧ Inv (B + 119988) i4 j4 d4 := by
  obtain ⟨v, i2, j2, d2, i4, d4, eX, eM, I⟩ := a_clear h V hB
  unfold f_law_b
  rw [if_neg (fun z => absurd ((law_end hL (by omega)).mp z) (by omega)), scr_0 (by omega) hL, hc]
  rw [if_neg (by decide), if_neg (by decide), if_neg (by decide), if_neg (by decide), if_neg (by decide), if_neg (by decide), if_neg (by decide), if_neg (by decide), if_neg (by decide), if_neg (by decide), if_neg (by decide), if_neg (by decide), if_neg (by decide), if_pos rfl, ob_X h, show f_X5_clearText (mk E i j d) (zA E 0) = _ from eX, cl_go, ob_M h, show f_X6_clearText (mk E i2 j2 d2) (zA E 229) = _ from eM, cl_go]
  rw [if_pos rfl, bnd_go, y_6]
  exact ⟨i4, j2, d4, rfl, I⟩
set_option maxHeartbeats 4000000 in
theorem law_c14 {sc : Nat → Int32} {L k : Nat} {rec : Hp → Option Nat → Option Nat → Int32 → Option (Int32 × Hp)} (h : Ev E) (V : IV B i j d N r H s) (hB : B + 119988 ≤ 67108864) (hL : L ≤ 3072) (hk : k + 6 ≤ L) (hc : sc k &&& 31 = 14) : ∃ i4 j4 d4, f_law_b sc L rec (mk E i j d) (some (zA E 0)) (some (zA E 229)) (nI k) = rec (mk E i4 j4 d4) (some (zA E 0)) (some (zA E 229)) (nI (k + 6)) ∧ Inv (B + 119988) i4 j4 d4 := by
  obtain ⟨v, i2, j2, d2, i4, d4, eX, eM, I⟩ := a_perform h V hB
  unfold f_law_b
  rw [if_neg (fun z => absurd ((law_end hL (by omega)).mp z) (by omega)), scr_0 (by omega) hL, hc]
  rw [if_neg (by decide), if_neg (by decide), if_neg (by decide), if_neg (by decide), if_neg (by decide), if_neg (by decide), if_neg (by decide), if_neg (by decide), if_neg (by decide), if_neg (by decide), if_neg (by decide), if_neg (by decide), if_neg (by decide), if_neg (by decide), if_pos rfl, ob_X h, show f_X5_perform (mk E i j d) (zA E 0) = _ from eX, cl_go, ob_M h, show f_X6_perform (mk E i2 j2 d2) (zA E 229) = _ from eM, cl_go]
  rw [if_pos rfl, bnd_go, y_6]
  exact ⟨i4, j2, d4, rfl, I⟩
set_option maxHeartbeats 4000000 in
theorem law_c15 {sc : Nat → Int32} {L k : Nat} {rec : Hp → Option Nat → Option Nat → Int32 → Option (Int32 × Hp)} (h : Ev E) (V : IV B i j d N r H s) (hB : B + 119988 ≤ 67108864) (hL : L ≤ 3072) (hk : k + 6 ≤ L) (hc : sc k &&& 31 = 15) : ∃ i4 j4 d4, f_law_b sc L rec (mk E i j d) (some (zA E 0)) (some (zA E 229)) (nI k) = rec (mk E i4 j4 d4) (some (zA E 0)) (some (zA E 229)) (nI (k + 6)) ∧ Inv (B + 119988) i4 j4 d4 := by
  obtain ⟨v, i2, j2, d2, i4, d4, eX, eM, I⟩ := a_undo h V hB
  unfold f_law_b
  rw [if_neg (fun z => absurd ((law_end hL (by omega)).mp z) (by omega)), scr_0 (by omega) hL, hc]
  rw [if_neg (by decide), if_neg (by decide), if_neg (by decide), if_neg (by decide), if_neg (by decide), if_neg (by decide), if_neg (by decide), if_neg (by decide), if_neg (by decide), if_neg (by decide), if_neg (by decide), if_neg (by decide), if_neg (by decide), if_neg (by decide), if_neg (by decide), if_pos rfl, ob_X h, show f_X5_undo (mk E i j d) (zA E 0) = _ from eX, cl_go, ob_M h, show f_X6_undo (mk E i2 j2 d2) (zA E 229) = _ from eM, cl_go]
  rw [if_pos rfl, bnd_go, y_6]
  exact ⟨i4, j2, d4, rfl, I⟩
set_option maxHeartbeats 4000000 in
theorem law_c16 {sc : Nat → Int32} {L k : Nat} {rec : Hp → Option Nat → Option Nat → Int32 → Option (Int32 × Hp)} (h : Ev E) (V : IV B i j d N r H s) (hB : B + 119988 ≤ 67108864) (hL : L ≤ 3072) (hk : k + 6 ≤ L) (hc : sc k &&& 31 = 16) : ∃ i4 j4 d4, f_law_b sc L rec (mk E i j d) (some (zA E 0)) (some (zA E 229)) (nI k) = rec (mk E i4 j4 d4) (some (zA E 0)) (some (zA E 229)) (nI (k + 6)) ∧ Inv (B + 119988) i4 j4 d4 := by
  obtain ⟨v, i2, j2, d2, i4, d4, eX, eM, I⟩ := a_keep h V hB
  unfold f_law_b
  rw [if_neg (fun z => absurd ((law_end hL (by omega)).mp z) (by omega)), scr_0 (by omega) hL, hc]
  rw [if_neg (by decide), if_neg (by decide), if_neg (by decide), if_neg (by decide), if_neg (by decide), if_neg (by decide), if_neg (by decide), if_neg (by decide), if_neg (by decide), if_neg (by decide), if_neg (by decide), if_neg (by decide), if_neg (by decide), if_neg (by decide), if_neg (by decide), if_neg (by decide), if_pos rfl, ob_X h, show f_X5_keep (mk E i j d) (zA E 0) = _ from eX, cl_go, ob_M h, show f_X6_keep (mk E i2 j2 d2) (zA E 229) = _ from eM, cl_go]
  rw [if_pos rfl, bnd_go, y_6]
  exact ⟨i4, j2, d4, rfl, I⟩
set_option maxHeartbeats 4000000 in
theorem law_c17 {sc : Nat → Int32} {L k : Nat} {rec : Hp → Option Nat → Option Nat → Int32 → Option (Int32 × Hp)} (h : Ev E) (V : IV B i j d N r H s) (hB : B + 119988 ≤ 67108864) (hL : L ≤ 3072) (hk : k + 6 ≤ L) (hc : sc k &&& 31 = 17) : ∃ i4 j4 d4, f_law_b sc L rec (mk E i j d) (some (zA E 0)) (some (zA E 229)) (nI k) = rec (mk E i4 j4 d4) (some (zA E 0)) (some (zA E 229)) (nI (k + 6)) ∧ Inv (B + 119988) i4 j4 d4 := by
  obtain ⟨v, i2, j2, d2, i4, d4, eX, eM, I⟩ := a_restore h V hB
  unfold f_law_b
  rw [if_neg (fun z => absurd ((law_end hL (by omega)).mp z) (by omega)), scr_0 (by omega) hL, hc]
  rw [if_neg (by decide), if_neg (by decide), if_neg (by decide), if_neg (by decide), if_neg (by decide), if_neg (by decide), if_neg (by decide), if_neg (by decide), if_neg (by decide), if_neg (by decide), if_neg (by decide), if_neg (by decide), if_neg (by decide), if_neg (by decide), if_neg (by decide), if_neg (by decide), if_neg (by decide), if_pos rfl, ob_X h, show f_X5_restore (mk E i j d) (zA E 0) = _ from eX, cl_go, ob_M h, show f_X6_restore (mk E i2 j2 d2) (zA E 229) = _ from eM, cl_go]
  rw [if_pos rfl, bnd_go, y_6]
  exact ⟨i4, j2, d4, rfl, I⟩
set_option maxHeartbeats 4000000 in
theorem law_c18 {sc : Nat → Int32} {L k : Nat} {rec : Hp → Option Nat → Option Nat → Int32 → Option (Int32 × Hp)} (h : Ev E) (V : IV B i j d N r H s) (hB : B + 119988 ≤ 67108864) (hL : L ≤ 3072) (hk : k + 6 ≤ L) (hc : sc k &&& 31 = 18) : ∃ i4 j4 d4, f_law_b sc L rec (mk E i j d) (some (zA E 0)) (some (zA E 229)) (nI k) = rec (mk E i4 j4 d4) (some (zA E 0)) (some (zA E 229)) (nI (k + 6)) ∧ Inv (B + 119988) i4 j4 d4 := by
  obtain ⟨v, eX, eM⟩ := q_guide h V.r0 V.w0 (sc (k + 1)) (sc (k + 2))
  unfold f_law_b
  rw [if_neg (fun z => absurd ((law_end hL (by omega)).mp z) (by omega)), scr_0 (by omega) hL, hc]
  rw [if_neg (by decide), if_neg (by decide), if_neg (by decide), if_neg (by decide), if_neg (by decide), if_neg (by decide), if_neg (by decide), if_neg (by decide), if_neg (by decide), if_neg (by decide), if_neg (by decide), if_neg (by decide), if_neg (by decide), if_neg (by decide), if_neg (by decide), if_neg (by decide), if_neg (by decide), if_neg (by decide), if_pos rfl, scr_1 hk hL, scr_2 hk hL, ob_X h, show f_X5_guide (mk E i j d) (zA E 0) (sc (k + 1)) (sc (k + 2)) = _ from eX, cl_go, scr_1 hk hL, scr_2 hk hL, ob_M h, show f_X6_guide (mk E i j d) (zA E 229) (sc (k + 1)) (sc (k + 2)) = _ from eM, cl_go]
  rw [if_pos rfl, bnd_go, y_6]
  exact ⟨i, j, d, rfl, N, r, H, s, V.mono (by omega)⟩
set_option maxHeartbeats 4000000 in
theorem law_c19 {sc : Nat → Int32} {L k : Nat} {rec : Hp → Option Nat → Option Nat → Int32 → Option (Int32 × Hp)} (h : Ev E) (V : IV B i j d N r H s) (hB : B + 119988 ≤ 67108864) (hL : L ≤ 3072) (hk : k + 6 ≤ L) (hc : sc k &&& 31 = 19) : ∃ i4 j4 d4, f_law_b sc L rec (mk E i j d) (some (zA E 0)) (some (zA E 229)) (nI k) = rec (mk E i4 j4 d4) (some (zA E 0)) (some (zA E 229)) (nI (k + 6)) ∧ Inv (B + 119988) i4 j4 d4 := by
  obtain ⟨v, eX, eM⟩ := q_tour h V.r0 V.w0 (sc (k + 1)) (sc (k + 2))
  unfold f_law_b
  rw [if_neg (fun z => absurd ((law_end hL (by omega)).mp z) (by omega)), scr_0 (by omega) hL, hc]
  rw [if_neg (by decide), if_neg (by decide), if_neg (by decide), if_neg (by decide), if_neg (by decide), if_neg (by decide), if_neg (by decide), if_neg (by decide), if_neg (by decide), if_neg (by decide), if_neg (by decide), if_neg (by decide), if_neg (by decide), if_neg (by decide), if_neg (by decide), if_neg (by decide), if_neg (by decide), if_neg (by decide), if_neg (by decide), if_pos rfl, scr_1 hk hL, scr_2 hk hL, ob_X h, show f_X5_tour (mk E i j d) (zA E 0) (sc (k + 1)) (sc (k + 2)) = _ from eX, cl_go, scr_1 hk hL, scr_2 hk hL, ob_M h, show f_X6_tour (mk E i j d) (zA E 229) (sc (k + 1)) (sc (k + 2)) = _ from eM, cl_go]
  rw [if_pos rfl, bnd_go, y_6]
  exact ⟨i, j, d, rfl, N, r, H, s, V.mono (by omega)⟩
set_option maxHeartbeats 4000000 in
theorem law_c20 {sc : Nat → Int32} {L k : Nat} {rec : Hp → Option Nat → Option Nat → Int32 → Option (Int32 × Hp)} (h : Ev E) (V : IV B i j d N r H s) (hB : B + 119988 ≤ 67108864) (hL : L ≤ 3072) (hk : k + 6 ≤ L) (hc : sc k &&& 31 = 20) : ∃ i4 j4 d4, f_law_b sc L rec (mk E i j d) (some (zA E 0)) (some (zA E 229)) (nI k) = rec (mk E i4 j4 d4) (some (zA E 0)) (some (zA E 229)) (nI (k + 6)) ∧ Inv (B + 119988) i4 j4 d4 := by
  obtain ⟨v, eX, eM⟩ := q_rope h V.r0 V.w0 (sc (k + 1)) (sc (k + 2)) (sc (k + 3))
  unfold f_law_b
  rw [if_neg (fun z => absurd ((law_end hL (by omega)).mp z) (by omega)), scr_0 (by omega) hL, hc]
  rw [if_neg (by decide), if_neg (by decide), if_neg (by decide), if_neg (by decide), if_neg (by decide), if_neg (by decide), if_neg (by decide), if_neg (by decide), if_neg (by decide), if_neg (by decide), if_neg (by decide), if_neg (by decide), if_neg (by decide), if_neg (by decide), if_neg (by decide), if_neg (by decide), if_neg (by decide), if_neg (by decide), if_neg (by decide), if_neg (by decide), if_pos rfl, scr_1 hk hL, scr_2 hk hL, scr_3 hk hL, ob_X h, show f_X5_rope (mk E i j d) (zA E 0) (sc (k + 1)) (sc (k + 2)) (sc (k + 3)) = _ from eX, cl_go, scr_1 hk hL, scr_2 hk hL, scr_3 hk hL, ob_M h, show f_X6_rope (mk E i j d) (zA E 229) (sc (k + 1)) (sc (k + 2)) (sc (k + 3)) = _ from eM, cl_go]
  rw [if_pos rfl, bnd_go, y_6]
  exact ⟨i, j, d, rfl, N, r, H, s, V.mono (by omega)⟩
set_option maxHeartbeats 4000000 in
theorem law_c21 {sc : Nat → Int32} {L k : Nat} {rec : Hp → Option Nat → Option Nat → Int32 → Option (Int32 × Hp)} (h : Ev E) (V : IV B i j d N r H s) (hB : B + 119988 ≤ 67108864) (hL : L ≤ 3072) (hk : k + 6 ≤ L) (hc : sc k &&& 31 = 21) : ∃ i4 j4 d4, f_law_b sc L rec (mk E i j d) (some (zA E 0)) (some (zA E 229)) (nI k) = rec (mk E i4 j4 d4) (some (zA E 0)) (some (zA E 229)) (nI (k + 6)) ∧ Inv (B + 119988) i4 j4 d4 := by
  obtain ⟨v, eX, eM⟩ := q_thick h V.r0 V.w0 (sc (k + 1))
  unfold f_law_b
  rw [if_neg (fun z => absurd ((law_end hL (by omega)).mp z) (by omega)), scr_0 (by omega) hL, hc]
  rw [if_neg (by decide), if_neg (by decide), if_neg (by decide), if_neg (by decide), if_neg (by decide), if_neg (by decide), if_neg (by decide), if_neg (by decide), if_neg (by decide), if_neg (by decide), if_neg (by decide), if_neg (by decide), if_neg (by decide), if_neg (by decide), if_neg (by decide), if_neg (by decide), if_neg (by decide), if_neg (by decide), if_neg (by decide), if_neg (by decide), if_neg (by decide), if_pos rfl, scr_1 hk hL, ob_X h, show f_X5_thickness (mk E i j d) (zA E 0) (sc (k + 1)) = _ from eX, cl_go, scr_1 hk hL, ob_M h, show f_X6_thickness (mk E i j d) (zA E 229) (sc (k + 1)) = _ from eM, cl_go]
  by_cases c : (Op.cmpValue (FP.dcmp v v) CmpOp.l) = 0
  · rw [if_pos c, bnd_go, y_6]
    exact ⟨i, j, d, rfl, N, r, H, s, V.mono (by omega)⟩
  · rw [if_neg c, if_neg c, if_neg c, bnd_go, y_6]
    exact ⟨i, j, d, rfl, N, r, H, s, V.mono (by omega)⟩
set_option maxHeartbeats 4000000 in
theorem law_c22 {sc : Nat → Int32} {L k : Nat} {rec : Hp → Option Nat → Option Nat → Int32 → Option (Int32 × Hp)} (h : Ev E) (V : IV B i j d N r H s) (hB : B + 119988 ≤ 67108864) (hL : L ≤ 3072) (hk : k + 6 ≤ L) (hc : sc k &&& 31 = 22) : ∃ i4 j4 d4, f_law_b sc L rec (mk E i j d) (some (zA E 0)) (some (zA E 229)) (nI k) = rec (mk E i4 j4 d4) (some (zA E 0)) (some (zA E 229)) (nI (k + 6)) ∧ Inv (B + 119988) i4 j4 d4 := by
  obtain ⟨v, eX, eM⟩ := q_fore h V.r0 V.w0 (sc (k + 1)) (sc (k + 2))
  unfold f_law_b
  rw [if_neg (fun z => absurd ((law_end hL (by omega)).mp z) (by omega)), scr_0 (by omega) hL, hc]
  rw [if_neg (by decide), if_neg (by decide), if_neg (by decide), if_neg (by decide), if_neg (by decide), if_neg (by decide), if_neg (by decide), if_neg (by decide), if_neg (by decide), if_neg (by decide), if_neg (by decide), if_neg (by decide), if_neg (by decide), if_neg (by decide), if_neg (by decide), if_neg (by decide), if_neg (by decide), if_neg (by decide), if_neg (by decide), if_neg (by decide), if_neg (by decide), if_neg (by decide), if_pos rfl, scr_1 hk hL, scr_2 hk hL, ob_X h, show f_X5_foretold (mk E i j d) (zA E 0) (sc (k + 1)) (sc (k + 2)) = _ from eX, cl_go, scr_1 hk hL, scr_2 hk hL, ob_M h, show f_X6_foretold (mk E i j d) (zA E 229) (sc (k + 1)) (sc (k + 2)) = _ from eM, cl_go]
  by_cases c : (Op.cmpValue (FP.dcmp v v) CmpOp.l) = 0
  · rw [if_pos c, bnd_go, y_6]
    exact ⟨i, j, d, rfl, N, r, H, s, V.mono (by omega)⟩
  · rw [if_neg c, if_neg c, if_neg c, bnd_go, y_6]
    exact ⟨i, j, d, rfl, N, r, H, s, V.mono (by omega)⟩
set_option maxHeartbeats 4000000 in
theorem law_c23 {sc : Nat → Int32} {L k : Nat} {rec : Hp → Option Nat → Option Nat → Int32 → Option (Int32 × Hp)} (h : Ev E) (V : IV B i j d N r H s) (hB : B + 119988 ≤ 67108864) (hL : L ≤ 3072) (hk : k + 6 ≤ L) (hc : sc k &&& 31 = 23) : ∃ i4 j4 d4, f_law_b sc L rec (mk E i j d) (some (zA E 0)) (some (zA E 229)) (nI k) = rec (mk E i4 j4 d4) (some (zA E 0)) (some (zA E 229)) (nI (k + 6)) ∧ Inv (B + 119988) i4 j4 d4 := by
  obtain ⟨v, eX, eM⟩ := q_needed h V.r0 V.w0 (sc (k + 1))
  unfold f_law_b
  rw [if_neg (fun z => absurd ((law_end hL (by omega)).mp z) (by omega)), scr_0 (by omega) hL, hc]
  rw [if_neg (by decide), if_neg (by decide), if_neg (by decide), if_neg (by decide), if_neg (by decide), if_neg (by decide), if_neg (by decide), if_neg (by decide), if_neg (by decide), if_neg (by decide), if_neg (by decide), if_neg (by decide), if_neg (by decide), if_neg (by decide), if_neg (by decide), if_neg (by decide), if_neg (by decide), if_neg (by decide), if_neg (by decide), if_neg (by decide), if_neg (by decide), if_neg (by decide), if_neg (by decide), if_pos rfl, scr_1 hk hL, ob_X h, show f_X5_needed (mk E i j d) (zA E 0) (sc (k + 1)) = _ from eX, cl_go, scr_1 hk hL, ob_M h, show f_X6_needed (mk E i j d) (zA E 229) (sc (k + 1)) = _ from eM, cl_go]
  by_cases c : (Op.cmpValue (FP.dcmp v v) CmpOp.l) = 0
  · rw [if_pos c, bnd_go, y_6]
    exact ⟨i, j, d, rfl, N, r, H, s, V.mono (by omega)⟩
  · rw [if_neg c, if_neg c, if_neg c, bnd_go, y_6]
    exact ⟨i, j, d, rfl, N, r, H, s, V.mono (by omega)⟩
set_option maxHeartbeats 4000000 in
theorem law_c24 {sc : Nat → Int32} {L k : Nat} {rec : Hp → Option Nat → Option Nat → Int32 → Option (Int32 × Hp)} (h : Ev E) (V : IV B i j d N r H s) (hB : B + 119988 ≤ 67108864) (hL : L ≤ 3072) (hk : k + 6 ≤ L) (hc : sc k &&& 31 = 24) : ∃ i4 j4 d4, f_law_b sc L rec (mk E i j d) (some (zA E 0)) (some (zA E 229)) (nI k) = rec (mk E i4 j4 d4) (some (zA E 0)) (some (zA E 229)) (nI (k + 6)) ∧ Inv (B + 119988) i4 j4 d4 := by
  obtain ⟨v, eX, eM⟩ := q_holds h V.r0 V.w0 (sc (k + 1)) (sc (k + 2))
  unfold f_law_b
  rw [if_neg (fun z => absurd ((law_end hL (by omega)).mp z) (by omega)), scr_0 (by omega) hL, hc]
  rw [if_neg (by decide), if_neg (by decide), if_neg (by decide), if_neg (by decide), if_neg (by decide), if_neg (by decide), if_neg (by decide), if_neg (by decide), if_neg (by decide), if_neg (by decide), if_neg (by decide), if_neg (by decide), if_neg (by decide), if_neg (by decide), if_neg (by decide), if_neg (by decide), if_neg (by decide), if_neg (by decide), if_neg (by decide), if_neg (by decide), if_neg (by decide), if_neg (by decide), if_neg (by decide), if_neg (by decide), if_pos rfl, scr_1 hk hL, scr_2 hk hL, ob_X h, show f_X5_holds (mk E i j d) (zA E 0) (sc (k + 1)) (sc (k + 2)) = _ from eX, cl_go, scr_1 hk hL, scr_2 hk hL, ob_M h, show f_X6_holds (mk E i j d) (zA E 229) (sc (k + 1)) (sc (k + 2)) = _ from eM, cl_go]
  rw [if_pos rfl, bnd_go, y_6]
  exact ⟨i, j, d, rfl, N, r, H, s, V.mono (by omega)⟩
set_option maxHeartbeats 4000000 in
theorem law_c25 {sc : Nat → Int32} {L k : Nat} {rec : Hp → Option Nat → Option Nat → Int32 → Option (Int32 × Hp)} (h : Ev E) (V : IV B i j d N r H s) (hB : B + 119988 ≤ 67108864) (hL : L ≤ 3072) (hk : k + 6 ≤ L) (hc : sc k &&& 31 = 25) : ∃ i4 j4 d4, f_law_b sc L rec (mk E i j d) (some (zA E 0)) (some (zA E 229)) (nI k) = rec (mk E i4 j4 d4) (some (zA E 0)) (some (zA E 229)) (nI (k + 6)) ∧ Inv (B + 119988) i4 j4 d4 := by
  obtain ⟨v, eX, eM⟩ := q_best h V.r0 V.w0 (sc (k + 1))
  unfold f_law_b
  rw [if_neg (fun z => absurd ((law_end hL (by omega)).mp z) (by omega)), scr_0 (by omega) hL, hc]
  rw [if_neg (by decide), if_neg (by decide), if_neg (by decide), if_neg (by decide), if_neg (by decide), if_neg (by decide), if_neg (by decide), if_neg (by decide), if_neg (by decide), if_neg (by decide), if_neg (by decide), if_neg (by decide), if_neg (by decide), if_neg (by decide), if_neg (by decide), if_neg (by decide), if_neg (by decide), if_neg (by decide), if_neg (by decide), if_neg (by decide), if_neg (by decide), if_neg (by decide), if_neg (by decide), if_neg (by decide), if_neg (by decide), if_pos rfl, scr_1 hk hL, ob_X h, show f_X5_bestGuide (mk E i j d) (zA E 0) (sc (k + 1)) = _ from eX, cl_go, scr_1 hk hL, ob_M h, show f_X6_bestGuide (mk E i j d) (zA E 229) (sc (k + 1)) = _ from eM, cl_go]
  rw [if_pos rfl, bnd_go, y_6]
  exact ⟨i, j, d, rfl, N, r, H, s, V.mono (by omega)⟩
set_option maxHeartbeats 4000000 in
theorem law_c26 {sc : Nat → Int32} {L k : Nat} {rec : Hp → Option Nat → Option Nat → Int32 → Option (Int32 × Hp)} (h : Ev E) (V : IV B i j d N r H s) (hB : B + 119988 ≤ 67108864) (hL : L ≤ 3072) (hk : k + 6 ≤ L) (hc : sc k &&& 31 = 26) : ∃ i4 j4 d4, f_law_b sc L rec (mk E i j d) (some (zA E 0)) (some (zA E 229)) (nI k) = rec (mk E i4 j4 d4) (some (zA E 0)) (some (zA E 229)) (nI (k + 6)) ∧ Inv (B + 119988) i4 j4 d4 := by
  obtain ⟨v, eX, eM⟩ := q_takes h V.r0 V.w0 (sc (k + 1)) (sc (k + 2))
  unfold f_law_b
  rw [if_neg (fun z => absurd ((law_end hL (by omega)).mp z) (by omega)), scr_0 (by omega) hL, hc]
  rw [if_neg (by decide), if_neg (by decide), if_neg (by decide), if_neg (by decide), if_neg (by decide), if_neg (by decide), if_neg (by decide), if_neg (by decide), if_neg (by decide), if_neg (by decide), if_neg (by decide), if_neg (by decide), if_neg (by decide), if_neg (by decide), if_neg (by decide), if_neg (by decide), if_neg (by decide), if_neg (by decide), if_neg (by decide), if_neg (by decide), if_neg (by decide), if_neg (by decide), if_neg (by decide), if_neg (by decide), if_neg (by decide), if_neg (by decide), if_pos rfl, scr_1 hk hL, scr_2 hk hL, ob_X h, show f_X5_takes (mk E i j d) (zA E 0) (sc (k + 1)) (sc (k + 2)) = _ from eX, cl_go, scr_1 hk hL, scr_2 hk hL, ob_M h, show f_X6_takes (mk E i j d) (zA E 229) (sc (k + 1)) (sc (k + 2)) = _ from eM, cl_go]
  rw [if_pos rfl, bnd_go, y_6]
  exact ⟨i, j, d, rfl, N, r, H, s, V.mono (by omega)⟩
set_option maxHeartbeats 4000000 in
theorem law_c27 {sc : Nat → Int32} {L k : Nat} {rec : Hp → Option Nat → Option Nat → Int32 → Option (Int32 × Hp)} (h : Ev E) (V : IV B i j d N r H s) (hB : B + 119988 ≤ 67108864) (hL : L ≤ 3072) (hk : k + 6 ≤ L) (hc : sc k &&& 31 = 27) : ∃ i4 j4 d4, f_law_b sc L rec (mk E i j d) (some (zA E 0)) (some (zA E 229)) (nI k) = rec (mk E i4 j4 d4) (some (zA E 0)) (some (zA E 229)) (nI (k + 6)) ∧ Inv (B + 119988) i4 j4 d4 := by
  obtain ⟨v, eX, eM⟩ := q_count h V.r0 V.w0 (by have z1 := V.2.2.1.1.1; obtain ⟨o, -, -, z2, -⟩ := V.2.2.1.2.1; rw [z1, z2]) (by obtain ⟨-, l, -, z1, z2⟩ := V.2.2.2.2; rw [z1, z2]) (sc (k + 1))
  unfold f_law_b
  rw [if_neg (fun z => absurd ((law_end hL (by omega)).mp z) (by omega)), scr_0 (by omega) hL, hc]
  rw [if_neg (by decide), if_neg (by decide), if_neg (by decide), if_neg (by decide), if_neg (by decide), if_neg (by decide), if_neg (by decide), if_neg (by decide), if_neg (by decide), if_neg (by decide), if_neg (by decide), if_neg (by decide), if_neg (by decide), if_neg (by decide), if_neg (by decide), if_neg (by decide), if_neg (by decide), if_neg (by decide), if_neg (by decide), if_neg (by decide), if_neg (by decide), if_neg (by decide), if_neg (by decide), if_neg (by decide), if_neg (by decide), if_neg (by decide), if_neg (by decide), if_pos rfl, scr_1 hk hL, ob_X h, show f_X5_count (mk E i j d) (zA E 0) (sc (k + 1)) = _ from eX, cl_go, scr_1 hk hL, ob_M h, show f_X6_count (mk E i j d) (zA E 229) (sc (k + 1)) = _ from eM, cl_go]
  rw [if_pos rfl, bnd_go, y_6]
  exact ⟨i, j, d, rfl, N, r, H, s, V.mono (by omega)⟩
set_option maxHeartbeats 4000000 in
theorem law_c28 {sc : Nat → Int32} {L k : Nat} {rec : Hp → Option Nat → Option Nat → Int32 → Option (Int32 × Hp)} (h : Ev E) (V : IV B i j d N r H s) (hB : B + 119988 ≤ 67108864) (hL : L ≤ 3072) (hk : k + 6 ≤ L) (hc : sc k &&& 31 = 28) : ∃ i4 j4 d4, f_law_b sc L rec (mk E i j d) (some (zA E 0)) (some (zA E 229)) (nI k) = rec (mk E i4 j4 d4) (some (zA E 0)) (some (zA E 229)) (nI (k + 6)) ∧ Inv (B + 119988) i4 j4 d4 := by
  obtain ⟨v, eX, eM⟩ := q_temp h V.r0 V.w0
  unfold f_law_b
  rw [if_neg (fun z => absurd ((law_end hL (by omega)).mp z) (by omega)), scr_0 (by omega) hL, hc]
  rw [if_neg (by decide), if_neg (by decide), if_neg (by decide), if_neg (by decide), if_neg (by decide), if_neg (by decide), if_neg (by decide), if_neg (by decide), if_neg (by decide), if_neg (by decide), if_neg (by decide), if_neg (by decide), if_neg (by decide), if_neg (by decide), if_neg (by decide), if_neg (by decide), if_neg (by decide), if_neg (by decide), if_neg (by decide), if_neg (by decide), if_neg (by decide), if_neg (by decide), if_neg (by decide), if_neg (by decide), if_neg (by decide), if_neg (by decide), if_neg (by decide), if_neg (by decide), if_pos rfl, ob_X h, show f_X5_temperature (mk E i j d) (zA E 0) = _ from eX, cl_go, ob_M h, show f_X6_temperature (mk E i j d) (zA E 229) = _ from eM, cl_go]
  rw [if_pos (lg_self v), bnd_go, y_6]
  exact ⟨i, j, d, rfl, N, r, H, s, V.mono (by omega)⟩
set_option maxHeartbeats 4000000 in
theorem law_c29 {sc : Nat → Int32} {L k : Nat} {rec : Hp → Option Nat → Option Nat → Int32 → Option (Int32 × Hp)} (h : Ev E) (V : IV B i j d N r H s) (hL : L ≤ 3072) (hk : k + 6 ≤ L) (hc : ¬ sc k &&& 31 = 0 ∧ ¬ sc k &&& 31 = 1 ∧ ¬ sc k &&& 31 = 2 ∧ ¬ sc k &&& 31 = 3 ∧ ¬ sc k &&& 31 = 4 ∧ ¬ sc k &&& 31 = 5 ∧ ¬ sc k &&& 31 = 6 ∧ ¬ sc k &&& 31 = 7 ∧ ¬ sc k &&& 31 = 8 ∧ ¬ sc k &&& 31 = 9 ∧ ¬ sc k &&& 31 = 10 ∧ ¬ sc k &&& 31 = 11 ∧ ¬ sc k &&& 31 = 12 ∧ ¬ sc k &&& 31 = 13 ∧ ¬ sc k &&& 31 = 14 ∧ ¬ sc k &&& 31 = 15 ∧ ¬ sc k &&& 31 = 16 ∧ ¬ sc k &&& 31 = 17 ∧ ¬ sc k &&& 31 = 18 ∧ ¬ sc k &&& 31 = 19 ∧ ¬ sc k &&& 31 = 20 ∧ ¬ sc k &&& 31 = 21 ∧ ¬ sc k &&& 31 = 22 ∧ ¬ sc k &&& 31 = 23 ∧ ¬ sc k &&& 31 = 24 ∧ ¬ sc k &&& 31 = 25 ∧ ¬ sc k &&& 31 = 26 ∧ ¬ sc k &&& 31 = 27 ∧ ¬ sc k &&& 31 = 28) : ∃ i4 j4 d4, f_law_b sc L rec (mk E i j d) (some (zA E 0)) (some (zA E 229)) (nI k) = rec (mk E i4 j4 d4) (some (zA E 0)) (some (zA E 229)) (nI (k + 6)) ∧ Inv (B + 119988) i4 j4 d4 := by
  obtain ⟨c0, c1, c2, c3, c4, c5, c6, c7, c8, c9, c10, c11, c12, c13, c14, c15, c16, c17, c18, c19, c20, c21, c22, c23, c24, c25, c26, c27, c28⟩ := hc
  unfold f_law_b
  rw [if_neg (fun z => absurd ((law_end hL (by omega)).mp z) (by omega)), scr_0 (by omega) hL]
  rw [if_neg c0, if_neg c1, if_neg c2, if_neg c3, if_neg c4, if_neg c5, if_neg c6, if_neg c7, if_neg c8, if_neg c9, if_neg c10, if_neg c11, if_neg c12, if_neg c13, if_neg c14, if_neg c15, if_neg c16, if_neg c17, if_neg c18, if_neg c19, if_neg c20, if_neg c21, if_neg c22, if_neg c23, if_neg c24, if_neg c25, if_neg c26, if_neg c27, if_neg c28, bnd_go, y_6]
  exact ⟨i, j, d, rfl, N, r, H, s, V.mono (by omega)⟩
theorem law_step {sc : Nat → Int32} {L k : Nat} {rec : Hp → Option Nat → Option Nat → Int32 → Option (Int32 × Hp)} (h : Ev E) (I : Inv B i j d) (hB : B + 119988 ≤ 67108864) (hL : L ≤ 3072) (hk : k + 6 ≤ L) : ∃ i4 j4 d4, f_law_b sc L rec (mk E i j d) (some (zA E 0)) (some (zA E 229)) (nI k) = rec (mk E i4 j4 d4) (some (zA E 0)) (some (zA E 229)) (nI (k + 6)) ∧ Inv (B + 119988) i4 j4 d4 := by
  obtain ⟨N, r, H, s, V⟩ := I
  by_cases c0 : sc k &&& 31 = 0
  · exact law_c0 h V hB hL hk c0
  by_cases c1 : sc k &&& 31 = 1
  · exact law_c1 h V hB hL hk c1
  by_cases c2 : sc k &&& 31 = 2
  · exact law_c2 h V hB hL hk c2
  by_cases c3 : sc k &&& 31 = 3
  · exact law_c3 h V hB hL hk c3
  by_cases c4 : sc k &&& 31 = 4
  · exact law_c4 h V hB hL hk c4
  by_cases c5 : sc k &&& 31 = 5
  · exact law_c5 h V hB hL hk c5
  by_cases c6 : sc k &&& 31 = 6
  · exact law_c6 h V hB hL hk c6
  by_cases c7 : sc k &&& 31 = 7
  · exact law_c7 h V hB hL hk c7
  by_cases c8 : sc k &&& 31 = 8
  · exact law_c8 h V hB hL hk c8
  by_cases c9 : sc k &&& 31 = 9
  · exact law_c9 h V hB hL hk c9
  by_cases c10 : sc k &&& 31 = 10
  · exact law_c10 h V hB hL hk c10
  by_cases c11 : sc k &&& 31 = 11
  · exact law_c11 h V hB hL hk c11
  by_cases c12 : sc k &&& 31 = 12
  · exact law_c12 h V hB hL hk c12
  by_cases c13 : sc k &&& 31 = 13
  · exact law_c13 h V hB hL hk c13
  by_cases c14 : sc k &&& 31 = 14
  · exact law_c14 h V hB hL hk c14
  by_cases c15 : sc k &&& 31 = 15
  · exact law_c15 h V hB hL hk c15
  by_cases c16 : sc k &&& 31 = 16
  · exact law_c16 h V hB hL hk c16
  by_cases c17 : sc k &&& 31 = 17
  · exact law_c17 h V hB hL hk c17
  by_cases c18 : sc k &&& 31 = 18
  · exact law_c18 h V hB hL hk c18
  by_cases c19 : sc k &&& 31 = 19
  · exact law_c19 h V hB hL hk c19
  by_cases c20 : sc k &&& 31 = 20
  · exact law_c20 h V hB hL hk c20
  by_cases c21 : sc k &&& 31 = 21
  · exact law_c21 h V hB hL hk c21
  by_cases c22 : sc k &&& 31 = 22
  · exact law_c22 h V hB hL hk c22
  by_cases c23 : sc k &&& 31 = 23
  · exact law_c23 h V hB hL hk c23
  by_cases c24 : sc k &&& 31 = 24
  · exact law_c24 h V hB hL hk c24
  by_cases c25 : sc k &&& 31 = 25
  · exact law_c25 h V hB hL hk c25
  by_cases c26 : sc k &&& 31 = 26
  · exact law_c26 h V hB hL hk c26
  by_cases c27 : sc k &&& 31 = 27
  · exact law_c27 h V hB hL hk c27
  by_cases c28 : sc k &&& 31 = 28
  · exact law_c28 h V hB hL hk c28
  exact law_c29 h V hL hk ⟨c0, c1, c2, c3, c4, c5, c6, c7, c8, c9, c10, c11, c12, c13, c14, c15, c16, c17, c18, c19, c20, c21, c22, c23, c24, c25, c26, c27, c28⟩
theorem law_run {sc : Nat → Int32} {L : Nat} (h : Ev E) (hL : L ≤ 3072) : ∀ fuel n i j d, Inv (119988 * n) i j d → 6 * n ≤ L → L + 6 ≤ 6 * n + 6 * fuel → ∃ S', f_law sc L fuel (mk E i j d) (some (zA E 0)) (some (zA E 229)) (nI (6 * n)) = some ((1 : Int32), S')
  | 0, n, i, j, d, _, h1, h2 => by omega
  | fuel + 1, n, i, j, d, I, h1, h2 => by
    show ∃ S', f_law_b sc L (f_law sc L fuel) _ _ _ _ = _
    by_cases c : L < 6 * n + 6
    · refine ⟨mk E i j d, ?_⟩
      unfold f_law_b
      rw [if_pos ((law_end hL (by omega)).mpr c)]
    · obtain ⟨i4, j4, d4, e, I4⟩ := law_step (sc := sc) (rec := f_law sc L fuel) h I (by omega) hL (show 6 * n + 6 ≤ L by omega)
      rw [e]
      exact law_run h hL fuel (n + 1) i4 j4 d4 I4 (by omega) (by omega)
theorem cN0 (x : Nat) : cN (fun _ => (0 : Int32)) x = 0 := rfl
theorem sP0 : ∀ n, sPaid (fun _ => (0 : Int32)) n = 0
  | 0 => rfl
  | n + 1 => by
    show sPaid (fun _ => (0 : Int32)) n + cN (fun _ => (0 : Int32)) (40 + 14 * n + 5) = 0
    rw [sP0 n, cN0]
theorem Cn0 (x b : Nat) : Cn (fun _ => (0 : Int32)) x b := ⟨by rw [cN0]; rfl, by rw [cN0]; exact Nat.zero_le _⟩
theorem inv_0 : Inv 0 (fun _ _ => 0) (fun _ _ => 0) (fun _ _ => 0) := by
  have wf : WF 0 (fun _ => (0 : Int32)) (fun _ => (0 : UInt64)) := by
    refine ⟨⟨⟨Cn0 _ _, Cn0 _ _, Cn0 _ _⟩, fun g hg => ?_, fun t ht => ?_, ⟨fun _ _ => rfl, fun _ _ => rfl⟩, Or.inl (by decide), fun b hb => (show (0 : UInt64).toNat ≤ 4647503709213818880 by decide)⟩, fun t ht => Cn0 _ _, by rw [sP0]; exact Nat.le_refl _⟩
    · rw [cN0] at hg; omega
    · rw [cN0] at ht; omega
  refine ⟨fun _ => 0, fun _ => 0, [], none, ⟨rfl, rfl⟩, ⟨⟨⟨rfl, rfl, rfl, rfl, rfl, rfl, rfl⟩, fun g hg => ?_, fun b hb => rfl, fun t ht => ?_⟩, wf⟩, ⟨⟨rfl, Nat.zero_le _, fun k q e => ?_⟩, ⟨0, by decide, rfl, rfl, Nat.zero_le _, fun k q e => ?_⟩, fun k q e => ?_⟩, ⟨⟨fun _ => rfl, fun q e => ?_⟩, ⟨fun _ => rfl, fun q e => ?_⟩, fun q e => ?_⟩, rfl, 0, by decide, rfl, rfl⟩
  · rw [cN0] at hg; omega
  · rw [cN0] at ht; omega
  · rw [List.getElem?_nil] at e; cases e
  · rw [List.getElem?_nil] at e; cases e
  · rw [List.getElem?_nil] at e; cases e
  · cases e
  · cases e
  · cases e
end LOOP
theorem pure_law (sc : Nat → Int32) (L : Nat) (hL : L ≤ 3072) (S : Hp) (h : Ini S) : ∃ S', f_law sc L 1000 S (some (zA S 0)) (some (zA S 229)) 0 = some ((1 : Int32), S') := by
  have e := ini_mk h
  have ev : Ev S := ⟨⟨h.2.1, h.1⟩, h.2.2.1, h.2.2.2.1⟩
  have := law_run (sc := sc) ev hL 1000 0 _ _ _ inv_0 (by omega) (by omega)
  rw [e] at this
  exact this
