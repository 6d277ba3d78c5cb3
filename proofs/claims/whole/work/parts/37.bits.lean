/-! Long.bitCount, Integer.bitCount -/
def mk8 (m : Nat) : Nat → Nat
  | 0 => 0
  | j + 1 => 256 * mk8 m j + m
theorem sp8 {x m : Nat} (y m' : Nat) (hx : x < 256) (hm : m < 256) : (256 * y + x) &&& (256 * m' + m) = 256 * (y &&& m') + (x &&& m) := by
  have hxm : x &&& m < 2 ^ 8 := Nat.lt_of_le_of_lt Nat.and_le_left hx
  apply Nat.eq_of_testBit_eq
  intro i
  rw [Nat.testBit_and, show 256 = 2 ^ 8 from rfl, Nat.testBit_two_pow_mul_add _ (show x < 2 ^ 8 from hx), Nat.testBit_two_pow_mul_add _ (show m < 2 ^ 8 from hm), Nat.testBit_two_pow_mul_add _ hxm]
  split
  · rw [Nat.testBit_and]
  · rw [Nat.testBit_and]
def S1 (j b : Nat) : Nat := b - (b / 2 &&& mk8 85 j)
def S2 (j y : Nat) : Nat := (y &&& mk8 51 j) + (y / 4 &&& mk8 51 j)
def S3 (j z : Nat) : Nat := (z + z / 16) &&& mk8 15 j
def s1 (v : Nat) : Nat := v - (v / 2 &&& 85)
def s2 (w : Nat) : Nat := (w &&& 51) + (w / 4 &&& 51)
def s3 (u : Nat) : Nat := (u + u / 16) &&& 15
theorem d1 : ∀ v, v < 256 → ∀ c, c < 2 → (128 * c + v / 2) &&& 85 = v / 2 &&& 85 := by decide +kernel
theorem d2 : ∀ v, v < 256 → ∀ c, c < 4 → (64 * c + v / 4) &&& 51 = v / 4 &&& 51 := by decide +kernel
theorem d3 : ∀ u, u < 69 → ∀ c, c < 5 → (16 * c + (u + u / 16)) &&& 15 = (u + u / 16) &&& 15 := by decide +kernel
theorem d4 : ∀ v, v < 256 → s1 v < 256 ∧ s2 (s1 v) < 69 ∧ s2 (s1 v) % 16 < 5 ∧ s3 (s2 (s1 v)) = cnt (fun k => v.testBit k) 8 := by decide +kernel
theorem S1_s (j b v : Nat) (hv : v < 256) : S1 (j + 1) (256 * b + v) = 256 * S1 j b + s1 v := by
  unfold S1 s1
  have e : (256 * b + v) / 2 = 256 * (b / 2) + (128 * (b % 2) + v / 2) := by omega
  rw [e, mk8, sp8 _ _ (by omega) (by omega), d1 v hv _ (by omega)]
  have h1 : b / 2 &&& mk8 85 j ≤ b / 2 := Nat.and_le_left
  have h2 : v / 2 &&& 85 ≤ v / 2 := Nat.and_le_left
  omega
theorem S2_s (j y w : Nat) (hw : w < 256) : S2 (j + 1) (256 * y + w) = 256 * S2 j y + s2 w := by
  unfold S2 s2
  have e : (256 * y + w) / 4 = 256 * (y / 4) + (64 * (y % 4) + w / 4) := by omega
  rw [e, mk8, sp8 _ _ hw (by omega), sp8 _ _ (by omega) (by omega), d2 w hw _ (by omega)]
  omega
theorem S3_s (j z u : Nat) (hu : u < 69) (hz : z % 16 < 5) : S3 (j + 1) (256 * z + u) = 256 * S3 j z + s3 u := by
  unfold S3 s3
  have e : 256 * z + u + (256 * z + u) / 16 = 256 * (z + z / 16) + (16 * (z % 16) + (u + u / 16)) := by omega
  rw [e, mk8, sp8 _ _ (by omega) (by omega), d3 u hu _ hz]
theorem S2_16 : ∀ (j b : Nat), S2 j (S1 j b) % 16 < 5
  | 0, b => by simp [S2, mk8]
  | j + 1, b => by
    obtain ⟨q, v, hv, rfl⟩ : ∃ q v, v < 256 ∧ b = 256 * q + v := ⟨b / 256, b % 256, Nat.mod_lt _ (by omega), by omega⟩
    have h := d4 v hv
    rw [S1_s j q v hv, S2_s j _ _ h.1]
    omega
def P8 (j b : Nat) : Nat := S3 j (S2 j (S1 j b))
def c8 (v : Nat) : Nat := cnt (fun k => v.testBit k) 8
theorem P8_s (j b v : Nat) (hv : v < 256) : P8 (j + 1) (256 * b + v) = 256 * P8 j b + c8 v := by
  have h := d4 v hv
  unfold P8 c8
  rw [S1_s j b v hv, S2_s j _ _ h.1, S3_s j _ _ h.2.1 (S2_16 j b), h.2.2.2]
theorem P8_z : ∀ j, P8 j 0 = 0
  | 0 => rfl
  | j + 1 => by
    have := P8_s j 0 0 (by omega)
    rw [P8_z j] at this
    simpa [c8, cnt] using this
theorem c8_le (v : Nat) : c8 v ≤ 8 := cnt_le _ 8
theorem cnt_cong {B C : Nat → Bool} : ∀ n, (∀ k, k < n → B k = C k) → cnt B n = cnt C n
  | 0, _ => rfl
  | n + 1, h => by simp only [cnt]; rw [cnt_cong n (fun k hk => h k (by omega)), h n (by omega)]
theorem cnt_add (B : Nat → Bool) (m : Nat) : ∀ n, cnt B (m + n) = cnt B m + cnt (fun k => B (m + k)) n
  | 0 => rfl
  | n + 1 => by
    have := cnt_add B m n
    rw [show m + (n + 1) = m + n + 1 by omega]
    simp only [cnt]
    omega
theorem cnt_8 (q v n : Nat) (hv : v < 256) : cnt (fun k => (256 * q + v).testBit k) (8 + n) = c8 v + cnt (fun k => q.testBit k) n := by
  rw [cnt_add]
  congr 1
  · refine cnt_cong 8 (fun k hk => ?_)
    show (256 * q + v).testBit k = v.testBit k
    rw [show 256 = 2 ^ 8 from rfl, Nat.testBit_two_pow_mul_add _ (show v < 2 ^ 8 from hv), if_pos hk]
  · refine cnt_cong n (fun k hk => ?_)
    show (256 * q + v).testBit (8 + k) = q.testBit k
    rw [show 256 = 2 ^ 8 from rfl, Nat.testBit_two_pow_mul_add _ (show v < 2 ^ 8 from hv), if_neg (by omega), show 8 + k - 8 = k by omega]
def j1 (x : Int64) : Int64 := x - (ushL x 1 &&& 6148914691236517205)
def j2 (x : Int64) : Int64 := (x &&& 3689348814741910323) + (ushL x 2 &&& 3689348814741910323)
def j3 (x : Int64) : Int64 := (x + ushL x 4) &&& 1085102592571150095
def j4 (x : Int64) : Int64 := x + ushL x 8
def j5 (x : Int64) : Int64 := x + ushL x 16
def j6 (x : Int64) : Int64 := x + ushL x 32
theorem j13 (N : Nat) (x : Int64) : f_J13_bitCount_95d88 N x = some ((j6 (j5 (j4 (j3 (j2 (j1 x)))))).toInt32 &&& 127) := rfl
theorem us (b k : Nat) (hb : b < 2 ^ 64) (hk : k < 64) : ushL (lN b) (nI k) = lN (b / 2 ^ k) := wb_shr hb hk
theorem bitL (N b : Nat) (hb : b < 2 ^ 40) : f_J13_bitCount_95d88 N (lN b) = some (nI (cnt (fun k => b.testBit k) 40)) := by
  obtain ⟨b1, v0, h0, rfl⟩ : ∃ q v, v < 256 ∧ b = 256 * q + v := ⟨b / 256, b % 256, Nat.mod_lt _ (by omega), by omega⟩
  obtain ⟨b2, v1, h1, rfl⟩ : ∃ q v, v < 256 ∧ b1 = 256 * q + v := ⟨b1 / 256, b1 % 256, Nat.mod_lt _ (by omega), by omega⟩
  obtain ⟨b3, v2, h2, rfl⟩ : ∃ q v, v < 256 ∧ b2 = 256 * q + v := ⟨b2 / 256, b2 % 256, Nat.mod_lt _ (by omega), by omega⟩
  obtain ⟨b4, v3, h3, rfl⟩ : ∃ q v, v < 256 ∧ b3 = 256 * q + v := ⟨b3 / 256, b3 % 256, Nat.mod_lt _ (by omega), by omega⟩
  obtain ⟨b5, v4, h4, rfl⟩ : ∃ q v, v < 256 ∧ b4 = 256 * q + v := ⟨b4 / 256, b4 % 256, Nat.mod_lt _ (by omega), by omega⟩
  obtain rfl : b5 = 0 := by omega
  have hc : cnt (fun k => (256 * (256 * (256 * (256 * (256 * 0 + v4) + v3) + v2) + v1) + v0).testBit k) 40 = c8 v0 + (c8 v1 + (c8 v2 + (c8 v3 + c8 v4))) := by
    have e4 := cnt_8 0 v4 0 h4
    have e3 := cnt_8 (256 * 0 + v4) v3 8 h3
    have e2 := cnt_8 (256 * (256 * 0 + v4) + v3) v2 16 h2
    have e1 := cnt_8 (256 * (256 * (256 * 0 + v4) + v3) + v2) v1 24 h1
    have e0 := cnt_8 (256 * (256 * (256 * (256 * 0 + v4) + v3) + v2) + v1) v0 32 h0
    have z : cnt (fun k => (0 : Nat).testBit k) 0 = 0 := rfl
    rw [z] at e4
    rw [show (8 : Nat) + 0 = 8 from rfl] at e4
    rw [e4] at e3
    rw [show (8 : Nat) + 8 = 16 from rfl] at e3
    rw [e3] at e2
    rw [show (8 : Nat) + 16 = 24 from rfl] at e2
    rw [e2] at e1
    rw [show (8 : Nat) + 24 = 32 from rfl] at e1
    rw [e1] at e0
    exact e0
  have hP : P8 8 (256 * (256 * (256 * (256 * (256 * 0 + v4) + v3) + v2) + v1) + v0) = 256 * (256 * (256 * (256 * c8 v4 + c8 v3) + c8 v2) + c8 v1) + c8 v0 := by
    rw [P8_s 7 _ v0 h0, P8_s 6 _ v1 h1, P8_s 5 _ v2 h2, P8_s 4 _ v3 h3, P8_s 3 _ v4 h4, P8_z]
    simp only [Nat.mul_zero, Nat.zero_add]
  rw [hc, j13]
  generalize hbb : 256 * (256 * (256 * (256 * (256 * 0 + v4) + v3) + v2) + v1) + v0 = b at hP hb
  have hS1 : S1 8 b ≤ b := Nat.sub_le _ _
  have e1 : j1 (lN b) = lN (S1 8 b) := by
    unfold j1 S1
    rw [show (1 : Int32) = nI 1 from rfl, us b 1 (by omega) (by omega), show (6148914691236517205 : Int64) = lN (mk8 85 8) from by decide, fb_andL, lN_sub (Nat.le_trans Nat.and_le_left (by omega))]
  have hS2 : S2 8 (S1 8 b) < 2 ^ 42 := by
    have q1 : S1 8 b &&& mk8 51 8 ≤ S1 8 b := Nat.and_le_left
    have q2 : S1 8 b / 4 &&& mk8 51 8 ≤ S1 8 b / 4 := Nat.and_le_left
    unfold S2
    omega
  have e2 : j2 (lN (S1 8 b)) = lN (S2 8 (S1 8 b)) := by
    unfold j2 S2
    rw [show (2 : Int32) = nI 2 from rfl, us _ 2 (by omega) (by omega), show (3689348814741910323 : Int64) = lN (mk8 51 8) from by decide, fb_andL, fb_andL, lN_add]
  have e3 : j3 (lN (S2 8 (S1 8 b))) = lN (P8 8 b) := by
    unfold j3 P8 S3
    rw [show (4 : Int32) = nI 4 from rfl, us _ 4 (by omega) (by omega), lN_add, show (1085102592571150095 : Int64) = lN (mk8 15 8) from by decide, fb_andL]
  have k0 := c8_le v0
  have k1 := c8_le v1
  have k2 := c8_le v2
  have k3 := c8_le v3
  have k4 := c8_le v4
  generalize c8 v0 = t0 at k0 hP ⊢
  generalize c8 v1 = t1 at k1 hP ⊢
  generalize c8 v2 = t2 at k2 hP ⊢
  generalize c8 v3 = t3 at k3 hP ⊢
  generalize c8 v4 = t4 at k4 hP ⊢
  rw [e1, e2, e3, hP]
  generalize hx3 : 256 * (256 * (256 * (256 * t4 + t3) + t2) + t1) + t0 = x3
  have e4 : j4 (lN x3) = lN (x3 + x3 / 256) := by
    unfold j4
    rw [show (8 : Int32) = nI 8 from rfl, us _ 8 (by omega) (by omega), lN_add]
  generalize hx4 : x3 + x3 / 256 = x4 at e4
  have e5 : j5 (lN x4) = lN (x4 + x4 / 65536) := by
    unfold j5
    rw [show (16 : Int32) = nI 16 from rfl, us _ 16 (by omega) (by omega), lN_add]
  generalize hx5 : x4 + x4 / 65536 = x5 at e5
  have e6 : j6 (lN x5) = lN (x5 + x5 / 4294967296) := by
    unfold j6
    rw [show (32 : Int32) = nI 32 from rfl, us _ 32 (by omega) (by omega), lN_add]
  rw [e4, e5, e6, lN_i, show (127 : Int32) = nI (2 ^ 7 - 1) from rfl, fa_mask]
  congr 2
  have q1 : x3 / 256 = 256 * (256 * (256 * t4 + t3) + t2) + t1 := by omega
  have q2 : x4 / 65536 = (t2 + t3) + 256 * (t3 + t4) + 65536 * t4 := by omega
  have q3 : x5 / 4294967296 = t4 := by omega
  have : (x5 + x5 / 4294967296) % 128 = t0 + (t1 + (t2 + (t3 + t4))) := by omega
  rw [show (2 : Nat) ^ 7 = 128 from rfl, this]
theorem bitI0 : ∀ q, q < 64 → ∀ s, s < 64 → f_J6_bitCount_0f7a4 0 (nI (64 * q + s)) = some (nI (cnt (fun k => (64 * q + s).testBit k) 12)) := by decide +kernel
theorem bitI (N b : Nat) (h : b < 4096) : f_J6_bitCount_0f7a4 N (nI b) = some (nI (cnt (fun k => b.testBit k) 12)) := by
  have := bitI0 (b / 64) (by omega) (b % 64) (by omega)
  rw [show 64 * (b / 64) + b % 64 = b by omega] at this
  exact this
