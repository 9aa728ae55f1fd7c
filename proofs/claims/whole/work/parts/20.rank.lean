/-! Rankings -/
def mxI (x y : Int32) : Int32 := if x < y then y else x
def mnI (x y : Int32) : Int32 := if y < x then y else x
def k_ro (r s : Int32) : Int32 := (r >>> ((3 * s) &&& 31)) &&& 7
def k_wr (r s k : Int32) : Int32 := r ||| (k <<< ((3 * s) &&& 31))
def k_go (r : Int32) : Int32 := mxI (mxI (mxI (mxI 0 (k_ro r 0)) (k_ro r 1)) (k_ro r 2)) (k_ro r 3)
def k_lv (k : Int32) : Int32 := k_wr (k_wr (k_wr (k_wr 0 0 k) 1 k) 2 k) 3 k
def k_gt (t f : Int32) : Int32 := 2 * bc (t &&& (f ^^^ (-1))) - 1
set_option maxRecDepth 4000 in
theorem c_X4_rankOf {ad : Nat → Nat} (σ : sS) (r s : Int32)  : ab_X (sR ad) 1 mX4_rankOf [.int r, .int s] σ (some (.int (k_ro r s))) σ := by
  refine ab_X.of (by decide) (Nat.le_of_ble_eq_true rfl) ?_
  refine r_iload_n dX4_rankOf_0 0 rfl ?_
  refine r_iconst (v := 3) dX4_rankOf_1 (by decide) ?_
  refine r_iload_n dX4_rankOf_2 1 rfl ?_
  refine r_imul dX4_rankOf_3 ?_
  refine r_ishr dX4_rankOf_4 ?_
  refine r_bipush (v := 7) dX4_rankOf_5 (by decide) ?_
  refine r_iand dX4_rankOf_7 ?_
  refine r_iret rfl dX4_rankOf_8 ?_
  exact ⟨rfl, rfl⟩
set_option maxRecDepth 4000 in
theorem c_X4_withRank {ad : Nat → Nat} (σ : sS) (r s k : Int32)  : ab_X (sR ad) 1 mX4_withRank [.int r, .int s, .int k] σ (some (.int (k_wr r s k))) σ := by
  refine ab_X.of (by decide) (Nat.le_of_ble_eq_true rfl) ?_
  refine r_iload_n dX4_withRank_0 0 rfl ?_
  refine r_iload_n dX4_withRank_1 2 rfl ?_
  refine r_iconst (v := 3) dX4_withRank_2 (by decide) ?_
  refine r_iload_n dX4_withRank_3 1 rfl ?_
  refine r_imul dX4_withRank_4 ?_
  refine r_ishl dX4_withRank_5 ?_
  refine r_ior dX4_withRank_6 ?_
  refine r_iret rfl dX4_withRank_7 ?_
  exact ⟨rfl, rfl⟩
set_option maxRecDepth 4000 in
theorem c_X4_greatestOf {ad : Nat → Nat} (σ : sS) (r : Int32)  : ab_X (sR ad) 2 mX4_greatestOf [.int r] σ (some (.int (k_go r))) σ := by
  refine ab_X.of (by decide) (Nat.le_of_ble_eq_true rfl) ?_
  refine r_iconst (v := 0) dX4_greatestOf_0 (by decide) ?_
  refine r_istore_n (lo' := [(1, .int 0), (0, .int r)]) dX4_greatestOf_1 (by decide) rfl ?_
  refine r_iconst (v := 0) dX4_greatestOf_2 (by decide) ?_
  refine r_istore_n (lo' := [(2, .int 0), (1, .int 0), (0, .int r)]) dX4_greatestOf_3 (by decide) rfl ?_
  refine r_iload_n dX4_greatestOf_4 0 rfl ?_
  refine r_iconst (v := 4) dX4_greatestOf_5 (by decide) ?_
  refine r_icmp_ge (t := 25) dX4_greatestOf_6 (by decide) (fun hh => absurd hh (by decide)) (fun _ => ?_)
  refine r_iload_n dX4_greatestOf_9 1 rfl ?_
  refine r_iload_n dX4_greatestOf_10 2 rfl ?_
  refine r_iload_n dX4_greatestOf_11 0 rfl ?_
  refine x_callS (Y := mX4_rankOf) (d' := 1) dX4_greatestOf_12 ml_X4_20 ys_X4_rankOf (by omega) rfl rfl (by simp [Value.category]) (c_X4_rankOf σ r 0) ?_
  refine r_max dX4_greatestOf_15 (by omega) ml_X4_24 ma_maxs ma_i ma_maxc (by simp [Value.category]) ?_
  refine r_istore_n (lo' := [(1, .int (mxI 0 (k_ro r 0))), (2, .int 0), (0, .int r)]) dX4_greatestOf_18 (by decide) rfl ?_
  refine r_iinc (v := 1) (lo' := [(2, .int 1), (1, .int (mxI 0 (k_ro r 0))), (0, .int r)]) dX4_greatestOf_19 1 rfl (by decide) (by decide) rfl ?_
  refine r_goto (t := 4) dX4_greatestOf_22 (by decide) ?_
  refine r_iload_n dX4_greatestOf_4 0 rfl ?_
  refine r_iconst (v := 4) dX4_greatestOf_5 (by decide) ?_
  refine r_icmp_ge (t := 25) dX4_greatestOf_6 (by decide) (fun hh => absurd hh (by decide)) (fun _ => ?_)
  refine r_iload_n dX4_greatestOf_9 1 rfl ?_
  refine r_iload_n dX4_greatestOf_10 2 rfl ?_
  refine r_iload_n dX4_greatestOf_11 0 rfl ?_
  refine x_callS (Y := mX4_rankOf) (d' := 1) dX4_greatestOf_12 ml_X4_20 ys_X4_rankOf (by omega) rfl rfl (by simp [Value.category]) (c_X4_rankOf σ r 1) ?_
  refine r_max dX4_greatestOf_15 (by omega) ml_X4_24 ma_maxs ma_i ma_maxc (by simp [Value.category]) ?_
  refine r_istore_n (lo' := [(1, .int (mxI (mxI 0 (k_ro r 0)) (k_ro r 1))), (2, .int 1), (0, .int r)]) dX4_greatestOf_18 (by decide) rfl ?_
  refine r_iinc (v := 2) (lo' := [(2, .int 2), (1, .int (mxI (mxI 0 (k_ro r 0)) (k_ro r 1))), (0, .int r)]) dX4_greatestOf_19 1 rfl (by decide) (by decide) rfl ?_
  refine r_goto (t := 4) dX4_greatestOf_22 (by decide) ?_
  refine r_iload_n dX4_greatestOf_4 0 rfl ?_
  refine r_iconst (v := 4) dX4_greatestOf_5 (by decide) ?_
  refine r_icmp_ge (t := 25) dX4_greatestOf_6 (by decide) (fun hh => absurd hh (by decide)) (fun _ => ?_)
  refine r_iload_n dX4_greatestOf_9 1 rfl ?_
  refine r_iload_n dX4_greatestOf_10 2 rfl ?_
  refine r_iload_n dX4_greatestOf_11 0 rfl ?_
  refine x_callS (Y := mX4_rankOf) (d' := 1) dX4_greatestOf_12 ml_X4_20 ys_X4_rankOf (by omega) rfl rfl (by simp [Value.category]) (c_X4_rankOf σ r 2) ?_
  refine r_max dX4_greatestOf_15 (by omega) ml_X4_24 ma_maxs ma_i ma_maxc (by simp [Value.category]) ?_
  refine r_istore_n (lo' := [(1, .int (mxI (mxI (mxI 0 (k_ro r 0)) (k_ro r 1)) (k_ro r 2))), (2, .int 2), (0, .int r)]) dX4_greatestOf_18 (by decide) rfl ?_
  refine r_iinc (v := 3) (lo' := [(2, .int 3), (1, .int (mxI (mxI (mxI 0 (k_ro r 0)) (k_ro r 1)) (k_ro r 2))), (0, .int r)]) dX4_greatestOf_19 1 rfl (by decide) (by decide) rfl ?_
  refine r_goto (t := 4) dX4_greatestOf_22 (by decide) ?_
  refine r_iload_n dX4_greatestOf_4 0 rfl ?_
  refine r_iconst (v := 4) dX4_greatestOf_5 (by decide) ?_
  refine r_icmp_ge (t := 25) dX4_greatestOf_6 (by decide) (fun hh => absurd hh (by decide)) (fun _ => ?_)
  refine r_iload_n dX4_greatestOf_9 1 rfl ?_
  refine r_iload_n dX4_greatestOf_10 2 rfl ?_
  refine r_iload_n dX4_greatestOf_11 0 rfl ?_
  refine x_callS (Y := mX4_rankOf) (d' := 1) dX4_greatestOf_12 ml_X4_20 ys_X4_rankOf (by omega) rfl rfl (by simp [Value.category]) (c_X4_rankOf σ r 3) ?_
  refine r_max dX4_greatestOf_15 (by omega) ml_X4_24 ma_maxs ma_i ma_maxc (by simp [Value.category]) ?_
  refine r_istore_n (lo' := [(1, .int (mxI (mxI (mxI (mxI 0 (k_ro r 0)) (k_ro r 1)) (k_ro r 2)) (k_ro r 3))), (2, .int 3), (0, .int r)]) dX4_greatestOf_18 (by decide) rfl ?_
  refine r_iinc (v := 4) (lo' := [(2, .int 4), (1, .int (mxI (mxI (mxI (mxI 0 (k_ro r 0)) (k_ro r 1)) (k_ro r 2)) (k_ro r 3))), (0, .int r)]) dX4_greatestOf_19 1 rfl (by decide) (by decide) rfl ?_
  refine r_goto (t := 4) dX4_greatestOf_22 (by decide) ?_
  refine r_iload_n dX4_greatestOf_4 0 rfl ?_
  refine r_iconst (v := 4) dX4_greatestOf_5 (by decide) ?_
  refine r_icmp_ge (t := 25) dX4_greatestOf_6 (by decide) (fun _ => ?_) (fun hh => absurd (by decide) hh)
  refine r_iload_n dX4_greatestOf_25 1 rfl ?_
  refine r_iret rfl dX4_greatestOf_26 ?_
  exact ⟨rfl, rfl⟩
set_option maxRecDepth 4000 in
theorem c_X4_level {ad : Nat → Nat} (σ : sS) (k : Int32)  : ab_X (sR ad) 2 mX4_level [.int k] σ (some (.int (k_lv k))) σ := by
  refine ab_X.of (by decide) (Nat.le_of_ble_eq_true rfl) ?_
  refine r_iconst (v := 0) dX4_level_0 (by decide) ?_
  refine r_istore_n (lo' := [(1, .int 0), (0, .int k)]) dX4_level_1 (by decide) rfl ?_
  refine r_iconst (v := 0) dX4_level_2 (by decide) ?_
  refine r_istore_n (lo' := [(2, .int 0), (1, .int 0), (0, .int k)]) dX4_level_3 (by decide) rfl ?_
  refine r_iload_n dX4_level_4 0 rfl ?_
  refine r_iconst (v := 4) dX4_level_5 (by decide) ?_
  refine r_icmp_ge (t := 22) dX4_level_6 (by decide) (fun hh => absurd hh (by decide)) (fun _ => ?_)
  refine r_iload_n dX4_level_9 1 rfl ?_
  refine r_iload_n dX4_level_10 0 rfl ?_
  refine r_iload_n dX4_level_11 2 rfl ?_
  refine x_callS (Y := mX4_withRank) (d' := 1) dX4_level_12 ml_X4_35 ys_X4_withRank (by omega) rfl rfl (by simp [Value.category]) (c_X4_withRank σ 0 0 k) ?_
  refine r_istore_n (lo' := [(1, .int (k_wr 0 0 k)), (2, .int 0), (0, .int k)]) dX4_level_15 (by decide) rfl ?_
  refine r_iinc (v := 1) (lo' := [(2, .int 1), (1, .int (k_wr 0 0 k)), (0, .int k)]) dX4_level_16 1 rfl (by decide) (by decide) rfl ?_
  refine r_goto (t := 4) dX4_level_19 (by decide) ?_
  refine r_iload_n dX4_level_4 0 rfl ?_
  refine r_iconst (v := 4) dX4_level_5 (by decide) ?_
  refine r_icmp_ge (t := 22) dX4_level_6 (by decide) (fun hh => absurd hh (by decide)) (fun _ => ?_)
  refine r_iload_n dX4_level_9 1 rfl ?_
  refine r_iload_n dX4_level_10 0 rfl ?_
  refine r_iload_n dX4_level_11 2 rfl ?_
  refine x_callS (Y := mX4_withRank) (d' := 1) dX4_level_12 ml_X4_35 ys_X4_withRank (by omega) rfl rfl (by simp [Value.category]) (c_X4_withRank σ (k_wr 0 0 k) 1 k) ?_
  refine r_istore_n (lo' := [(1, .int (k_wr (k_wr 0 0 k) 1 k)), (2, .int 1), (0, .int k)]) dX4_level_15 (by decide) rfl ?_
  refine r_iinc (v := 2) (lo' := [(2, .int 2), (1, .int (k_wr (k_wr 0 0 k) 1 k)), (0, .int k)]) dX4_level_16 1 rfl (by decide) (by decide) rfl ?_
  refine r_goto (t := 4) dX4_level_19 (by decide) ?_
  refine r_iload_n dX4_level_4 0 rfl ?_
  refine r_iconst (v := 4) dX4_level_5 (by decide) ?_
  refine r_icmp_ge (t := 22) dX4_level_6 (by decide) (fun hh => absurd hh (by decide)) (fun _ => ?_)
  refine r_iload_n dX4_level_9 1 rfl ?_
  refine r_iload_n dX4_level_10 0 rfl ?_
  refine r_iload_n dX4_level_11 2 rfl ?_
  refine x_callS (Y := mX4_withRank) (d' := 1) dX4_level_12 ml_X4_35 ys_X4_withRank (by omega) rfl rfl (by simp [Value.category]) (c_X4_withRank σ (k_wr (k_wr 0 0 k) 1 k) 2 k) ?_
  refine r_istore_n (lo' := [(1, .int (k_wr (k_wr (k_wr 0 0 k) 1 k) 2 k)), (2, .int 2), (0, .int k)]) dX4_level_15 (by decide) rfl ?_
  refine r_iinc (v := 3) (lo' := [(2, .int 3), (1, .int (k_wr (k_wr (k_wr 0 0 k) 1 k) 2 k)), (0, .int k)]) dX4_level_16 1 rfl (by decide) (by decide) rfl ?_
  refine r_goto (t := 4) dX4_level_19 (by decide) ?_
  refine r_iload_n dX4_level_4 0 rfl ?_
  refine r_iconst (v := 4) dX4_level_5 (by decide) ?_
  refine r_icmp_ge (t := 22) dX4_level_6 (by decide) (fun hh => absurd hh (by decide)) (fun _ => ?_)
  refine r_iload_n dX4_level_9 1 rfl ?_
  refine r_iload_n dX4_level_10 0 rfl ?_
  refine r_iload_n dX4_level_11 2 rfl ?_
  refine x_callS (Y := mX4_withRank) (d' := 1) dX4_level_12 ml_X4_35 ys_X4_withRank (by omega) rfl rfl (by simp [Value.category]) (c_X4_withRank σ (k_wr (k_wr (k_wr 0 0 k) 1 k) 2 k) 3 k) ?_
  refine r_istore_n (lo' := [(1, .int (k_wr (k_wr (k_wr (k_wr 0 0 k) 1 k) 2 k) 3 k)), (2, .int 3), (0, .int k)]) dX4_level_15 (by decide) rfl ?_
  refine r_iinc (v := 4) (lo' := [(2, .int 4), (1, .int (k_wr (k_wr (k_wr (k_wr 0 0 k) 1 k) 2 k) 3 k)), (0, .int k)]) dX4_level_16 1 rfl (by decide) (by decide) rfl ?_
  refine r_goto (t := 4) dX4_level_19 (by decide) ?_
  refine r_iload_n dX4_level_4 0 rfl ?_
  refine r_iconst (v := 4) dX4_level_5 (by decide) ?_
  refine r_icmp_ge (t := 22) dX4_level_6 (by decide) (fun _ => ?_) (fun hh => absurd (by decide) hh)
  refine r_iload_n dX4_level_22 1 rfl ?_
  refine r_iret rfl dX4_level_23 ?_
  exact ⟨rfl, rfl⟩
set_option maxRecDepth 4000 in
theorem c_X4_greatestTight {ad : Nat → Nat} (σ : sS) (t f : Int32)  : ab_X (sR ad) 2 mX4_greatestTight [.int t, .int f] σ (some (.int (k_gt t f))) σ := by
  refine ab_X.of (by decide) (Nat.le_of_ble_eq_true rfl) ?_
  refine r_iconst (v := 2) dX4_greatestTight_0 (by decide) ?_
  refine r_iload_n dX4_greatestTight_1 0 rfl ?_
  refine r_iload_n dX4_greatestTight_2 1 rfl ?_
  refine r_iconst (v := (-1)) dX4_greatestTight_3 (by decide) ?_
  refine r_ixor dX4_greatestTight_4 ?_
  refine r_iand dX4_greatestTight_5 ?_
  refine x_callS (Y := mJ6_bitCount_0f7a4) (d' := 1) dX4_greatestTight_6 ml_X4_29 ys_J6_bitCount_0f7a4 (by omega) rfl rfl (by simp [Value.category]) (c_J6_bitCount_0f7a4 σ (t &&& (f ^^^ ((-1))))) ?_
  refine r_imul dX4_greatestTight_9 ?_
  refine r_iconst (v := 1) dX4_greatestTight_10 (by decide) ?_
  refine r_isub dX4_greatestTight_11 ?_
  refine r_iret rfl dX4_greatestTight_12 ?_
  exact ⟨rfl, rfl⟩
set_option maxRecDepth 4000 in
theorem c_X4_foundAt {ad : Nat → Nat} (σ : sS) (i : Int32)  : ab_X (sR ad) 2 mX4_foundAt [.ref (ad 15), .int i] σ (some (.int (rg σ 16 i))) σ := by
  refine ab_X.of (by decide) (Nat.le_of_ble_eq_true rfl) ?_
  refine r_aload_n dX4_foundAt_0 0 rfl ?_
  refine s_getR (b := 16) ok_X4 dX4_foundAt_1 (k := 0) (by decide) fl_X4_16 rfl rfl rfl ?_
  refine r_iload_n dX4_foundAt_4 1 rfl ?_
  refine x_callV (Y := mX7_get) (d' := 1) dX4_foundAt_5 ml_X4_56 yv_X7_get (by omega) rfl rfl (by simp [Value.category]) (sR_isR rfl) (c_get rfl i) ?_
  refine r_iret rfl dX4_foundAt_8 ?_
  exact ⟨rfl, rfl⟩
/-- a loop over ranks: rank by rank up to cap, what F does -/
def k_lp (F : sS → Int32 → sS) (step cap : Int32) : Nat → Int32 → sS → sS
  | 0, _, σ => σ
  | k + 1, r, σ => if cap < r then σ else k_lp F step cap k (r + step) (F σ r)
/-- rankFrom with n states left -/
def k_rf : Nat → sS → Int32 → Int32 → Int32 → sS
  | 0, σ, s, rk, ms => if bc ms ≤ bc (((vI σ 15 2 >>> (s &&& 31)) <<< (s &&& 31)) &&& (vI σ 15 3 ^^^ (-1))) then uI (rp σ 16 (vI σ 15 1) rk) 15 1 (vI (rp σ 16 (vI σ 15 1) rk) 15 1 + 1) else σ
  | n + 1, σ, s, rk, ms => if bc ms ≤ bc (((vI σ 15 2 >>> (s &&& 31)) <<< (s &&& 31)) &&& (vI σ 15 3 ^^^ (-1))) then
      (if q_in s (vI σ 15 2) = 0 then k_rf n σ (s + 1) rk ms
       else k_lp (fun τ r => k_rf n τ (s + 1) (k_wr rk s r) (ms &&& ((1 <<< (r &&& 31)) ^^^ (-1)))) (if q_in s (vI σ 15 3) = 0 then 1 else 2) (k_ro (vI σ 15 4) s) 8 0 σ) else σ
theorem k_ro_le (r s : Int32) : ∃ j : Nat, j < 8 ∧ k_ro r s = nI j := by
  obtain ⟨j, h1, h2⟩ := pk_andE (r >>> ((3 * s) &&& 31)) (m := 7) 3 (by decide)
  exact ⟨j, by omega, h2⟩
theorem l_X4_rank {ad : Nat → Nat} {n : Nat} {s rk ms left step cap : Int32} {q m : Nat} (hq : step = nI q) (hq1 : 1 ≤ q) (hq2 : q ≤ 2) (hm : cap = nI m) (hm8 : m < 8) (hrec : ∀ (σ : sS) (rk ms : Int32), ab_X (sR ad) (n + 2) mX4_rankFrom [.ref (ad 15), .int (s + 1), .int rk, .int ms] σ none (k_rf n σ (s + 1) rk ms)) :
    ∀ (k j : Nat) (σ : sS), 8 ≤ j + k → j < 20 → ab_E (sR ad) mX4_rankFrom (n + 3) 114 [(7, .int (nI j)), (6, .int cap), (5, .int step), (4, .int left), (0, .ref (ad 15)), (1, .int s), (2, .int rk), (3, .int ms)] [] σ (fun r σ' => r = none ∧ σ' = k_lp (fun τ r => k_rf n τ (s + 1) (k_wr rk s r) (ms &&& ((1 <<< (r &&& 31)) ^^^ (-1)))) step cap k (nI j) σ) := by
  intro k
  induction k with
  | zero =>
    intro j σ h1 h2
    have hc : cap < nI j := by rw [hm]; exact nI_lt (by omega) (by omega)
    refine r_iload dX4_rankFrom_114 0 rfl ?_
    refine r_iload dX4_rankFrom_116 1 rfl ?_
    refine r_icmp_gt (t := 153) dX4_rankFrom_118 (by decide) (fun _ => ?_) (fun hh => absurd hc hh)
    refine r_vret rfl dX4_rankFrom_153 ?_
    exact ⟨rfl, rfl⟩
  | succ k ih =>
    intro j σ h1 h2
    refine r_iload dX4_rankFrom_114 0 rfl ?_
    refine r_iload dX4_rankFrom_116 1 rfl ?_
    refine r_icmp_gt (t := 153) dX4_rankFrom_118 (by decide) (fun c1 => ?_) (fun c1 => ?_)
    · have c1 : cap < (nI j) := c1
      refine r_vret rfl dX4_rankFrom_153 ?_
      exact ⟨rfl, by rw [k_lp, if_pos c1]⟩
    · have c1 : ¬ (cap < (nI j)) := c1
      refine r_aload_n dX4_rankFrom_121 4 rfl ?_
      refine r_iload_n dX4_rankFrom_122 5 rfl ?_
      refine r_iconst (v := 1) dX4_rankFrom_123 (by decide) ?_
      refine r_iadd dX4_rankFrom_124 ?_
      refine r_iload_n dX4_rankFrom_125 6 rfl ?_
      refine r_iload_n dX4_rankFrom_126 5 rfl ?_
      refine r_iload dX4_rankFrom_127 0 rfl ?_
      refine x_callS (Y := mX4_withRank) (d' := 1) dX4_rankFrom_129 ml_X4_35 ys_X4_withRank (by omega) rfl rfl (by simp [Value.category]) (c_X4_withRank σ rk s (nI j)) ?_
      refine r_iload_n dX4_rankFrom_132 7 rfl ?_
      refine r_iconst (v := 1) dX4_rankFrom_133 (by decide) ?_
      refine r_iload dX4_rankFrom_134 0 rfl ?_
      refine r_ishl dX4_rankFrom_136 ?_
      refine r_iconst (v := (-1)) dX4_rankFrom_137 (by decide) ?_
      refine r_ixor dX4_rankFrom_138 ?_
      refine r_iand dX4_rankFrom_139 ?_
      refine x_callV0 (Y := mX4_rankFrom) (d' := n + 2) dX4_rankFrom_140 ml_X4_52 yv_X4_rankFrom (by omega) rfl rfl (by simp [Value.category]) (sR_is rfl rfl) (hrec σ (k_wr rk s (nI j)) (ms &&& (((1 : Int32) <<< ((nI j) &&& 31)) ^^^ ((-1))))) ?_
      refine r_iload dX4_rankFrom_143 0 rfl ?_
      refine r_iload dX4_rankFrom_145 2 rfl ?_
      refine r_iadd dX4_rankFrom_147 ?_
      refine r_istore (lo' := [(7, .int ((nI j) + step)), (6, .int cap), (5, .int step), (4, .int left), (0, .ref (ad 15)), (1, .int s), (2, .int rk), (3, .int ms)]) dX4_rankFrom_148 (by decide) rfl ?_
      refine r_goto (t := 114) dX4_rankFrom_150 (by decide) ?_
      have e1 : nI j + step = nI (j + q) := by rw [hq, nI_add]
      rw [e1]
      rw [k_lp, if_neg c1, e1]
      exact ab_E.lo [0, 1, 2, 3, 4, 5, 6, 7] rfl (ih (j + q) _ (by omega) (by have := (nI_leI (a := j) (b := m) (by omega) (by omega)).mp (by rw [← hm]; exact Int32.not_lt.mp c1); omega))
theorem c_X4_rankFrom {ad : Nat → Nat} : ∀ (n : Nat) (s : Int32) (_ : n ≤ 4) (_ : s = nI (4 - n)) (σ : sS) (rk ms : Int32), ab_X (sR ad) (n + 2) mX4_rankFrom [.ref (ad 15), .int s, .int rk, .int ms] σ none (k_rf n σ s rk ms) := by
  intro n
  induction n with
  | zero =>
    intro s hn hs4 σ rk ms
    have hs : ¬ s < 4 := by rw [hs4]; decide
    refine ab_X.of (by decide) (Nat.le_of_ble_eq_true rfl) ?_
    refine r_aload_n dX4_rankFrom_0 0 rfl ?_
    refine s_getI ok_X4 dX4_rankFrom_1 (k := 2) (by decide) fl_X4_43 rfl rfl ?_
    refine r_iload_n dX4_rankFrom_4 1 rfl ?_
    refine r_ishr dX4_rankFrom_5 ?_
    refine r_iload_n dX4_rankFrom_6 1 rfl ?_
    refine r_ishl dX4_rankFrom_7 ?_
    refine r_istore (lo' := [(4, .int (((vI σ 15 2) >>> (s &&& 31)) <<< (s &&& 31))), (0, .ref (ad 15)), (1, .int s), (2, .int rk), (3, .int ms)]) dX4_rankFrom_8 (by decide) rfl ?_
    refine r_iload_n dX4_rankFrom_10 4 rfl ?_
    refine x_callS (Y := mJ6_bitCount_0f7a4) (d' := 1) dX4_rankFrom_11 ml_X4_29 ys_J6_bitCount_0f7a4 (by omega) rfl rfl (by simp [Value.category]) (c_J6_bitCount_0f7a4 σ ms) ?_
    refine r_iload dX4_rankFrom_14 0 rfl ?_
    refine r_aload_n dX4_rankFrom_16 1 rfl ?_
    refine s_getI ok_X4 dX4_rankFrom_17 (k := 3) (by decide) fl_X4_46 rfl rfl ?_
    refine r_iconst (v := (-1)) dX4_rankFrom_20 (by decide) ?_
    refine r_ixor dX4_rankFrom_21 ?_
    refine r_iand dX4_rankFrom_22 ?_
    refine x_callS (Y := mJ6_bitCount_0f7a4) (d' := 1) dX4_rankFrom_23 ml_X4_29 ys_J6_bitCount_0f7a4 (by omega) rfl rfl (by simp [Value.category]) (c_J6_bitCount_0f7a4 σ ((((vI σ 15 2) >>> (s &&& 31)) <<< (s &&& 31)) &&& ((vI σ 15 3) ^^^ ((-1))))) ?_
    refine r_icmp_le (t := 30) dX4_rankFrom_26 (by decide) (fun c1 => ?_) (fun c1 => ?_)
    · have c1 : (bc ms) ≤ (bc ((((vI σ 15 2) >>> (s &&& 31)) <<< (s &&& 31)) &&& ((vI σ 15 3) ^^^ ((-1))))) := c1
      refine r_iload_n dX4_rankFrom_30 2 rfl ?_
      refine r_iconst (v := 4) dX4_rankFrom_31 (by decide) ?_
      refine r_icmp_lt (t := 60) dX4_rankFrom_32 (by decide) (fun hh => absurd hh hs) (fun _ => ?_)
      refine r_aload_n dX4_rankFrom_35 1 rfl ?_
      refine s_getR (b := 16) ok_X4 dX4_rankFrom_36 (k := 0) (by decide) fl_X4_16 rfl rfl rfl ?_
      refine r_aload_n dX4_rankFrom_39 1 rfl ?_
      refine s_getI ok_X4 dX4_rankFrom_40 (k := 1) (by decide) fl_X4_39 rfl rfl ?_
      refine r_iload_n dX4_rankFrom_43 3 rfl ?_
      refine x_callV0 (Y := mX7_put) (d' := 1) dX4_rankFrom_44 ml_X4_59 yv_X7_put (by omega) rfl rfl (by simp [Value.category]) (sR_isR rfl) (c_put rfl (vI σ 15 1) rk) ?_
      refine r_aload_n dX4_rankFrom_47 1 rfl ?_
      refine r_dup dX4_rankFrom_48 rfl ?_
      refine s_getI ok_X4 dX4_rankFrom_49 (k := 1) (by decide) fl_X4_39 rfl rfl ?_
      refine r_iconst (v := 1) dX4_rankFrom_52 (by decide) ?_
      refine r_iadd dX4_rankFrom_53 ?_
      refine s_putI ok_X4 dX4_rankFrom_54 (k := 1) (by decide) fl_X4_39 rfl rfl rfl rfl rfl ?_
      refine r_goto (t := 153) dX4_rankFrom_57 (by decide) ?_
      refine r_vret rfl dX4_rankFrom_153 ?_
      exact ⟨rfl, by rw [k_rf]; simp only [eq_true c1, ↓reduceIte]⟩
    · have c1 : ¬ ((bc ms) ≤ (bc ((((vI σ 15 2) >>> (s &&& 31)) <<< (s &&& 31)) &&& ((vI σ 15 3) ^^^ ((-1)))))) := c1
      refine r_vret rfl dX4_rankFrom_29 ?_
      exact ⟨rfl, by rw [k_rf]; simp only [eq_false c1, ↓reduceIte]⟩
  | succ n ih =>
    intro s hn hs4 σ rk ms
    have hs : s < 4 := by rw [hs4]; exact nI_lt (b := 4) (by omega) (by decide)
    have hrec := ih (s + 1) (by omega) (by rw [hs4, nI_1]; congr 1; omega)
    refine ab_X.of (by decide) (Nat.le_of_ble_eq_true rfl) ?_
    refine r_aload_n dX4_rankFrom_0 0 rfl ?_
    refine s_getI ok_X4 dX4_rankFrom_1 (k := 2) (by decide) fl_X4_43 rfl rfl ?_
    refine r_iload_n dX4_rankFrom_4 1 rfl ?_
    refine r_ishr dX4_rankFrom_5 ?_
    refine r_iload_n dX4_rankFrom_6 1 rfl ?_
    refine r_ishl dX4_rankFrom_7 ?_
    refine r_istore (lo' := [(4, .int (((vI σ 15 2) >>> (s &&& 31)) <<< (s &&& 31))), (0, .ref (ad 15)), (1, .int s), (2, .int rk), (3, .int ms)]) dX4_rankFrom_8 (by decide) rfl ?_
    refine r_iload_n dX4_rankFrom_10 4 rfl ?_
    refine x_callS (Y := mJ6_bitCount_0f7a4) (d' := 1) dX4_rankFrom_11 ml_X4_29 ys_J6_bitCount_0f7a4 (by omega) rfl rfl (by simp [Value.category]) (c_J6_bitCount_0f7a4 σ ms) ?_
    refine r_iload dX4_rankFrom_14 0 rfl ?_
    refine r_aload_n dX4_rankFrom_16 1 rfl ?_
    refine s_getI ok_X4 dX4_rankFrom_17 (k := 3) (by decide) fl_X4_46 rfl rfl ?_
    refine r_iconst (v := (-1)) dX4_rankFrom_20 (by decide) ?_
    refine r_ixor dX4_rankFrom_21 ?_
    refine r_iand dX4_rankFrom_22 ?_
    refine x_callS (Y := mJ6_bitCount_0f7a4) (d' := 1) dX4_rankFrom_23 ml_X4_29 ys_J6_bitCount_0f7a4 (by omega) rfl rfl (by simp [Value.category]) (c_J6_bitCount_0f7a4 σ ((((vI σ 15 2) >>> (s &&& 31)) <<< (s &&& 31)) &&& ((vI σ 15 3) ^^^ ((-1))))) ?_
    refine r_icmp_le (t := 30) dX4_rankFrom_26 (by decide) (fun c1 => ?_) (fun c1 => ?_)
    · have c1 : (bc ms) ≤ (bc ((((vI σ 15 2) >>> (s &&& 31)) <<< (s &&& 31)) &&& ((vI σ 15 3) ^^^ ((-1))))) := c1
      refine r_iload_n dX4_rankFrom_30 2 rfl ?_
      refine r_iconst (v := 4) dX4_rankFrom_31 (by decide) ?_
      refine r_icmp_lt (t := 60) dX4_rankFrom_32 (by decide) (fun _ => ?_) (fun hh => absurd hs hh)
      refine r_iload_n dX4_rankFrom_60 2 rfl ?_
      refine r_aload_n dX4_rankFrom_61 1 rfl ?_
      refine s_getI ok_X4 dX4_rankFrom_62 (k := 2) (by decide) fl_X4_43 rfl rfl ?_
      refine x_callSN (Y := mX11_isIn) (d' := 1) dX4_rankFrom_65 mn_X4_63 ys_X11_isIn (by omega) rfl rfl (by simp [Value.category]) (c_X11_isIn σ s (vI σ 15 2)) ?_
      refine r_if_ne (t := 83) dX4_rankFrom_68 (by decide) (fun c2 => ?_) (fun c2 => ?_)
      · have c2 : ¬ ((q_in s (vI σ 15 2)) = 0) := c2
        refine r_iload_n dX4_rankFrom_83 2 rfl ?_
        refine r_aload_n dX4_rankFrom_84 1 rfl ?_
        refine s_getI ok_X4 dX4_rankFrom_85 (k := 3) (by decide) fl_X4_46 rfl rfl ?_
        refine x_callSN (Y := mX11_isIn) (d' := 1) dX4_rankFrom_88 mn_X4_63 ys_X11_isIn (by omega) rfl rfl (by simp [Value.category]) (c_X11_isIn σ s (vI σ 15 3)) ?_
        refine r_if_eq (t := 98) dX4_rankFrom_91 (by decide) (fun c3 => ?_) (fun c3 => ?_)
        · have c3 : (q_in s (vI σ 15 3)) = 0 := c3
          refine r_iconst (v := 1) dX4_rankFrom_98 (by decide) ?_
          refine r_istore (lo' := [(5, .int 1), (4, .int (((vI σ 15 2) >>> (s &&& 31)) <<< (s &&& 31))), (0, .ref (ad 15)), (1, .int s), (2, .int rk), (3, .int ms)]) dX4_rankFrom_99 (by decide) rfl ?_
          refine r_aload_n dX4_rankFrom_101 2 rfl ?_
          refine s_getI ok_X4 dX4_rankFrom_102 (k := 4) (by decide) fl_X4_49 rfl rfl ?_
          refine r_iload_n dX4_rankFrom_105 3 rfl ?_
          refine x_callS (Y := mX4_rankOf) (d' := 1) dX4_rankFrom_106 ml_X4_20 ys_X4_rankOf (by omega) rfl rfl (by simp [Value.category]) (c_X4_rankOf σ (vI σ 15 4) s) ?_
          refine r_istore (lo' := [(6, .int (k_ro (vI σ 15 4) s)), (5, .int 1), (4, .int (((vI σ 15 2) >>> (s &&& 31)) <<< (s &&& 31))), (0, .ref (ad 15)), (1, .int s), (2, .int rk), (3, .int ms)]) dX4_rankFrom_109 (by decide) rfl ?_
          refine r_iconst (v := 0) dX4_rankFrom_111 (by decide) ?_
          refine r_istore (lo' := [(7, .int 0), (6, .int (k_ro (vI σ 15 4) s)), (5, .int 1), (4, .int (((vI σ 15 2) >>> (s &&& 31)) <<< (s &&& 31))), (0, .ref (ad 15)), (1, .int s), (2, .int rk), (3, .int ms)]) dX4_rankFrom_112 (by decide) rfl ?_
          obtain ⟨m, hm8, hm⟩ := k_ro_le (vI σ 15 4) s
          have h := l_X4_rank (ad := ad) (n := n) (s := s) (rk := rk) (ms := ms) (left := ((vI σ 15 2) >>> (s &&& 31)) <<< (s &&& 31)) (step := 1) (cap := k_ro (vI σ 15 4) s) (q := 1) (m := m) (by decide) (by decide) (by decide) hm hm8 hrec 8 0 σ (by decide) (by decide)
          refine ab_E.mono h (fun r τ hh => ⟨hh.1, ?_⟩)
          rw [hh.2, k_rf]; simp only [eq_true c1, eq_false c2, eq_true c3, ↓reduceIte]
          rfl
        · have c3 : ¬ ((q_in s (vI σ 15 3)) = 0) := c3
          refine r_iconst (v := 2) dX4_rankFrom_94 (by decide) ?_
          refine r_goto (t := 99) dX4_rankFrom_95 (by decide) ?_
          refine r_istore (lo' := [(5, .int 2), (4, .int (((vI σ 15 2) >>> (s &&& 31)) <<< (s &&& 31))), (0, .ref (ad 15)), (1, .int s), (2, .int rk), (3, .int ms)]) dX4_rankFrom_99 (by decide) rfl ?_
          refine r_aload_n dX4_rankFrom_101 2 rfl ?_
          refine s_getI ok_X4 dX4_rankFrom_102 (k := 4) (by decide) fl_X4_49 rfl rfl ?_
          refine r_iload_n dX4_rankFrom_105 3 rfl ?_
          refine x_callS (Y := mX4_rankOf) (d' := 1) dX4_rankFrom_106 ml_X4_20 ys_X4_rankOf (by omega) rfl rfl (by simp [Value.category]) (c_X4_rankOf σ (vI σ 15 4) s) ?_
          refine r_istore (lo' := [(6, .int (k_ro (vI σ 15 4) s)), (5, .int 2), (4, .int (((vI σ 15 2) >>> (s &&& 31)) <<< (s &&& 31))), (0, .ref (ad 15)), (1, .int s), (2, .int rk), (3, .int ms)]) dX4_rankFrom_109 (by decide) rfl ?_
          refine r_iconst (v := 0) dX4_rankFrom_111 (by decide) ?_
          refine r_istore (lo' := [(7, .int 0), (6, .int (k_ro (vI σ 15 4) s)), (5, .int 2), (4, .int (((vI σ 15 2) >>> (s &&& 31)) <<< (s &&& 31))), (0, .ref (ad 15)), (1, .int s), (2, .int rk), (3, .int ms)]) dX4_rankFrom_112 (by decide) rfl ?_
          obtain ⟨m, hm8, hm⟩ := k_ro_le (vI σ 15 4) s
          have h := l_X4_rank (ad := ad) (n := n) (s := s) (rk := rk) (ms := ms) (left := ((vI σ 15 2) >>> (s &&& 31)) <<< (s &&& 31)) (step := 2) (cap := k_ro (vI σ 15 4) s) (q := 2) (m := m) (by decide) (by decide) (by decide) hm hm8 hrec 8 0 σ (by decide) (by decide)
          refine ab_E.mono h (fun r τ hh => ⟨hh.1, ?_⟩)
          rw [hh.2, k_rf]; simp only [eq_true c1, eq_false c2, eq_false c3, ↓reduceIte]
          rfl
      · have c2 : (q_in s (vI σ 15 2)) = 0 := c2
        refine r_aload_n dX4_rankFrom_71 1 rfl ?_
        refine r_iload_n dX4_rankFrom_72 2 rfl ?_
        refine r_iconst (v := 1) dX4_rankFrom_73 (by decide) ?_
        refine r_iadd dX4_rankFrom_74 ?_
        refine r_iload_n dX4_rankFrom_75 3 rfl ?_
        refine r_iload_n dX4_rankFrom_76 4 rfl ?_
        refine x_callV0 (Y := mX4_rankFrom) (d' := n + 2) dX4_rankFrom_77 ml_X4_52 yv_X4_rankFrom (by omega) rfl rfl (by simp [Value.category]) (sR_is rfl rfl) (hrec σ rk ms) ?_
        refine r_goto (t := 153) dX4_rankFrom_80 (by decide) ?_
        refine r_vret rfl dX4_rankFrom_153 ?_
        exact ⟨rfl, by rw [k_rf]; simp only [eq_true c1, eq_true c2, ↓reduceIte]⟩
    · have c1 : ¬ ((bc ms) ≤ (bc ((((vI σ 15 2) >>> (s &&& 31)) <<< (s &&& 31)) &&& ((vI σ 15 3) ^^^ ((-1)))))) := c1
      refine r_vret rfl dX4_rankFrom_29 ?_
      exact ⟨rfl, by rw [k_rf]; simp only [eq_false c1, ↓reduceIte]⟩
def k_fu (σ : sS) (t f g a : Int32) : sS := k_rf 4 (uI (uI (uI (uI σ 15 1 0) 15 2 t) 15 3 f) 15 4 a) 0 0 ((170 : Int32) &&& (((1 : Int32) <<< ((g + 1) &&& 31)) - 1))
theorem c_X4_findUnder {ad : Nat → Nat} (σ : sS) (t f g a : Int32) : ab_X (sR ad) 7 mX4_findUnder [.ref (ad 15), .int t, .int f, .int g, .int a] σ none (k_fu σ t f g a) := by
  refine ab_X.of (by decide) (Nat.le_of_ble_eq_true rfl) ?_
  refine r_aload_n dX4_findUnder_0 0 rfl ?_
  refine r_iconst (v := 0) dX4_findUnder_1 (by decide) ?_
  refine s_putI ok_X4 dX4_findUnder_2 (k := 1) (by decide) fl_X4_39 rfl rfl rfl rfl rfl ?_
  refine r_aload_n dX4_findUnder_5 0 rfl ?_
  refine r_iload_n dX4_findUnder_6 1 rfl ?_
  refine s_putI ok_X4 dX4_findUnder_7 (k := 2) (by decide) fl_X4_43 rfl rfl rfl rfl rfl ?_
  refine r_aload_n dX4_findUnder_10 0 rfl ?_
  refine r_iload_n dX4_findUnder_11 2 rfl ?_
  refine s_putI ok_X4 dX4_findUnder_12 (k := 3) (by decide) fl_X4_46 rfl rfl rfl rfl rfl ?_
  refine r_aload_n dX4_findUnder_15 0 rfl ?_
  refine r_iload dX4_findUnder_16 4 rfl ?_
  refine s_putI ok_X4 dX4_findUnder_18 (k := 4) (by decide) fl_X4_49 rfl rfl rfl rfl rfl ?_
  refine r_aload_n dX4_findUnder_21 0 rfl ?_
  refine r_iconst (v := 0) dX4_findUnder_22 (by decide) ?_
  refine r_iconst (v := 0) dX4_findUnder_23 (by decide) ?_
  refine r_sipush (v := 170) dX4_findUnder_24 (by decide) ?_
  refine r_iconst (v := 1) dX4_findUnder_27 (by decide) ?_
  refine r_iload_n dX4_findUnder_28 3 rfl ?_
  refine r_iconst (v := 1) dX4_findUnder_29 (by decide) ?_
  refine r_iadd dX4_findUnder_30 ?_
  refine r_ishl dX4_findUnder_31 ?_
  refine r_iconst (v := 1) dX4_findUnder_32 (by decide) ?_
  refine r_isub dX4_findUnder_33 ?_
  refine r_iand dX4_findUnder_34 ?_
  refine x_callV0 (Y := mX4_rankFrom) (d' := 6) dX4_findUnder_35 ml_X4_52 yv_X4_rankFrom (by omega) rfl rfl (by simp [Value.category]) (sR_is rfl rfl) (c_X4_rankFrom 4 0 (by decide) (by decide) (uI (uI (uI (uI σ 15 1 0) 15 2 t) 15 3 f) 15 4 a) 0 ((170 : Int32) &&& (((1 : Int32) <<< ((g + 1) &&& 31)) - 1))) ?_
  refine r_vret rfl dX4_findUnder_38 ?_
  exact ⟨rfl, rfl⟩
